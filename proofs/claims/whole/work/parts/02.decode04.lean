theorem dX7_term_71 : decode cX7_term 71 = .ok (.iload_n 2, 1) := by decide +kernel
theorem dX7_term_72 : decode cX7_term 72 = .ok (.bipush 7, 2) := by decide +kernel
theorem dX7_term_74 : decode cX7_term 74 = .ok (.iadd, 1) := by decide +kernel
theorem dX7_term_75 : decode cX7_term 75 = .ok (.invokevirtual 164, 3) := by decide +kernel
theorem dX7_term_78 : decode cX7_term 78 = .ok (.istore_n 3, 1) := by decide +kernel
theorem dX7_term_79 : decode cX7_term 79 = .ok (.aload_n 0, 1) := by decide +kernel
theorem dX7_term_80 : decode cX7_term 80 = .ok (.iconst 0, 1) := by decide +kernel
theorem dX7_term_81 : decode cX7_term 81 = .ok (.putfield 126, 3) := by decide +kernel
theorem dX7_term_84 : decode cX7_term 84 = .ok (.iload_n 3, 1) := by decide +kernel
theorem dX7_term_85 : decode cX7_term 85 = .ok (.ireturn, 1) := by decide +kernel
theorem dX7_endOn_0 : decode cX7_endOn 0 = .ok (.aload_n 0, 1) := by decide +kernel
theorem dX7_endOn_1 : decode cX7_endOn 1 = .ok (.aload_n 0, 1) := by decide +kernel
theorem dX7_endOn_2 : decode cX7_endOn 2 = .ok (.getfield 29, 3) := by decide +kernel
theorem dX7_endOn_5 : decode cX7_endOn 5 = .ok (.invokevirtual 116, 3) := by decide +kernel
theorem dX7_endOn_8 : decode cX7_endOn 8 = .ok (.aload_n 0, 1) := by decide +kernel
theorem dX7_endOn_9 : decode cX7_endOn 9 = .ok (.getfield 29, 3) := by decide +kernel
theorem dX7_endOn_12 : decode cX7_endOn 12 = .ok (.iconst 0, 1) := by decide +kernel
theorem dX7_endOn_13 : decode cX7_endOn 13 = .ok (.iaload, 1) := by decide +kernel
theorem dX7_endOn_14 : decode cX7_endOn 14 = .ok (.iload_n 1, 1) := by decide +kernel
theorem dX7_endOn_15 : decode cX7_endOn 15 = .ok (.if_icmp .ge 15, 3) := by decide +kernel
theorem dX7_endOn_18 : decode cX7_endOn 18 = .ok (.aload_n 0, 1) := by decide +kernel
theorem dX7_endOn_19 : decode cX7_endOn 19 = .ok (.aload_n 0, 1) := by decide +kernel
theorem dX7_endOn_20 : decode cX7_endOn 20 = .ok (.getfield 29, 3) := by decide +kernel
theorem dX7_endOn_23 : decode cX7_endOn 23 = .ok (.invokevirtual 156, 3) := by decide +kernel
theorem dX7_endOn_26 : decode cX7_endOn 26 = .ok (.pop, 1) := by decide +kernel
theorem dX7_endOn_27 : decode cX7_endOn 27 = .ok (.goto (-19), 3) := by decide +kernel
theorem dX7_endOn_30 : decode cX7_endOn 30 = .ok (.aload_n 0, 1) := by decide +kernel
theorem dX7_endOn_31 : decode cX7_endOn 31 = .ok (.aload_n 0, 1) := by decide +kernel
theorem dX7_endOn_32 : decode cX7_endOn 32 = .ok (.getfield 29, 3) := by decide +kernel
theorem dX7_endOn_35 : decode cX7_endOn 35 = .ok (.iconst 0, 1) := by decide +kernel
theorem dX7_endOn_36 : decode cX7_endOn 36 = .ok (.invokevirtual 160, 3) := by decide +kernel
theorem dX7_endOn_39 : decode cX7_endOn 39 = .ok (.ireturn, 1) := by decide +kernel
theorem dX7_end_0 : decode cX7_end 0 = .ok (.aload_n 0, 1) := by decide +kernel
theorem dX7_end_1 : decode cX7_end 1 = .ok (.iconst 0, 1) := by decide +kernel
theorem dX7_end_2 : decode cX7_end 2 = .ok (.putfield 47, 3) := by decide +kernel
theorem dX7_end_5 : decode cX7_end 5 = .ok (.iload_n 1, 1) := by decide +kernel
theorem dX7_end_6 : decode cX7_end 6 = .ok (.invokestatic 130, 3) := by decide +kernel
theorem dX7_end_9 : decode cX7_end 9 = .ok (.ifCond .eq 11, 3) := by decide +kernel
theorem dX7_end_12 : decode cX7_end 12 = .ok (.aload_n 0, 1) := by decide +kernel
theorem dX7_end_13 : decode cX7_end 13 = .ok (.iload_n 1, 1) := by decide +kernel
theorem dX7_end_14 : decode cX7_end 14 = .ok (.invokevirtual 167, 3) := by decide +kernel
theorem dX7_end_17 : decode cX7_end 17 = .ok (.goto 4, 3) := by decide +kernel
theorem dX7_end_20 : decode cX7_end 20 = .ok (.iconst (-1), 1) := by decide +kernel
theorem dX7_end_21 : decode cX7_end 21 = .ok (.ireturn, 1) := by decide +kernel
theorem dX7_aside_0 : decode cX7_aside 0 = .ok (.iconst 0, 1) := by decide +kernel
theorem dX7_aside_1 : decode cX7_aside 1 = .ok (.istore_n 2, 1) := by decide +kernel
theorem dX7_aside_2 : decode cX7_aside 2 = .ok (.iload_n 2, 1) := by decide +kernel
theorem dX7_aside_3 : decode cX7_aside 3 = .ok (.bipush 42, 2) := by decide +kernel
theorem dX7_aside_5 : decode cX7_aside 5 = .ok (.if_icmp .ge 40, 3) := by decide +kernel
theorem dX7_aside_8 : decode cX7_aside 8 = .ok (.iload_n 1, 1) := by decide +kernel
theorem dX7_aside_9 : decode cX7_aside 9 = .ok (.ifCond .eq 18, 3) := by decide +kernel
theorem dX7_aside_12 : decode cX7_aside 12 = .ok (.aload_n 0, 1) := by decide +kernel
theorem dX7_aside_13 : decode cX7_aside 13 = .ok (.getfield 32, 3) := by decide +kernel
theorem dX7_aside_16 : decode cX7_aside 16 = .ok (.iload_n 2, 1) := by decide +kernel
theorem dX7_aside_17 : decode cX7_aside 17 = .ok (.aload_n 0, 1) := by decide +kernel
theorem dX7_aside_18 : decode cX7_aside 18 = .ok (.getfield 13, 3) := by decide +kernel
theorem dX7_aside_21 : decode cX7_aside 21 = .ok (.iload_n 2, 1) := by decide +kernel
theorem dX7_aside_22 : decode cX7_aside 22 = .ok (.iaload, 1) := by decide +kernel
theorem dX7_aside_23 : decode cX7_aside 23 = .ok (.iastore, 1) := by decide +kernel
theorem dX7_aside_24 : decode cX7_aside 24 = .ok (.goto 15, 3) := by decide +kernel
theorem dX7_aside_27 : decode cX7_aside 27 = .ok (.aload_n 0, 1) := by decide +kernel
theorem dX7_aside_28 : decode cX7_aside 28 = .ok (.getfield 13, 3) := by decide +kernel
theorem dX7_aside_31 : decode cX7_aside 31 = .ok (.iload_n 2, 1) := by decide +kernel
theorem dX7_aside_32 : decode cX7_aside 32 = .ok (.aload_n 0, 1) := by decide +kernel
theorem dX7_aside_33 : decode cX7_aside 33 = .ok (.getfield 32, 3) := by decide +kernel
theorem dX7_aside_36 : decode cX7_aside 36 = .ok (.iload_n 2, 1) := by decide +kernel
theorem dX7_aside_37 : decode cX7_aside 37 = .ok (.iaload, 1) := by decide +kernel
theorem dX7_aside_38 : decode cX7_aside 38 = .ok (.iastore, 1) := by decide +kernel
theorem dX7_aside_39 : decode cX7_aside 39 = .ok (.iinc 2 1, 3) := by decide +kernel
theorem dX7_aside_42 : decode cX7_aside 42 = .ok (.goto (-40), 3) := by decide +kernel
theorem dX7_aside_45 : decode cX7_aside 45 = .ok (.return_, 1) := by decide +kernel
theorem dX7_best_0 : decode cX7_best 0 = .ok (.aload_n 0, 1) := by decide +kernel
theorem dX7_best_1 : decode cX7_best 1 = .ok (.iconst 0, 1) := by decide +kernel
theorem dX7_best_2 : decode cX7_best 2 = .ok (.putfield 47, 3) := by decide +kernel
theorem dX7_best_5 : decode cX7_best 5 = .ok (.aload_n 0, 1) := by decide +kernel
theorem dX7_best_6 : decode cX7_best 6 = .ok (.iload_n 1, 1) := by decide +kernel
theorem dX7_best_7 : decode cX7_best 7 = .ok (.invokevirtual 123, 3) := by decide +kernel
theorem dX7_best_10 : decode cX7_best 10 = .ok (.ifCond .eq 28, 3) := by decide +kernel
theorem dX7_best_13 : decode cX7_best 13 = .ok (.iload_n 2, 1) := by decide +kernel
theorem dX7_best_14 : decode cX7_best 14 = .ok (.aload_n 0, 1) := by decide +kernel
theorem dX7_best_15 : decode cX7_best 15 = .ok (.getfield 13, 3) := by decide +kernel
theorem dX7_best_18 : decode cX7_best 18 = .ok (.bipush 36, 2) := by decide +kernel
theorem dX7_best_20 : decode cX7_best 20 = .ok (.iaload, 1) := by decide +kernel
theorem dX7_best_21 : decode cX7_best 21 = .ok (.bipush 99, 2) := by decide +kernel
theorem dX7_best_23 : decode cX7_best 23 = .ok (.invokestatic 51, 3) := by decide +kernel
theorem dX7_best_26 : decode cX7_best 26 = .ok (.ifCond .eq 12, 3) := by decide +kernel
theorem dX7_best_29 : decode cX7_best 29 = .ok (.iload_n 3, 1) := by decide +kernel
theorem dX7_best_30 : decode cX7_best 30 = .ok (.iconst 0, 1) := by decide +kernel
theorem dX7_best_31 : decode cX7_best 31 = .ok (.iconst 2, 1) := by decide +kernel
theorem dX7_best_32 : decode cX7_best 32 = .ok (.invokestatic 51, 3) := by decide +kernel
theorem dX7_best_35 : decode cX7_best 35 = .ok (.ifCond .ne 5, 3) := by decide +kernel
theorem dX7_best_38 : decode cX7_best 38 = .ok (.iconst (-1), 1) := by decide +kernel
theorem dX7_best_39 : decode cX7_best 39 = .ok (.ireturn, 1) := by decide +kernel
theorem dX7_best_40 : decode cX7_best 40 = .ok (.aload_n 0, 1) := by decide +kernel
theorem dX7_best_41 : decode cX7_best 41 = .ok (.iconst 1, 1) := by decide +kernel
theorem dX7_best_42 : decode cX7_best 42 = .ok (.invokevirtual 170, 3) := by decide +kernel
theorem dX7_best_45 : decode cX7_best 45 = .ok (.iconst 0, 1) := by decide +kernel
theorem dX7_best_46 : decode cX7_best 46 = .ok (.istore 4, 2) := by decide +kernel
theorem dX7_best_48 : decode cX7_best 48 = .ok (.iload 4, 2) := by decide +kernel
theorem dX7_best_50 : decode cX7_best 50 = .ok (.iconst 4, 1) := by decide +kernel
theorem dX7_best_51 : decode cX7_best 51 = .ok (.if_icmp .ge 24, 3) := by decide +kernel
theorem dX7_best_54 : decode cX7_best 54 = .ok (.aload_n 0, 1) := by decide +kernel
theorem dX7_best_55 : decode cX7_best 55 = .ok (.getfield 13, 3) := by decide +kernel
theorem dX7_best_58 : decode cX7_best 58 = .ok (.bipush 24, 2) := by decide +kernel
theorem dX7_best_60 : decode cX7_best 60 = .ok (.iconst 3, 1) := by decide +kernel
theorem dX7_best_61 : decode cX7_best 61 = .ok (.iload 4, 2) := by decide +kernel
theorem dX7_best_63 : decode cX7_best 63 = .ok (.imul, 1) := by decide +kernel
theorem dX7_best_64 : decode cX7_best 64 = .ok (.iadd, 1) := by decide +kernel
theorem dX7_best_65 : decode cX7_best 65 = .ok (.iconst 2, 1) := by decide +kernel
theorem dX7_best_66 : decode cX7_best 66 = .ok (.iadd, 1) := by decide +kernel
theorem dX7_best_67 : decode cX7_best 67 = .ok (.iconst 0, 1) := by decide +kernel
theorem dX7_best_68 : decode cX7_best 68 = .ok (.iastore, 1) := by decide +kernel
theorem dX7_best_69 : decode cX7_best 69 = .ok (.iinc 4 1, 3) := by decide +kernel
theorem dX7_best_72 : decode cX7_best 72 = .ok (.goto (-24), 3) := by decide +kernel
theorem dX7_best_75 : decode cX7_best 75 = .ok (.iconst 0, 1) := by decide +kernel
theorem dX7_best_76 : decode cX7_best 76 = .ok (.istore 4, 2) := by decide +kernel
theorem dX7_best_78 : decode cX7_best 78 = .ok (.iconst 0, 1) := by decide +kernel
theorem dX7_best_79 : decode cX7_best 79 = .ok (.istore 5, 2) := by decide +kernel
theorem dX7_best_81 : decode cX7_best 81 = .ok (.iconst (-1), 1) := by decide +kernel
theorem dX7_best_82 : decode cX7_best 82 = .ok (.istore 6, 2) := by decide +kernel
theorem dX7_best_84 : decode cX7_best 84 = .ok (.iconst 0, 1) := by decide +kernel
theorem dX7_best_85 : decode cX7_best 85 = .ok (.istore 7, 2) := by decide +kernel
theorem dX7_best_87 : decode cX7_best 87 = .ok (.iload 7, 2) := by decide +kernel
theorem dX7_best_89 : decode cX7_best 89 = .ok (.bipush 10, 2) := by decide +kernel
theorem dX7_best_91 : decode cX7_best 91 = .ok (.if_icmp .ge 109, 3) := by decide +kernel
theorem dX7_best_94 : decode cX7_best 94 = .ok (.aload_n 0, 1) := by decide +kernel
theorem dX7_best_95 : decode cX7_best 95 = .ok (.getfield 13, 3) := by decide +kernel
theorem dX7_best_98 : decode cX7_best 98 = .ok (.bipush 36, 2) := by decide +kernel
theorem dX7_best_100 : decode cX7_best 100 = .ok (.iaload, 1) := by decide +kernel
theorem dX7_best_101 : decode cX7_best 101 = .ok (.istore 8, 2) := by decide +kernel
theorem dX7_best_103 : decode cX7_best 103 = .ok (.iload 8, 2) := by decide +kernel
theorem dX7_best_105 : decode cX7_best 105 = .ok (.iload_n 2, 1) := by decide +kernel
theorem dX7_best_106 : decode cX7_best 106 = .ok (.if_icmp .gt 88, 3) := by decide +kernel
theorem dX7_best_109 : decode cX7_best 109 = .ok (.aload_n 0, 1) := by decide +kernel
theorem dX7_best_110 : decode cX7_best 110 = .ok (.getfield 13, 3) := by decide +kernel
theorem dX7_best_113 : decode cX7_best 113 = .ok (.bipush 24, 2) := by decide +kernel
theorem dX7_best_115 : decode cX7_best 115 = .ok (.iconst 3, 1) := by decide +kernel
theorem dX7_best_116 : decode cX7_best 116 = .ok (.iload_n 1, 1) := by decide +kernel
theorem dX7_best_117 : decode cX7_best 117 = .ok (.imul, 1) := by decide +kernel
theorem dX7_best_118 : decode cX7_best 118 = .ok (.iadd, 1) := by decide +kernel
theorem dX7_best_119 : decode cX7_best 119 = .ok (.iconst 2, 1) := by decide +kernel
theorem dX7_best_120 : decode cX7_best 120 = .ok (.iadd, 1) := by decide +kernel
theorem dX7_best_121 : decode cX7_best 121 = .ok (.iload 7, 2) := by decide +kernel
theorem dX7_best_123 : decode cX7_best 123 = .ok (.iastore, 1) := by decide +kernel
theorem dX7_best_124 : decode cX7_best 124 = .ok (.aload_n 0, 1) := by decide +kernel
theorem dX7_best_125 : decode cX7_best 125 = .ok (.getfield 13, 3) := by decide +kernel
theorem dX7_best_128 : decode cX7_best 128 = .ok (.bipush 37, 2) := by decide +kernel
theorem dX7_best_130 : decode cX7_best 130 = .ok (.iload 8, 2) := by decide +kernel
theorem dX7_best_132 : decode cX7_best 132 = .ok (.iastore, 1) := by decide +kernel
theorem dX7_best_133 : decode cX7_best 133 = .ok (.aload_n 0, 1) := by decide +kernel
theorem dX7_best_134 : decode cX7_best 134 = .ok (.iload_n 2, 1) := by decide +kernel
theorem dX7_best_135 : decode cX7_best 135 = .ok (.invokevirtual 167, 3) := by decide +kernel
theorem dX7_best_138 : decode cX7_best 138 = .ok (.istore 9, 2) := by decide +kernel
theorem dX7_best_140 : decode cX7_best 140 = .ok (.iload 9, 2) := by decide +kernel
theorem dX7_best_142 : decode cX7_best 142 = .ok (.iload 6, 2) := by decide +kernel
theorem dX7_best_144 : decode cX7_best 144 = .ok (.if_icmp .le 8, 3) := by decide +kernel
theorem dX7_best_147 : decode cX7_best 147 = .ok (.iload 7, 2) := by decide +kernel
theorem dX7_best_149 : decode cX7_best 149 = .ok (.goto 5, 3) := by decide +kernel
theorem dX7_best_152 : decode cX7_best 152 = .ok (.iload 4, 2) := by decide +kernel
theorem dX7_best_154 : decode cX7_best 154 = .ok (.istore 4, 2) := by decide +kernel
theorem dX7_best_156 : decode cX7_best 156 = .ok (.iload 9, 2) := by decide +kernel
theorem dX7_best_158 : decode cX7_best 158 = .ok (.iload 6, 2) := by decide +kernel
theorem dX7_best_160 : decode cX7_best 160 = .ok (.if_icmp .le 8, 3) := by decide +kernel
theorem dX7_best_163 : decode cX7_best 163 = .ok (.iload 8, 2) := by decide +kernel
theorem dX7_best_165 : decode cX7_best 165 = .ok (.goto 5, 3) := by decide +kernel
theorem dX7_best_168 : decode cX7_best 168 = .ok (.iload 5, 2) := by decide +kernel
theorem dX7_best_170 : decode cX7_best 170 = .ok (.istore 5, 2) := by decide +kernel
theorem dX7_best_172 : decode cX7_best 172 = .ok (.iload 9, 2) := by decide +kernel
theorem dX7_best_174 : decode cX7_best 174 = .ok (.iload 6, 2) := by decide +kernel
theorem dX7_best_176 : decode cX7_best 176 = .ok (.if_icmp .le 8, 3) := by decide +kernel
theorem dX7_best_179 : decode cX7_best 179 = .ok (.iload 9, 2) := by decide +kernel
theorem dX7_best_181 : decode cX7_best 181 = .ok (.goto 5, 3) := by decide +kernel
theorem dX7_best_184 : decode cX7_best 184 = .ok (.iload 6, 2) := by decide +kernel
theorem dX7_best_186 : decode cX7_best 186 = .ok (.istore 6, 2) := by decide +kernel
theorem dX7_best_188 : decode cX7_best 188 = .ok (.iinc 8 1, 3) := by decide +kernel
theorem dX7_best_191 : decode cX7_best 191 = .ok (.goto (-88), 3) := by decide +kernel
theorem dX7_best_194 : decode cX7_best 194 = .ok (.iinc 7 1, 3) := by decide +kernel
theorem dX7_best_197 : decode cX7_best 197 = .ok (.goto (-110), 3) := by decide +kernel
theorem dX7_best_200 : decode cX7_best 200 = .ok (.aload_n 0, 1) := by decide +kernel
theorem dX7_best_201 : decode cX7_best 201 = .ok (.iconst 0, 1) := by decide +kernel
theorem dX7_best_202 : decode cX7_best 202 = .ok (.invokevirtual 170, 3) := by decide +kernel
theorem dX7_best_205 : decode cX7_best 205 = .ok (.iload_n 3, 1) := by decide +kernel
theorem dX7_best_206 : decode cX7_best 206 = .ok (.ifCond .ne 8, 3) := by decide +kernel
theorem dX7_best_209 : decode cX7_best 209 = .ok (.iload 4, 2) := by decide +kernel
theorem dX7_best_211 : decode cX7_best 211 = .ok (.goto 15, 3) := by decide +kernel
theorem dX7_best_214 : decode cX7_best 214 = .ok (.iload_n 3, 1) := by decide +kernel
theorem dX7_best_215 : decode cX7_best 215 = .ok (.iconst 1, 1) := by decide +kernel
theorem dX7_best_216 : decode cX7_best 216 = .ok (.if_icmp .ne 8, 3) := by decide +kernel
theorem dX7_best_219 : decode cX7_best 219 = .ok (.iload 5, 2) := by decide +kernel
theorem dX7_best_221 : decode cX7_best 221 = .ok (.goto 5, 3) := by decide +kernel
theorem dX7_best_224 : decode cX7_best 224 = .ok (.iload 6, 2) := by decide +kernel
theorem dX7_best_226 : decode cX7_best 226 = .ok (.ireturn, 1) := by decide +kernel
theorem dX7_line_0 : decode cX7_line 0 = .ok (.aload_n 0, 1) := by decide +kernel
theorem dX7_line_1 : decode cX7_line 1 = .ok (.iconst 0, 1) := by decide +kernel
theorem dX7_line_2 : decode cX7_line 2 = .ok (.putfield 47, 3) := by decide +kernel
theorem dX7_line_5 : decode cX7_line 5 = .ok (.iload_n 1, 1) := by decide +kernel
theorem dX7_line_6 : decode cX7_line 6 = .ok (.iconst 1, 1) := by decide +kernel
theorem dX7_line_7 : decode cX7_line 7 = .ok (.bipush 9, 2) := by decide +kernel
theorem dX7_line_9 : decode cX7_line 9 = .ok (.invokestatic 51, 3) := by decide +kernel
theorem dX7_line_12 : decode cX7_line 12 = .ok (.ifCond .eq 20, 3) := by decide +kernel
theorem dX7_line_15 : decode cX7_line 15 = .ok (.iload_n 2, 1) := by decide +kernel
theorem dX7_line_16 : decode cX7_line 16 = .ok (.iconst 0, 1) := by decide +kernel
theorem dX7_line_17 : decode cX7_line 17 = .ok (.bipush 9, 2) := by decide +kernel
theorem dX7_line_19 : decode cX7_line 19 = .ok (.invokestatic 51, 3) := by decide +kernel
theorem dX7_line_22 : decode cX7_line 22 = .ok (.ifCond .eq 10, 3) := by decide +kernel
theorem dX7_line_25 : decode cX7_line 25 = .ok (.iload_n 3, 1) := by decide +kernel
theorem dX7_line_26 : decode cX7_line 26 = .ok (.invokestatic 130, 3) := by decide +kernel
theorem dX7_line_29 : decode cX7_line 29 = .ok (.ifCond .ne 5, 3) := by decide +kernel
theorem dX7_line_32 : decode cX7_line 32 = .ok (.iconst (-1), 1) := by decide +kernel
theorem dX7_line_33 : decode cX7_line 33 = .ok (.ireturn, 1) := by decide +kernel
theorem dX7_line_34 : decode cX7_line 34 = .ok (.aload_n 0, 1) := by decide +kernel
theorem dX7_line_35 : decode cX7_line 35 = .ok (.iconst 1, 1) := by decide +kernel
theorem dX7_line_36 : decode cX7_line 36 = .ok (.invokevirtual 170, 3) := by decide +kernel
theorem dX7_line_39 : decode cX7_line 39 = .ok (.aload_n 0, 1) := by decide +kernel
theorem dX7_line_40 : decode cX7_line 40 = .ok (.getfield 13, 3) := by decide +kernel
theorem dX7_line_43 : decode cX7_line 43 = .ok (.bipush 40, 2) := by decide +kernel
theorem dX7_line_45 : decode cX7_line 45 = .ok (.iconst 1, 1) := by decide +kernel
theorem dX7_line_46 : decode cX7_line 46 = .ok (.iastore, 1) := by decide +kernel
theorem dX7_line_47 : decode cX7_line 47 = .ok (.aload_n 0, 1) := by decide +kernel
theorem dX7_line_48 : decode cX7_line 48 = .ok (.getfield 13, 3) := by decide +kernel
theorem dX7_line_51 : decode cX7_line 51 = .ok (.iconst 1, 1) := by decide +kernel
theorem dX7_line_52 : decode cX7_line 52 = .ok (.iload_n 1, 1) := by decide +kernel
theorem dX7_line_53 : decode cX7_line 53 = .ok (.iastore, 1) := by decide +kernel
theorem dX7_line_54 : decode cX7_line 54 = .ok (.aload_n 0, 1) := by decide +kernel
theorem dX7_line_55 : decode cX7_line 55 = .ok (.getfield 13, 3) := by decide +kernel
theorem dX7_line_58 : decode cX7_line 58 = .ok (.iconst 2, 1) := by decide +kernel
theorem dX7_line_59 : decode cX7_line 59 = .ok (.iload_n 2, 1) := by decide +kernel
theorem dX7_line_60 : decode cX7_line 60 = .ok (.iastore, 1) := by decide +kernel
theorem dX7_line_61 : decode cX7_line 61 = .ok (.bipush (-9), 2) := by decide +kernel
theorem dX7_line_63 : decode cX7_line 63 = .ok (.istore 4, 2) := by decide +kernel
theorem dX7_line_65 : decode cX7_line 65 = .ok (.iconst 0, 1) := by decide +kernel
theorem dX7_line_66 : decode cX7_line 66 = .ok (.istore 5, 2) := by decide +kernel
theorem dX7_line_68 : decode cX7_line 68 = .ok (.iload 5, 2) := by decide +kernel
theorem dX7_line_70 : decode cX7_line 70 = .ok (.bipush 101, 2) := by decide +kernel
theorem dX7_line_72 : decode cX7_line 72 = .ok (.if_icmp .ge 60, 3) := by decide +kernel
theorem dX7_line_75 : decode cX7_line 75 = .ok (.iload 4, 2) := by decide +kernel
theorem dX7_line_77 : decode cX7_line 77 = .ok (.bipush (-9), 2) := by decide +kernel
theorem dX7_line_79 : decode cX7_line 79 = .ok (.if_icmp .ne 53, 3) := by decide +kernel
theorem dX7_line_82 : decode cX7_line 82 = .ok (.aload_n 0, 1) := by decide +kernel
theorem dX7_line_83 : decode cX7_line 83 = .ok (.getfield 13, 3) := by decide +kernel
theorem dX7_line_86 : decode cX7_line 86 = .ok (.iconst 0, 1) := by decide +kernel
theorem dX7_line_87 : decode cX7_line 87 = .ok (.iload 5, 2) := by decide +kernel
theorem dX7_line_89 : decode cX7_line 89 = .ok (.iastore, 1) := by decide +kernel
theorem dX7_line_90 : decode cX7_line 90 = .ok (.aload_n 0, 1) := by decide +kernel
theorem dX7_line_91 : decode cX7_line 91 = .ok (.iload_n 3, 1) := by decide +kernel
theorem dX7_line_92 : decode cX7_line 92 = .ok (.invokevirtual 167, 3) := by decide +kernel
theorem dX7_line_95 : decode cX7_line 95 = .ok (.istore 6, 2) := by decide +kernel
theorem dX7_line_97 : decode cX7_line 97 = .ok (.aload_n 0, 1) := by decide +kernel
theorem dX7_line_98 : decode cX7_line 98 = .ok (.iconst 1, 1) := by decide +kernel
theorem dX7_line_99 : decode cX7_line 99 = .ok (.putfield 126, 3) := by decide +kernel
theorem dX7_line_102 : decode cX7_line 102 = .ok (.iload 6, 2) := by decide +kernel
theorem dX7_line_104 : decode cX7_line 104 = .ok (.aload_n 0, 1) := by decide +kernel
theorem dX7_line_105 : decode cX7_line 105 = .ok (.iload_n 3, 1) := by decide +kernel
theorem dX7_line_106 : decode cX7_line 106 = .ok (.invokevirtual 167, 3) := by decide +kernel
theorem dX7_line_109 : decode cX7_line 109 = .ok (.if_icmp .ge 8, 3) := by decide +kernel
theorem dX7_line_112 : decode cX7_line 112 = .ok (.iload 5, 2) := by decide +kernel
theorem dX7_line_114 : decode cX7_line 114 = .ok (.goto 5, 3) := by decide +kernel
theorem dX7_line_117 : decode cX7_line 117 = .ok (.bipush (-9), 2) := by decide +kernel
theorem dX7_line_119 : decode cX7_line 119 = .ok (.istore 4, 2) := by decide +kernel
theorem dX7_line_121 : decode cX7_line 121 = .ok (.aload_n 0, 1) := by decide +kernel
theorem dX7_line_122 : decode cX7_line 122 = .ok (.iconst 0, 1) := by decide +kernel
theorem dX7_line_123 : decode cX7_line 123 = .ok (.putfield 126, 3) := by decide +kernel
theorem dX7_line_126 : decode cX7_line 126 = .ok (.iinc 5 1, 3) := by decide +kernel
theorem dX7_line_129 : decode cX7_line 129 = .ok (.goto (-61), 3) := by decide +kernel
theorem dX7_line_132 : decode cX7_line 132 = .ok (.aload_n 0, 1) := by decide +kernel
theorem dX7_line_133 : decode cX7_line 133 = .ok (.iconst 0, 1) := by decide +kernel
theorem dX7_line_134 : decode cX7_line 134 = .ok (.invokevirtual 170, 3) := by decide +kernel
theorem dX7_line_137 : decode cX7_line 137 = .ok (.iload 4, 2) := by decide +kernel
theorem dX7_line_139 : decode cX7_line 139 = .ok (.ireturn, 1) := by decide +kernel
theorem dX7_ending_0 : decode cX7_ending 0 = .ok (.aload_n 0, 1) := by decide +kernel
theorem dX7_ending_1 : decode cX7_ending 1 = .ok (.iconst 0, 1) := by decide +kernel
theorem dX7_ending_2 : decode cX7_ending 2 = .ok (.putfield 47, 3) := by decide +kernel
theorem dX7_ending_5 : decode cX7_ending 5 = .ok (.iload_n 1, 1) := by decide +kernel
theorem dX7_ending_6 : decode cX7_ending 6 = .ok (.invokestatic 130, 3) := by decide +kernel
theorem dX7_ending_9 : decode cX7_ending 9 = .ok (.ifCond .ne 5, 3) := by decide +kernel
theorem dX7_ending_12 : decode cX7_ending 12 = .ok (.iconst (-1), 1) := by decide +kernel
theorem dX7_ending_13 : decode cX7_ending 13 = .ok (.ireturn, 1) := by decide +kernel
theorem dX7_ending_14 : decode cX7_ending 14 = .ok (.aload_n 0, 1) := by decide +kernel
theorem dX7_ending_15 : decode cX7_ending 15 = .ok (.iconst 1, 1) := by decide +kernel
theorem dX7_ending_16 : decode cX7_ending 16 = .ok (.invokevirtual 170, 3) := by decide +kernel
theorem dX7_ending_19 : decode cX7_ending 19 = .ok (.iconst 0, 1) := by decide +kernel
theorem dX7_ending_20 : decode cX7_ending 20 = .ok (.istore_n 2, 1) := by decide +kernel
theorem dX7_ending_21 : decode cX7_ending 21 = .ok (.iconst (-1), 1) := by decide +kernel
theorem dX7_ending_22 : decode cX7_ending 22 = .ok (.istore_n 3, 1) := by decide +kernel
theorem dX7_ending_23 : decode cX7_ending 23 = .ok (.iconst 0, 1) := by decide +kernel
theorem dX7_ending_24 : decode cX7_ending 24 = .ok (.istore 4, 2) := by decide +kernel
theorem dX7_ending_26 : decode cX7_ending 26 = .ok (.iload 4, 2) := by decide +kernel
theorem dX7_ending_28 : decode cX7_ending 28 = .ok (.bipush 21, 2) := by decide +kernel
theorem dX7_ending_30 : decode cX7_ending 30 = .ok (.if_icmp .ge 51, 3) := by decide +kernel
theorem dX7_ending_33 : decode cX7_ending 33 = .ok (.aload_n 0, 1) := by decide +kernel
theorem dX7_ending_34 : decode cX7_ending 34 = .ok (.getfield 13, 3) := by decide +kernel
theorem dX7_ending_37 : decode cX7_ending 37 = .ok (.bipush 39, 2) := by decide +kernel
theorem dX7_ending_39 : decode cX7_ending 39 = .ok (.iload 4, 2) := by decide +kernel
theorem dX7_ending_41 : decode cX7_ending 41 = .ok (.iastore, 1) := by decide +kernel
theorem dX7_ending_42 : decode cX7_ending 42 = .ok (.aload_n 0, 1) := by decide +kernel
theorem dX7_ending_43 : decode cX7_ending 43 = .ok (.iload_n 1, 1) := by decide +kernel
theorem dX7_ending_44 : decode cX7_ending 44 = .ok (.invokevirtual 167, 3) := by decide +kernel
theorem dX7_ending_47 : decode cX7_ending 47 = .ok (.istore 5, 2) := by decide +kernel
theorem dX7_ending_49 : decode cX7_ending 49 = .ok (.iload 5, 2) := by decide +kernel
theorem dX7_ending_51 : decode cX7_ending 51 = .ok (.iload_n 3, 1) := by decide +kernel
theorem dX7_ending_52 : decode cX7_ending 52 = .ok (.if_icmp .le 8, 3) := by decide +kernel
theorem dX7_ending_55 : decode cX7_ending 55 = .ok (.iload 4, 2) := by decide +kernel
theorem dX7_ending_57 : decode cX7_ending 57 = .ok (.goto 4, 3) := by decide +kernel
theorem dX7_ending_60 : decode cX7_ending 60 = .ok (.iload_n 2, 1) := by decide +kernel
theorem dX7_ending_61 : decode cX7_ending 61 = .ok (.istore_n 2, 1) := by decide +kernel
theorem dX7_ending_62 : decode cX7_ending 62 = .ok (.iload 5, 2) := by decide +kernel
theorem dX7_ending_64 : decode cX7_ending 64 = .ok (.iload_n 3, 1) := by decide +kernel
theorem dX7_ending_65 : decode cX7_ending 65 = .ok (.if_icmp .le 8, 3) := by decide +kernel
theorem dX7_ending_68 : decode cX7_ending 68 = .ok (.iload 5, 2) := by decide +kernel
theorem dX7_ending_70 : decode cX7_ending 70 = .ok (.goto 4, 3) := by decide +kernel
theorem dX7_ending_73 : decode cX7_ending 73 = .ok (.iload_n 3, 1) := by decide +kernel
theorem dX7_ending_74 : decode cX7_ending 74 = .ok (.istore_n 3, 1) := by decide +kernel
theorem dX7_ending_75 : decode cX7_ending 75 = .ok (.iinc 4 1, 3) := by decide +kernel
theorem dX7_ending_78 : decode cX7_ending 78 = .ok (.goto (-52), 3) := by decide +kernel
theorem dX7_ending_81 : decode cX7_ending 81 = .ok (.aload_n 0, 1) := by decide +kernel
theorem dX7_ending_82 : decode cX7_ending 82 = .ok (.iconst 0, 1) := by decide +kernel
theorem dX7_ending_83 : decode cX7_ending 83 = .ok (.invokevirtual 170, 3) := by decide +kernel
theorem dX7_ending_86 : decode cX7_ending 86 = .ok (.iload_n 2, 1) := by decide +kernel
theorem dX7_ending_87 : decode cX7_ending 87 = .ok (.ireturn, 1) := by decide +kernel
theorem dX7_easy_0 : decode cX7_easy 0 = .ok (.aload_n 0, 1) := by decide +kernel
theorem dX7_easy_1 : decode cX7_easy 1 = .ok (.iconst 0, 1) := by decide +kernel
theorem dX7_easy_2 : decode cX7_easy 2 = .ok (.putfield 47, 3) := by decide +kernel
theorem dX7_easy_5 : decode cX7_easy 5 = .ok (.iconst 0, 1) := by decide +kernel
theorem dX7_easy_6 : decode cX7_easy 6 = .ok (.istore_n 1, 1) := by decide +kernel
theorem dX7_easy_7 : decode cX7_easy 7 = .ok (.iconst 1, 1) := by decide +kernel
theorem dX7_easy_8 : decode cX7_easy 8 = .ok (.istore_n 2, 1) := by decide +kernel
theorem dX7_easy_9 : decode cX7_easy 9 = .ok (.iload_n 2, 1) := by decide +kernel
theorem dX7_easy_10 : decode cX7_easy 10 = .ok (.aload_n 0, 1) := by decide +kernel
theorem dX7_easy_11 : decode cX7_easy 11 = .ok (.getfield 13, 3) := by decide +kernel
theorem dX7_easy_14 : decode cX7_easy 14 = .ok (.bipush 41, 2) := by decide +kernel
theorem dX7_easy_16 : decode cX7_easy 16 = .ok (.iaload, 1) := by decide +kernel
theorem dX7_easy_17 : decode cX7_easy 17 = .ok (.if_icmp .ge 40, 3) := by decide +kernel
theorem dX7_easy_20 : decode cX7_easy 20 = .ok (.aload_n 0, 1) := by decide +kernel
theorem dX7_easy_21 : decode cX7_easy 21 = .ok (.getfield 13, 3) := by decide +kernel
theorem dX7_easy_24 : decode cX7_easy 24 = .ok (.bipush 24, 2) := by decide +kernel
theorem dX7_easy_26 : decode cX7_easy 26 = .ok (.iconst 3, 1) := by decide +kernel
theorem dX7_easy_27 : decode cX7_easy 27 = .ok (.iload_n 2, 1) := by decide +kernel
theorem dX7_easy_28 : decode cX7_easy 28 = .ok (.imul, 1) := by decide +kernel
theorem dX7_easy_29 : decode cX7_easy 29 = .ok (.iadd, 1) := by decide +kernel
theorem dX7_easy_30 : decode cX7_easy 30 = .ok (.iaload, 1) := by decide +kernel
theorem dX7_easy_31 : decode cX7_easy 31 = .ok (.aload_n 0, 1) := by decide +kernel
theorem dX7_easy_32 : decode cX7_easy 32 = .ok (.getfield 13, 3) := by decide +kernel
theorem dX7_easy_35 : decode cX7_easy 35 = .ok (.bipush 24, 2) := by decide +kernel
theorem dX7_easy_37 : decode cX7_easy 37 = .ok (.iconst 3, 1) := by decide +kernel
theorem dX7_easy_38 : decode cX7_easy 38 = .ok (.iload_n 1, 1) := by decide +kernel
theorem dX7_easy_39 : decode cX7_easy 39 = .ok (.imul, 1) := by decide +kernel
theorem dX7_easy_40 : decode cX7_easy 40 = .ok (.iadd, 1) := by decide +kernel
theorem dX7_easy_41 : decode cX7_easy 41 = .ok (.iaload, 1) := by decide +kernel
theorem dX7_easy_42 : decode cX7_easy 42 = .ok (.if_icmp .ge 7, 3) := by decide +kernel
theorem dX7_easy_45 : decode cX7_easy 45 = .ok (.iload_n 2, 1) := by decide +kernel
theorem dX7_easy_46 : decode cX7_easy 46 = .ok (.goto 4, 3) := by decide +kernel
theorem dX7_easy_49 : decode cX7_easy 49 = .ok (.iload_n 1, 1) := by decide +kernel
theorem dX7_easy_50 : decode cX7_easy 50 = .ok (.istore_n 1, 1) := by decide +kernel
theorem dX7_easy_51 : decode cX7_easy 51 = .ok (.iinc 2 1, 3) := by decide +kernel
theorem dX7_easy_54 : decode cX7_easy 54 = .ok (.goto (-45), 3) := by decide +kernel
theorem dX7_easy_57 : decode cX7_easy 57 = .ok (.iconst 0, 1) := by decide +kernel
theorem dX7_easy_58 : decode cX7_easy 58 = .ok (.istore_n 2, 1) := by decide +kernel
theorem dX7_easy_59 : decode cX7_easy 59 = .ok (.iconst 0, 1) := by decide +kernel
theorem dX7_easy_60 : decode cX7_easy 60 = .ok (.istore_n 3, 1) := by decide +kernel
theorem dX7_easy_61 : decode cX7_easy 61 = .ok (.iload_n 3, 1) := by decide +kernel
theorem dX7_easy_62 : decode cX7_easy 62 = .ok (.aload_n 0, 1) := by decide +kernel
theorem dX7_easy_63 : decode cX7_easy 63 = .ok (.getfield 13, 3) := by decide +kernel
theorem dX7_easy_66 : decode cX7_easy 66 = .ok (.bipush 40, 2) := by decide +kernel
theorem dX7_easy_68 : decode cX7_easy 68 = .ok (.iaload, 1) := by decide +kernel
theorem dX7_easy_69 : decode cX7_easy 69 = .ok (.if_icmp .ge 36, 3) := by decide +kernel
theorem dX7_easy_72 : decode cX7_easy 72 = .ok (.iload_n 2, 1) := by decide +kernel
theorem dX7_easy_73 : decode cX7_easy 73 = .ok (.aload_n 0, 1) := by decide +kernel
theorem dX7_easy_74 : decode cX7_easy 74 = .ok (.aload_n 0, 1) := by decide +kernel
theorem dX7_easy_75 : decode cX7_easy 75 = .ok (.getfield 19, 3) := by decide +kernel
theorem dX7_easy_78 : decode cX7_easy 78 = .ok (.iload_n 3, 1) := by decide +kernel
theorem dX7_easy_79 : decode cX7_easy 79 = .ok (.aload_n 0, 1) := by decide +kernel
theorem dX7_easy_80 : decode cX7_easy 80 = .ok (.getfield 19, 3) := by decide +kernel
theorem dX7_easy_83 : decode cX7_easy 83 = .ok (.iconst 0, 1) := by decide +kernel
theorem dX7_easy_84 : decode cX7_easy 84 = .ok (.iaload, 1) := by decide +kernel
theorem dX7_easy_85 : decode cX7_easy 85 = .ok (.invokevirtual 150, 3) := by decide +kernel
theorem dX7_easy_88 : decode cX7_easy 88 = .ok (.iload_n 1, 1) := by decide +kernel
theorem dX7_easy_89 : decode cX7_easy 89 = .ok (.if_icmp .ne 7, 3) := by decide +kernel
theorem dX7_easy_92 : decode cX7_easy 92 = .ok (.iconst 1, 1) := by decide +kernel
theorem dX7_easy_93 : decode cX7_easy 93 = .ok (.goto 4, 3) := by decide +kernel
theorem dX7_easy_96 : decode cX7_easy 96 = .ok (.iconst 0, 1) := by decide +kernel
theorem dX7_easy_97 : decode cX7_easy 97 = .ok (.iadd, 1) := by decide +kernel
theorem dX7_easy_98 : decode cX7_easy 98 = .ok (.istore_n 2, 1) := by decide +kernel
theorem dX7_easy_99 : decode cX7_easy 99 = .ok (.iinc 3 1, 3) := by decide +kernel
theorem dX7_easy_102 : decode cX7_easy 102 = .ok (.goto (-41), 3) := by decide +kernel
theorem dX7_easy_105 : decode cX7_easy 105 = .ok (.iload_n 2, 1) := by decide +kernel
theorem dX7_easy_106 : decode cX7_easy 106 = .ok (.ireturn, 1) := by decide +kernel
theorem dX7_stays_0 : decode cX7_stays 0 = .ok (.aload_n 0, 1) := by decide +kernel
theorem dX7_stays_1 : decode cX7_stays 1 = .ok (.iconst 0, 1) := by decide +kernel
theorem dX7_stays_2 : decode cX7_stays 2 = .ok (.putfield 47, 3) := by decide +kernel
theorem dX7_stays_5 : decode cX7_stays 5 = .ok (.aload_n 0, 1) := by decide +kernel
theorem dX7_stays_6 : decode cX7_stays 6 = .ok (.iload_n 1, 1) := by decide +kernel
theorem dX7_stays_7 : decode cX7_stays 7 = .ok (.invokevirtual 120, 3) := by decide +kernel
theorem dX7_stays_10 : decode cX7_stays 10 = .ok (.ifCond .eq 11, 3) := by decide +kernel
theorem dX7_stays_13 : decode cX7_stays 13 = .ok (.aload_n 0, 1) := by decide +kernel
theorem dX7_stays_14 : decode cX7_stays 14 = .ok (.iload_n 2, 1) := by decide +kernel
theorem dX7_stays_15 : decode cX7_stays 15 = .ok (.invokevirtual 123, 3) := by decide +kernel
theorem dX7_stays_18 : decode cX7_stays 18 = .ok (.ifCond .ne 5, 3) := by decide +kernel
theorem dX7_stays_21 : decode cX7_stays 21 = .ok (.iconst (-1), 1) := by decide +kernel
theorem dX7_stays_22 : decode cX7_stays 22 = .ok (.ireturn, 1) := by decide +kernel
theorem dX7_stays_23 : decode cX7_stays 23 = .ok (.aload_n 0, 1) := by decide +kernel
theorem dX7_stays_24 : decode cX7_stays 24 = .ok (.aload_n 0, 1) := by decide +kernel
theorem dX7_stays_25 : decode cX7_stays 25 = .ok (.getfield 29, 3) := by decide +kernel
theorem dX7_stays_28 : decode cX7_stays 28 = .ok (.invokevirtual 116, 3) := by decide +kernel
theorem dX7_stays_31 : decode cX7_stays 31 = .ok (.bipush 24, 2) := by decide +kernel
theorem dX7_stays_33 : decode cX7_stays 33 = .ok (.iconst 3, 1) := by decide +kernel
theorem dX7_stays_34 : decode cX7_stays 34 = .ok (.iload_n 2, 1) := by decide +kernel
theorem dX7_stays_35 : decode cX7_stays 35 = .ok (.imul, 1) := by decide +kernel
theorem dX7_stays_36 : decode cX7_stays 36 = .ok (.iadd, 1) := by decide +kernel
theorem dX7_stays_37 : decode cX7_stays 37 = .ok (.iconst 2, 1) := by decide +kernel
theorem dX7_stays_38 : decode cX7_stays 38 = .ok (.iadd, 1) := by decide +kernel
theorem dX7_stays_39 : decode cX7_stays 39 = .ok (.istore_n 3, 1) := by decide +kernel
theorem dX7_stays_40 : decode cX7_stays 40 = .ok (.aload_n 0, 1) := by decide +kernel
theorem dX7_stays_41 : decode cX7_stays 41 = .ok (.getfield 13, 3) := by decide +kernel
theorem dX7_stays_44 : decode cX7_stays 44 = .ok (.iload_n 3, 1) := by decide +kernel
theorem dX7_stays_45 : decode cX7_stays 45 = .ok (.iaload, 1) := by decide +kernel
theorem dX7_stays_46 : decode cX7_stays 46 = .ok (.istore 4, 2) := by decide +kernel
theorem dX7_stays_48 : decode cX7_stays 48 = .ok (.bipush (-9), 2) := by decide +kernel
theorem dX7_stays_50 : decode cX7_stays 50 = .ok (.istore 5, 2) := by decide +kernel
theorem dX7_stays_52 : decode cX7_stays 52 = .ok (.iconst 0, 1) := by decide +kernel
theorem dX7_stays_53 : decode cX7_stays 53 = .ok (.istore 6, 2) := by decide +kernel
theorem dX7_stays_55 : decode cX7_stays 55 = .ok (.iload 6, 2) := by decide +kernel
theorem dX7_stays_57 : decode cX7_stays 57 = .ok (.bipush 10, 2) := by decide +kernel
theorem dX7_stays_59 : decode cX7_stays 59 = .ok (.if_icmp .ge 53, 3) := by decide +kernel
theorem dX7_stays_62 : decode cX7_stays 62 = .ok (.iload 5, 2) := by decide +kernel
theorem dX7_stays_64 : decode cX7_stays 64 = .ok (.bipush (-9), 2) := by decide +kernel
theorem dX7_stays_66 : decode cX7_stays 66 = .ok (.if_icmp .ne 46, 3) := by decide +kernel
theorem dX7_stays_69 : decode cX7_stays 69 = .ok (.aload_n 0, 1) := by decide +kernel
theorem dX7_stays_70 : decode cX7_stays 70 = .ok (.getfield 13, 3) := by decide +kernel
theorem dX7_stays_73 : decode cX7_stays 73 = .ok (.iload_n 3, 1) := by decide +kernel
theorem dX7_stays_74 : decode cX7_stays 74 = .ok (.iload 6, 2) := by decide +kernel
theorem dX7_stays_76 : decode cX7_stays 76 = .ok (.iastore, 1) := by decide +kernel
theorem dX7_stays_77 : decode cX7_stays 77 = .ok (.aload_n 0, 1) := by decide +kernel
theorem dX7_stays_78 : decode cX7_stays 78 = .ok (.aload_n 0, 1) := by decide +kernel
theorem dX7_stays_79 : decode cX7_stays 79 = .ok (.getfield 29, 3) := by decide +kernel
theorem dX7_stays_82 : decode cX7_stays 82 = .ok (.iload_n 1, 1) := by decide +kernel
theorem dX7_stays_83 : decode cX7_stays 83 = .ok (.aload_n 0, 1) := by decide +kernel
theorem dX7_stays_84 : decode cX7_stays 84 = .ok (.getfield 13, 3) := by decide +kernel
theorem dX7_stays_87 : decode cX7_stays 87 = .ok (.bipush 36, 2) := by decide +kernel
theorem dX7_stays_89 : decode cX7_stays 89 = .ok (.iaload, 1) := by decide +kernel
theorem dX7_stays_90 : decode cX7_stays 90 = .ok (.invokevirtual 150, 3) := by decide +kernel
theorem dX7_stays_93 : decode cX7_stays 93 = .ok (.iload_n 2, 1) := by decide +kernel
theorem dX7_stays_94 : decode cX7_stays 94 = .ok (.if_icmp .ne 8, 3) := by decide +kernel
theorem dX7_stays_97 : decode cX7_stays 97 = .ok (.iload 6, 2) := by decide +kernel
theorem dX7_stays_99 : decode cX7_stays 99 = .ok (.goto 5, 3) := by decide +kernel
theorem dX7_stays_102 : decode cX7_stays 102 = .ok (.bipush (-9), 2) := by decide +kernel
theorem dX7_stays_104 : decode cX7_stays 104 = .ok (.istore 5, 2) := by decide +kernel
theorem dX7_stays_106 : decode cX7_stays 106 = .ok (.iinc 6 1, 3) := by decide +kernel
theorem dX7_stays_109 : decode cX7_stays 109 = .ok (.goto (-54), 3) := by decide +kernel
theorem dX7_stays_112 : decode cX7_stays 112 = .ok (.aload_n 0, 1) := by decide +kernel
theorem dX7_stays_113 : decode cX7_stays 113 = .ok (.getfield 13, 3) := by decide +kernel
theorem dX7_stays_116 : decode cX7_stays 116 = .ok (.iload_n 3, 1) := by decide +kernel
theorem dX7_stays_117 : decode cX7_stays 117 = .ok (.iload 4, 2) := by decide +kernel
theorem dX7_stays_119 : decode cX7_stays 119 = .ok (.iastore, 1) := by decide +kernel
theorem dX7_stays_120 : decode cX7_stays 120 = .ok (.iload 5, 2) := by decide +kernel
theorem dX7_stays_122 : decode cX7_stays 122 = .ok (.ireturn, 1) := by decide +kernel
theorem dX7_jarSort_0 : decode cX7_jarSort 0 = .ok (.aload_n 0, 1) := by decide +kernel
theorem dX7_jarSort_1 : decode cX7_jarSort 1 = .ok (.iconst 1, 1) := by decide +kernel
theorem dX7_jarSort_2 : decode cX7_jarSort 2 = .ok (.putfield 126, 3) := by decide +kernel
theorem dX7_jarSort_5 : decode cX7_jarSort 5 = .ok (.aload_n 0, 1) := by decide +kernel
theorem dX7_jarSort_6 : decode cX7_jarSort 6 = .ok (.aload_n 0, 1) := by decide +kernel
theorem dX7_jarSort_7 : decode cX7_jarSort 7 = .ok (.getfield 19, 3) := by decide +kernel
theorem dX7_jarSort_10 : decode cX7_jarSort 10 = .ok (.iload_n 1, 1) := by decide +kernel
theorem dX7_jarSort_11 : decode cX7_jarSort 11 = .ok (.aload_n 0, 1) := by decide +kernel
theorem dX7_jarSort_12 : decode cX7_jarSort 12 = .ok (.getfield 19, 3) := by decide +kernel
theorem dX7_jarSort_15 : decode cX7_jarSort 15 = .ok (.iconst 0, 1) := by decide +kernel
theorem dX7_jarSort_16 : decode cX7_jarSort 16 = .ok (.iaload, 1) := by decide +kernel
theorem dX7_jarSort_17 : decode cX7_jarSort 17 = .ok (.invokevirtual 150, 3) := by decide +kernel
theorem dX7_jarSort_20 : decode cX7_jarSort 20 = .ok (.istore_n 2, 1) := by decide +kernel
theorem dX7_jarSort_21 : decode cX7_jarSort 21 = .ok (.aload_n 0, 1) := by decide +kernel
theorem dX7_jarSort_22 : decode cX7_jarSort 22 = .ok (.iconst 0, 1) := by decide +kernel
theorem dX7_jarSort_23 : decode cX7_jarSort 23 = .ok (.putfield 126, 3) := by decide +kernel
theorem dX7_jarSort_26 : decode cX7_jarSort 26 = .ok (.iload_n 2, 1) := by decide +kernel
theorem dX7_jarSort_27 : decode cX7_jarSort 27 = .ok (.bipush (-9), 2) := by decide +kernel
theorem dX7_jarSort_29 : decode cX7_jarSort 29 = .ok (.if_icmp .ne 7, 3) := by decide +kernel
theorem dX7_jarSort_32 : decode cX7_jarSort 32 = .ok (.iconst 0, 1) := by decide +kernel
theorem dX7_jarSort_33 : decode cX7_jarSort 33 = .ok (.goto 4, 3) := by decide +kernel
theorem dX7_jarSort_36 : decode cX7_jarSort 36 = .ok (.iload_n 2, 1) := by decide +kernel
theorem dX7_jarSort_37 : decode cX7_jarSort 37 = .ok (.ireturn, 1) := by decide +kernel
theorem dX7_jarPages_0 : decode cX7_jarPages 0 = .ok (.iconst 0, 1) := by decide +kernel
theorem dX7_jarPages_1 : decode cX7_jarPages 1 = .ok (.istore_n 2, 1) := by decide +kernel
theorem dX7_jarPages_2 : decode cX7_jarPages 2 = .ok (.iconst 0, 1) := by decide +kernel
theorem dX7_jarPages_3 : decode cX7_jarPages 3 = .ok (.istore_n 3, 1) := by decide +kernel
theorem dX7_jarPages_4 : decode cX7_jarPages 4 = .ok (.iload_n 3, 1) := by decide +kernel
theorem dX7_jarPages_5 : decode cX7_jarPages 5 = .ok (.aload_n 0, 1) := by decide +kernel
theorem dX7_jarPages_6 : decode cX7_jarPages 6 = .ok (.getfield 13, 3) := by decide +kernel
theorem dX7_jarPages_9 : decode cX7_jarPages 9 = .ok (.bipush 40, 2) := by decide +kernel
theorem dX7_jarPages_11 : decode cX7_jarPages 11 = .ok (.iaload, 1) := by decide +kernel
theorem dX7_jarPages_12 : decode cX7_jarPages 12 = .ok (.if_icmp .ge 35, 3) := by decide +kernel
theorem dX7_jarPages_15 : decode cX7_jarPages 15 = .ok (.iload_n 2, 1) := by decide +kernel
theorem dX7_jarPages_16 : decode cX7_jarPages 16 = .ok (.iload_n 1, 1) := by decide +kernel
theorem dX7_jarPages_17 : decode cX7_jarPages 17 = .ok (.iload_n 3, 1) := by decide +kernel
theorem dX7_jarPages_18 : decode cX7_jarPages 18 = .ok (.ishr, 1) := by decide +kernel
theorem dX7_jarPages_19 : decode cX7_jarPages 19 = .ok (.iconst 1, 1) := by decide +kernel
theorem dX7_jarPages_20 : decode cX7_jarPages 20 = .ok (.iand, 1) := by decide +kernel
theorem dX7_jarPages_21 : decode cX7_jarPages 21 = .ok (.iconst 1, 1) := by decide +kernel
theorem dX7_jarPages_22 : decode cX7_jarPages 22 = .ok (.if_icmp .ne 16, 3) := by decide +kernel
theorem dX7_jarPages_25 : decode cX7_jarPages 25 = .ok (.aload_n 0, 1) := by decide +kernel
theorem dX7_jarPages_26 : decode cX7_jarPages 26 = .ok (.iload_n 3, 1) := by decide +kernel
theorem dX7_jarPages_27 : decode cX7_jarPages 27 = .ok (.aload_n 0, 1) := by decide +kernel
theorem dX7_jarPages_28 : decode cX7_jarPages 28 = .ok (.iload_n 3, 1) := by decide +kernel
theorem dX7_jarPages_29 : decode cX7_jarPages 29 = .ok (.invokevirtual 174, 3) := by decide +kernel
theorem dX7_jarPages_32 : decode cX7_jarPages 32 = .ok (.invokevirtual 136, 3) := by decide +kernel
theorem dX7_jarPages_35 : decode cX7_jarPages 35 = .ok (.goto 4, 3) := by decide +kernel
theorem dX7_jarPages_38 : decode cX7_jarPages 38 = .ok (.iconst 0, 1) := by decide +kernel
theorem dX7_jarPages_39 : decode cX7_jarPages 39 = .ok (.iadd, 1) := by decide +kernel
theorem dX7_jarPages_40 : decode cX7_jarPages 40 = .ok (.istore_n 2, 1) := by decide +kernel
theorem dX7_jarPages_41 : decode cX7_jarPages 41 = .ok (.iinc 3 1, 3) := by decide +kernel
theorem dX7_jarPages_44 : decode cX7_jarPages 44 = .ok (.goto (-40), 3) := by decide +kernel
theorem dX7_jarPages_47 : decode cX7_jarPages 47 = .ok (.iload_n 2, 1) := by decide +kernel
theorem dX7_jarPages_48 : decode cX7_jarPages 48 = .ok (.ireturn, 1) := by decide +kernel
theorem dX7_jarHas_0 : decode cX7_jarHas 0 = .ok (.iload_n 2, 1) := by decide +kernel
theorem dX7_jarHas_1 : decode cX7_jarHas 1 = .ok (.iload_n 1, 1) := by decide +kernel
theorem dX7_jarHas_2 : decode cX7_jarHas 2 = .ok (.ishr, 1) := by decide +kernel
theorem dX7_jarHas_3 : decode cX7_jarHas 3 = .ok (.iconst 1, 1) := by decide +kernel
theorem dX7_jarHas_4 : decode cX7_jarHas 4 = .ok (.iand, 1) := by decide +kernel
theorem dX7_jarHas_5 : decode cX7_jarHas 5 = .ok (.iconst 1, 1) := by decide +kernel
theorem dX7_jarHas_6 : decode cX7_jarHas 6 = .ok (.if_icmp .ne 27, 3) := by decide +kernel
theorem dX7_jarHas_9 : decode cX7_jarHas 9 = .ok (.aload_n 0, 1) := by decide +kernel
theorem dX7_jarHas_10 : decode cX7_jarHas 10 = .ok (.aload_n 0, 1) := by decide +kernel
theorem dX7_jarHas_11 : decode cX7_jarHas 11 = .ok (.getfield 19, 3) := by decide +kernel
theorem dX7_jarHas_14 : decode cX7_jarHas 14 = .ok (.iload_n 1, 1) := by decide +kernel
theorem dX7_jarHas_15 : decode cX7_jarHas 15 = .ok (.aload_n 0, 1) := by decide +kernel
theorem dX7_jarHas_16 : decode cX7_jarHas 16 = .ok (.iload_n 1, 1) := by decide +kernel
theorem dX7_jarHas_17 : decode cX7_jarHas 17 = .ok (.invokevirtual 174, 3) := by decide +kernel
theorem dX7_jarHas_20 : decode cX7_jarHas 20 = .ok (.invokevirtual 139, 3) := by decide +kernel
theorem dX7_jarHas_23 : decode cX7_jarHas 23 = .ok (.aload_n 0, 1) := by decide +kernel
theorem dX7_jarHas_24 : decode cX7_jarHas 24 = .ok (.getfield 16, 3) := by decide +kernel
theorem dX7_jarHas_27 : decode cX7_jarHas 27 = .ok (.iconst 0, 1) := by decide +kernel
theorem dX7_jarHas_28 : decode cX7_jarHas 28 = .ok (.iaload, 1) := by decide +kernel
theorem dX7_jarHas_29 : decode cX7_jarHas 29 = .ok (.isub, 1) := by decide +kernel
theorem dX7_jarHas_30 : decode cX7_jarHas 30 = .ok (.goto 4, 3) := by decide +kernel
theorem dX7_jarHas_33 : decode cX7_jarHas 33 = .ok (.iconst 0, 1) := by decide +kernel
theorem dX7_jarHas_34 : decode cX7_jarHas 34 = .ok (.istore 5, 2) := by decide +kernel
theorem dX7_jarHas_36 : decode cX7_jarHas 36 = .ok (.iload 5, 2) := by decide +kernel
theorem dX7_jarHas_38 : decode cX7_jarHas 38 = .ok (.aload_n 0, 1) := by decide +kernel
theorem dX7_jarHas_39 : decode cX7_jarHas 39 = .ok (.iload_n 2, 1) := by decide +kernel
theorem dX7_jarHas_40 : decode cX7_jarHas 40 = .ok (.invokevirtual 177, 3) := by decide +kernel
theorem dX7_jarHas_43 : decode cX7_jarHas 43 = .ok (.iload_n 3, 1) := by decide +kernel
theorem dX7_jarHas_44 : decode cX7_jarHas 44 = .ok (.if_icmp .lt 29, 3) := by decide +kernel
theorem dX7_jarHas_47 : decode cX7_jarHas 47 = .ok (.iload 4, 2) := by decide +kernel
theorem dX7_jarHas_49 : decode cX7_jarHas 49 = .ok (.aload_n 0, 1) := by decide +kernel
theorem dX7_jarHas_50 : decode cX7_jarHas 50 = .ok (.getfield 13, 3) := by decide +kernel
theorem dX7_jarHas_53 : decode cX7_jarHas 53 = .ok (.iconst 3, 1) := by decide +kernel
theorem dX7_jarHas_54 : decode cX7_jarHas 54 = .ok (.iload_n 1, 1) := by decide +kernel
theorem dX7_jarHas_55 : decode cX7_jarHas 55 = .ok (.imul, 1) := by decide +kernel
theorem dX7_jarHas_56 : decode cX7_jarHas 56 = .ok (.iconst 2, 1) := by decide +kernel
theorem dX7_jarHas_57 : decode cX7_jarHas 57 = .ok (.iadd, 1) := by decide +kernel
theorem dX7_jarHas_58 : decode cX7_jarHas 58 = .ok (.iaload, 1) := by decide +kernel
theorem dX7_jarHas_59 : decode cX7_jarHas 59 = .ok (.imul, 1) := by decide +kernel
theorem dX7_jarHas_60 : decode cX7_jarHas 60 = .ok (.aload_n 0, 1) := by decide +kernel
theorem dX7_jarHas_61 : decode cX7_jarHas 61 = .ok (.getfield 19, 3) := by decide +kernel
theorem dX7_jarHas_64 : decode cX7_jarHas 64 = .ok (.iconst 1, 1) := by decide +kernel
theorem dX7_jarHas_65 : decode cX7_jarHas 65 = .ok (.iaload, 1) := by decide +kernel
theorem dX7_jarHas_66 : decode cX7_jarHas 66 = .ok (.imul, 1) := by decide +kernel
theorem dX7_jarHas_67 : decode cX7_jarHas 67 = .ok (.bipush 100, 2) := by decide +kernel
theorem dX7_jarHas_69 : decode cX7_jarHas 69 = .ok (.idiv, 1) := by decide +kernel
theorem dX7_jarHas_70 : decode cX7_jarHas 70 = .ok (.goto 4, 3) := by decide +kernel
theorem dX7_jarHas_73 : decode cX7_jarHas 73 = .ok (.iconst 0, 1) := by decide +kernel
theorem dX7_jarHas_74 : decode cX7_jarHas 74 = .ok (.iadd, 1) := by decide +kernel
theorem dX7_jarHas_75 : decode cX7_jarHas 75 = .ok (.ireturn, 1) := by decide +kernel
theorem dX7_rests_0 : decode cX7_rests 0 = .ok (.aload_n 0, 1) := by decide +kernel
theorem dX7_rests_1 : decode cX7_rests 1 = .ok (.iconst 0, 1) := by decide +kernel
theorem dX7_rests_2 : decode cX7_rests 2 = .ok (.putfield 47, 3) := by decide +kernel
theorem dX7_rests_5 : decode cX7_rests 5 = .ok (.iload_n 1, 1) := by decide +kernel
theorem dX7_rests_6 : decode cX7_rests 6 = .ok (.iconst 1, 1) := by decide +kernel
theorem dX7_rests_7 : decode cX7_rests 7 = .ok (.sipush 999, 3) := by decide +kernel
theorem dX7_rests_10 : decode cX7_rests 10 = .ok (.invokestatic 51, 3) := by decide +kernel
theorem dX7_rests_13 : decode cX7_rests 13 = .ok (.ifCond .eq 22, 3) := by decide +kernel
theorem dX7_rests_16 : decode cX7_rests 16 = .ok (.iload_n 2, 1) := by decide +kernel
theorem dX7_rests_17 : decode cX7_rests 17 = .ok (.iconst 0, 1) := by decide +kernel
theorem dX7_rests_18 : decode cX7_rests 18 = .ok (.bipush 99, 2) := by decide +kernel
theorem dX7_rests_20 : decode cX7_rests 20 = .ok (.invokestatic 51, 3) := by decide +kernel
theorem dX7_rests_23 : decode cX7_rests 23 = .ok (.ifCond .eq 12, 3) := by decide +kernel
theorem dX7_rests_26 : decode cX7_rests 26 = .ok (.iload_n 3, 1) := by decide +kernel
theorem dX7_rests_27 : decode cX7_rests 27 = .ok (.iconst 0, 1) := by decide +kernel
theorem dX7_rests_28 : decode cX7_rests 28 = .ok (.iconst 1, 1) := by decide +kernel
theorem dX7_rests_29 : decode cX7_rests 29 = .ok (.invokestatic 51, 3) := by decide +kernel
theorem dX7_rests_32 : decode cX7_rests 32 = .ok (.ifCond .ne 5, 3) := by decide +kernel
theorem dX7_rests_35 : decode cX7_rests 35 = .ok (.iconst (-1), 1) := by decide +kernel
theorem dX7_rests_36 : decode cX7_rests 36 = .ok (.ireturn, 1) := by decide +kernel
theorem dX7_rests_37 : decode cX7_rests 37 = .ok (.aload_n 0, 1) := by decide +kernel
theorem dX7_rests_38 : decode cX7_rests 38 = .ok (.getfield 13, 3) := by decide +kernel
theorem dX7_rests_41 : decode cX7_rests 41 = .ok (.bipush 41, 2) := by decide +kernel
theorem dX7_rests_43 : decode cX7_rests 43 = .ok (.iaload, 1) := by decide +kernel
theorem dX7_rests_44 : decode cX7_rests 44 = .ok (.ifCond .ne 6, 3) := by decide +kernel
theorem dX7_rests_47 : decode cX7_rests 47 = .ok (.bipush (-2), 2) := by decide +kernel
theorem dX7_rests_49 : decode cX7_rests 49 = .ok (.ireturn, 1) := by decide +kernel
theorem dX7_rests_50 : decode cX7_rests 50 = .ok (.iconst 0, 1) := by decide +kernel
theorem dX7_rests_51 : decode cX7_rests 51 = .ok (.istore 4, 2) := by decide +kernel
theorem dX7_rests_53 : decode cX7_rests 53 = .ok (.bipush (-9), 2) := by decide +kernel
theorem dX7_rests_55 : decode cX7_rests 55 = .ok (.istore 5, 2) := by decide +kernel
theorem dX7_rests_57 : decode cX7_rests 57 = .ok (.iconst 0, 1) := by decide +kernel
theorem dX7_rests_58 : decode cX7_rests 58 = .ok (.istore 6, 2) := by decide +kernel
theorem dX7_rests_60 : decode cX7_rests 60 = .ok (.iload 6, 2) := by decide +kernel
theorem dX7_rests_62 : decode cX7_rests 62 = .ok (.iconst 1, 1) := by decide +kernel
theorem dX7_rests_63 : decode cX7_rests 63 = .ok (.aload_n 0, 1) := by decide +kernel
theorem dX7_rests_64 : decode cX7_rests 64 = .ok (.getfield 13, 3) := by decide +kernel
theorem dX7_rests_67 : decode cX7_rests 67 = .ok (.bipush 40, 2) := by decide +kernel
theorem dX7_rests_69 : decode cX7_rests 69 = .ok (.iaload, 1) := by decide +kernel
theorem dX7_rests_70 : decode cX7_rests 70 = .ok (.ishl, 1) := by decide +kernel
theorem dX7_rests_71 : decode cX7_rests 71 = .ok (.if_icmp .ge 107, 3) := by decide +kernel
theorem dX7_rests_74 : decode cX7_rests 74 = .ok (.iconst 1, 1) := by decide +kernel
theorem dX7_rests_75 : decode cX7_rests 75 = .ok (.istore 7, 2) := by decide +kernel
theorem dX7_rests_77 : decode cX7_rests 77 = .ok (.iconst 0, 1) := by decide +kernel
theorem dX7_rests_78 : decode cX7_rests 78 = .ok (.istore 8, 2) := by decide +kernel
theorem dX7_rests_80 : decode cX7_rests 80 = .ok (.iload 8, 2) := by decide +kernel
theorem dX7_rests_82 : decode cX7_rests 82 = .ok (.aload_n 0, 1) := by decide +kernel
theorem dX7_rests_83 : decode cX7_rests 83 = .ok (.getfield 13, 3) := by decide +kernel
theorem dX7_rests_86 : decode cX7_rests 86 = .ok (.bipush 40, 2) := by decide +kernel
theorem dX7_rests_88 : decode cX7_rests 88 = .ok (.iaload, 1) := by decide +kernel
theorem dX7_rests_89 : decode cX7_rests 89 = .ok (.if_icmp .ge 49, 3) := by decide +kernel
theorem dX7_rests_92 : decode cX7_rests 92 = .ok (.iload 7, 2) := by decide +kernel
theorem dX7_rests_94 : decode cX7_rests 94 = .ok (.ifCond .eq 35, 3) := by decide +kernel
theorem dX7_rests_97 : decode cX7_rests 97 = .ok (.aload_n 0, 1) := by decide +kernel
theorem dX7_rests_98 : decode cX7_rests 98 = .ok (.iload 8, 2) := by decide +kernel
theorem dX7_rests_100 : decode cX7_rests 100 = .ok (.iload 6, 2) := by decide +kernel
theorem dX7_rests_102 : decode cX7_rests 102 = .ok (.iconst 1, 1) := by decide +kernel
theorem dX7_rests_103 : decode cX7_rests 103 = .ok (.iload 8, 2) := by decide +kernel
theorem dX7_rests_105 : decode cX7_rests 105 = .ok (.ishl, 1) := by decide +kernel
theorem dX7_rests_106 : decode cX7_rests 106 = .ok (.ixor, 1) := by decide +kernel
theorem dX7_rests_107 : decode cX7_rests 107 = .ok (.iload_n 1, 1) := by decide +kernel
theorem dX7_rests_108 : decode cX7_rests 108 = .ok (.iload_n 2, 1) := by decide +kernel
theorem dX7_rests_109 : decode cX7_rests 109 = .ok (.invokevirtual 180, 3) := by decide +kernel
theorem dX7_rests_112 : decode cX7_rests 112 = .ok (.aload_n 0, 1) := by decide +kernel
theorem dX7_rests_113 : decode cX7_rests 113 = .ok (.iload 8, 2) := by decide +kernel
theorem dX7_rests_115 : decode cX7_rests 115 = .ok (.iload 6, 2) := by decide +kernel
theorem dX7_rests_117 : decode cX7_rests 117 = .ok (.iload_n 1, 1) := by decide +kernel
theorem dX7_rests_118 : decode cX7_rests 118 = .ok (.iload_n 2, 1) := by decide +kernel
theorem dX7_rests_119 : decode cX7_rests 119 = .ok (.invokevirtual 180, 3) := by decide +kernel
theorem dX7_rests_122 : decode cX7_rests 122 = .ok (.if_icmp .gt 7, 3) := by decide +kernel
theorem dX7_rests_125 : decode cX7_rests 125 = .ok (.iconst 1, 1) := by decide +kernel
theorem dX7_rests_126 : decode cX7_rests 126 = .ok (.goto 4, 3) := by decide +kernel
theorem dX7_rests_129 : decode cX7_rests 129 = .ok (.iconst 0, 1) := by decide +kernel
theorem dX7_rests_130 : decode cX7_rests 130 = .ok (.istore 7, 2) := by decide +kernel
theorem dX7_rests_132 : decode cX7_rests 132 = .ok (.iinc 8 1, 3) := by decide +kernel
theorem dX7_rests_135 : decode cX7_rests 135 = .ok (.goto (-55), 3) := by decide +kernel
theorem dX7_rests_138 : decode cX7_rests 138 = .ok (.iload 7, 2) := by decide +kernel
theorem dX7_rests_140 : decode cX7_rests 140 = .ok (.ifCond .eq 13, 3) := by decide +kernel
theorem dX7_rests_143 : decode cX7_rests 143 = .ok (.iload 4, 2) := by decide +kernel
theorem dX7_rests_145 : decode cX7_rests 145 = .ok (.ifCond .ne 8, 3) := by decide +kernel
theorem dX7_rests_148 : decode cX7_rests 148 = .ok (.iload 6, 2) := by decide +kernel
theorem dX7_rests_150 : decode cX7_rests 150 = .ok (.goto 5, 3) := by decide +kernel
theorem dX7_rests_153 : decode cX7_rests 153 = .ok (.iload 5, 2) := by decide +kernel
theorem dX7_rests_155 : decode cX7_rests 155 = .ok (.istore 5, 2) := by decide +kernel
theorem dX7_rests_157 : decode cX7_rests 157 = .ok (.iload 4, 2) := by decide +kernel
theorem dX7_rests_159 : decode cX7_rests 159 = .ok (.iload 7, 2) := by decide +kernel
theorem dX7_rests_161 : decode cX7_rests 161 = .ok (.ifCond .eq 7, 3) := by decide +kernel
theorem dX7_rests_164 : decode cX7_rests 164 = .ok (.iconst 1, 1) := by decide +kernel
theorem dX7_rests_165 : decode cX7_rests 165 = .ok (.goto 4, 3) := by decide +kernel
theorem dX7_rests_168 : decode cX7_rests 168 = .ok (.iconst 0, 1) := by decide +kernel
theorem dX7_rests_169 : decode cX7_rests 169 = .ok (.iadd, 1) := by decide +kernel
theorem dX7_rests_170 : decode cX7_rests 170 = .ok (.istore 4, 2) := by decide +kernel
theorem dX7_rests_172 : decode cX7_rests 172 = .ok (.iinc 6 1, 3) := by decide +kernel
theorem dX7_rests_175 : decode cX7_rests 175 = .ok (.goto (-115), 3) := by decide +kernel
theorem dX7_rests_178 : decode cX7_rests 178 = .ok (.iload_n 3, 1) := by decide +kernel
theorem dX7_rests_179 : decode cX7_rests 179 = .ok (.ifCond .ne 8, 3) := by decide +kernel
theorem dX7_rests_182 : decode cX7_rests 182 = .ok (.iload 4, 2) := by decide +kernel
theorem dX7_rests_184 : decode cX7_rests 184 = .ok (.goto 5, 3) := by decide +kernel
theorem dX7_rests_187 : decode cX7_rests 187 = .ok (.iload 5, 2) := by decide +kernel
theorem dX7_rests_189 : decode cX7_rests 189 = .ok (.ireturn, 1) := by decide +kernel
theorem dX7_blamed_0 : decode cX7_blamed 0 = .ok (.aload_n 0, 1) := by decide +kernel
theorem dX7_blamed_1 : decode cX7_blamed 1 = .ok (.iconst 0, 1) := by decide +kernel
theorem dX7_blamed_2 : decode cX7_blamed 2 = .ok (.putfield 47, 3) := by decide +kernel
theorem dX7_blamed_5 : decode cX7_blamed 5 = .ok (.iload_n 1, 1) := by decide +kernel
theorem dX7_blamed_6 : decode cX7_blamed 6 = .ok (.iconst 1, 1) := by decide +kernel
theorem dX7_blamed_7 : decode cX7_blamed 7 = .ok (.sipush 999, 3) := by decide +kernel
theorem dX7_blamed_10 : decode cX7_blamed 10 = .ok (.invokestatic 51, 3) := by decide +kernel
theorem dX7_blamed_13 : decode cX7_blamed 13 = .ok (.ifCond .eq 22, 3) := by decide +kernel
theorem dX7_blamed_16 : decode cX7_blamed 16 = .ok (.iload_n 2, 1) := by decide +kernel
theorem dX7_blamed_17 : decode cX7_blamed 17 = .ok (.iconst 0, 1) := by decide +kernel
theorem dX7_blamed_18 : decode cX7_blamed 18 = .ok (.iconst 1, 1) := by decide +kernel
theorem dX7_blamed_19 : decode cX7_blamed 19 = .ok (.aload_n 0, 1) := by decide +kernel
theorem dX7_blamed_20 : decode cX7_blamed 20 = .ok (.getfield 13, 3) := by decide +kernel
theorem dX7_blamed_23 : decode cX7_blamed 23 = .ok (.bipush 40, 2) := by decide +kernel
theorem dX7_blamed_25 : decode cX7_blamed 25 = .ok (.iaload, 1) := by decide +kernel
theorem dX7_blamed_26 : decode cX7_blamed 26 = .ok (.ishl, 1) := by decide +kernel
theorem dX7_blamed_27 : decode cX7_blamed 27 = .ok (.iconst 1, 1) := by decide +kernel
theorem dX7_blamed_28 : decode cX7_blamed 28 = .ok (.isub, 1) := by decide +kernel
theorem dX7_blamed_29 : decode cX7_blamed 29 = .ok (.invokestatic 51, 3) := by decide +kernel
theorem dX7_blamed_32 : decode cX7_blamed 32 = .ok (.ifCond .ne 5, 3) := by decide +kernel
theorem dX7_blamed_35 : decode cX7_blamed 35 = .ok (.iconst (-1), 1) := by decide +kernel
theorem dX7_blamed_36 : decode cX7_blamed 36 = .ok (.ireturn, 1) := by decide +kernel
theorem dX7_blamed_37 : decode cX7_blamed 37 = .ok (.aload_n 0, 1) := by decide +kernel
theorem dX7_blamed_38 : decode cX7_blamed 38 = .ok (.getfield 13, 3) := by decide +kernel
theorem dX7_blamed_41 : decode cX7_blamed 41 = .ok (.bipush 41, 2) := by decide +kernel
theorem dX7_blamed_43 : decode cX7_blamed 43 = .ok (.iaload, 1) := by decide +kernel
theorem dX7_blamed_44 : decode cX7_blamed 44 = .ok (.ifCond .ne 6, 3) := by decide +kernel
theorem dX7_blamed_47 : decode cX7_blamed 47 = .ok (.bipush (-2), 2) := by decide +kernel
theorem dX7_blamed_49 : decode cX7_blamed 49 = .ok (.ireturn, 1) := by decide +kernel
theorem dX7_blamed_50 : decode cX7_blamed 50 = .ok (.aload_n 0, 1) := by decide +kernel
theorem dX7_blamed_51 : decode cX7_blamed 51 = .ok (.iload_n 2, 1) := by decide +kernel
theorem dX7_blamed_52 : decode cX7_blamed 52 = .ok (.invokevirtual 177, 3) := by decide +kernel
theorem dX7_blamed_55 : decode cX7_blamed 55 = .ok (.istore_n 3, 1) := by decide +kernel
theorem dX7_blamed_56 : decode cX7_blamed 56 = .ok (.iconst 0, 1) := by decide +kernel
theorem dX7_blamed_57 : decode cX7_blamed 57 = .ok (.istore 4, 2) := by decide +kernel
theorem dX7_blamed_59 : decode cX7_blamed 59 = .ok (.iload 4, 2) := by decide +kernel
theorem dX7_blamed_61 : decode cX7_blamed 61 = .ok (.aload_n 0, 1) := by decide +kernel
theorem dX7_blamed_62 : decode cX7_blamed 62 = .ok (.getfield 13, 3) := by decide +kernel
theorem dX7_blamed_65 : decode cX7_blamed 65 = .ok (.bipush 40, 2) := by decide +kernel
theorem dX7_blamed_67 : decode cX7_blamed 67 = .ok (.iaload, 1) := by decide +kernel
theorem dX7_blamed_68 : decode cX7_blamed 68 = .ok (.if_icmp .ge 44, 3) := by decide +kernel
theorem dX7_blamed_71 : decode cX7_blamed 71 = .ok (.iload_n 3, 1) := by decide +kernel
theorem dX7_blamed_72 : decode cX7_blamed 72 = .ok (.iload_n 1, 1) := by decide +kernel
theorem dX7_blamed_73 : decode cX7_blamed 73 = .ok (.if_icmp .ge 39, 3) := by decide +kernel
theorem dX7_blamed_76 : decode cX7_blamed 76 = .ok (.iload_n 2, 1) := by decide +kernel
theorem dX7_blamed_77 : decode cX7_blamed 77 = .ok (.iload 4, 2) := by decide +kernel
theorem dX7_blamed_79 : decode cX7_blamed 79 = .ok (.ishr, 1) := by decide +kernel
theorem dX7_blamed_80 : decode cX7_blamed 80 = .ok (.iconst 1, 1) := by decide +kernel
theorem dX7_blamed_81 : decode cX7_blamed 81 = .ok (.iand, 1) := by decide +kernel
theorem dX7_blamed_82 : decode cX7_blamed 82 = .ok (.ifCond .ne 24, 3) := by decide +kernel
theorem dX7_blamed_85 : decode cX7_blamed 85 = .ok (.iload_n 3, 1) := by decide +kernel
theorem dX7_blamed_86 : decode cX7_blamed 86 = .ok (.aload_n 0, 1) := by decide +kernel
theorem dX7_blamed_87 : decode cX7_blamed 87 = .ok (.iload 4, 2) := by decide +kernel
theorem dX7_blamed_89 : decode cX7_blamed 89 = .ok (.aload_n 0, 1) := by decide +kernel
theorem dX7_blamed_90 : decode cX7_blamed 90 = .ok (.iload 4, 2) := by decide +kernel
theorem dX7_blamed_92 : decode cX7_blamed 92 = .ok (.invokevirtual 174, 3) := by decide +kernel
theorem dX7_blamed_95 : decode cX7_blamed 95 = .ok (.invokevirtual 136, 3) := by decide +kernel
theorem dX7_blamed_98 : decode cX7_blamed 98 = .ok (.iadd, 1) := by decide +kernel
theorem dX7_blamed_99 : decode cX7_blamed 99 = .ok (.iload_n 1, 1) := by decide +kernel
theorem dX7_blamed_100 : decode cX7_blamed 100 = .ok (.if_icmp .lt 6, 3) := by decide +kernel
theorem dX7_blamed_103 : decode cX7_blamed 103 = .ok (.iload 4, 2) := by decide +kernel
theorem dX7_blamed_105 : decode cX7_blamed 105 = .ok (.ireturn, 1) := by decide +kernel
theorem dX7_blamed_106 : decode cX7_blamed 106 = .ok (.iinc 4 1, 3) := by decide +kernel
theorem dX7_blamed_109 : decode cX7_blamed 109 = .ok (.goto (-50), 3) := by decide +kernel
theorem dX7_blamed_112 : decode cX7_blamed 112 = .ok (.bipush (-9), 2) := by decide +kernel
theorem dX7_blamed_114 : decode cX7_blamed 114 = .ok (.ireturn, 1) := by decide +kernel
theorem dX7_checks_0 : decode cX7_checks 0 = .ok (.aload_n 0, 1) := by decide +kernel
theorem dX7_checks_1 : decode cX7_checks 1 = .ok (.iconst 0, 1) := by decide +kernel
theorem dX7_checks_2 : decode cX7_checks 2 = .ok (.putfield 47, 3) := by decide +kernel
theorem dX7_checks_5 : decode cX7_checks 5 = .ok (.iload_n 1, 1) := by decide +kernel
theorem dX7_checks_6 : decode cX7_checks 6 = .ok (.iconst 0, 1) := by decide +kernel
theorem dX7_checks_7 : decode cX7_checks 7 = .ok (.bipush 99, 2) := by decide +kernel
theorem dX7_checks_9 : decode cX7_checks 9 = .ok (.invokestatic 51, 3) := by decide +kernel
theorem dX7_checks_12 : decode cX7_checks 12 = .ok (.ifCond .ne 5, 3) := by decide +kernel
theorem dX7_checks_15 : decode cX7_checks 15 = .ok (.iconst (-1), 1) := by decide +kernel
theorem dX7_checks_16 : decode cX7_checks 16 = .ok (.ireturn, 1) := by decide +kernel
theorem dX7_checks_17 : decode cX7_checks 17 = .ok (.iconst 0, 1) := by decide +kernel
theorem dX7_checks_18 : decode cX7_checks 18 = .ok (.istore_n 2, 1) := by decide +kernel
theorem dX7_checks_19 : decode cX7_checks 19 = .ok (.iload_n 2, 1) := by decide +kernel
theorem dX7_checks_20 : decode cX7_checks 20 = .ok (.bipush 11, 2) := by decide +kernel
theorem dX7_checks_22 : decode cX7_checks 22 = .ok (.if_icmp .ge 113, 3) := by decide +kernel
theorem dX7_checks_25 : decode cX7_checks 25 = .ok (.iconst 1, 1) := by decide +kernel
theorem dX7_checks_26 : decode cX7_checks 26 = .ok (.istore_n 3, 1) := by decide +kernel
theorem dX7_checks_27 : decode cX7_checks 27 = .ok (.iconst 0, 1) := by decide +kernel
theorem dX7_checks_28 : decode cX7_checks 28 = .ok (.istore 4, 2) := by decide +kernel
theorem dX7_checks_30 : decode cX7_checks 30 = .ok (.iload 4, 2) := by decide +kernel
theorem dX7_checks_32 : decode cX7_checks 32 = .ok (.aload_n 0, 1) := by decide +kernel
theorem dX7_checks_33 : decode cX7_checks 33 = .ok (.getfield 13, 3) := by decide +kernel
theorem dX7_checks_36 : decode cX7_checks 36 = .ok (.bipush 40, 2) := by decide +kernel
theorem dX7_checks_38 : decode cX7_checks 38 = .ok (.iaload, 1) := by decide +kernel
theorem dX7_checks_39 : decode cX7_checks 39 = .ok (.if_icmp .ge 84, 3) := by decide +kernel
theorem dX7_checks_42 : decode cX7_checks 42 = .ok (.aload_n 0, 1) := by decide +kernel
theorem dX7_checks_43 : decode cX7_checks 43 = .ok (.aload_n 0, 1) := by decide +kernel
theorem dX7_checks_44 : decode cX7_checks 44 = .ok (.getfield 19, 3) := by decide +kernel
theorem dX7_checks_47 : decode cX7_checks 47 = .ok (.iload 4, 2) := by decide +kernel
theorem dX7_checks_49 : decode cX7_checks 49 = .ok (.aload_n 0, 1) := by decide +kernel
theorem dX7_checks_50 : decode cX7_checks 50 = .ok (.getfield 19, 3) := by decide +kernel
theorem dX7_checks_53 : decode cX7_checks 53 = .ok (.iconst 0, 1) := by decide +kernel
theorem dX7_checks_54 : decode cX7_checks 54 = .ok (.iaload, 1) := by decide +kernel
theorem dX7_checks_55 : decode cX7_checks 55 = .ok (.invokevirtual 150, 3) := by decide +kernel
theorem dX7_checks_58 : decode cX7_checks 58 = .ok (.istore 5, 2) := by decide +kernel
theorem dX7_checks_60 : decode cX7_checks 60 = .ok (.iload 5, 2) := by decide +kernel
theorem dX7_checks_62 : decode cX7_checks 62 = .ok (.bipush (-9), 2) := by decide +kernel
theorem dX7_checks_64 : decode cX7_checks 64 = .ok (.if_icmp .ne 7, 3) := by decide +kernel
theorem dX7_checks_67 : decode cX7_checks 67 = .ok (.iconst 0, 1) := by decide +kernel
theorem dX7_checks_68 : decode cX7_checks 68 = .ok (.goto 24, 3) := by decide +kernel
theorem dX7_checks_71 : decode cX7_checks 71 = .ok (.aload_n 0, 1) := by decide +kernel
theorem dX7_checks_72 : decode cX7_checks 72 = .ok (.iload 4, 2) := by decide +kernel
theorem dX7_checks_74 : decode cX7_checks 74 = .ok (.iload 5, 2) := by decide +kernel
theorem dX7_checks_76 : decode cX7_checks 76 = .ok (.invokevirtual 136, 3) := by decide +kernel
theorem dX7_checks_79 : decode cX7_checks 79 = .ok (.aload_n 0, 1) := by decide +kernel
theorem dX7_checks_80 : decode cX7_checks 80 = .ok (.iload 5, 2) := by decide +kernel
theorem dX7_checks_82 : decode cX7_checks 82 = .ok (.aload_n 0, 1) := by decide +kernel
theorem dX7_checks_83 : decode cX7_checks 83 = .ok (.getfield 19, 3) := by decide +kernel
theorem dX7_checks_86 : decode cX7_checks 86 = .ok (.iconst 0, 1) := by decide +kernel
theorem dX7_checks_87 : decode cX7_checks 87 = .ok (.iaload, 1) := by decide +kernel
theorem dX7_checks_88 : decode cX7_checks 88 = .ok (.invokevirtual 133, 3) := by decide +kernel
theorem dX7_checks_91 : decode cX7_checks 91 = .ok (.imul, 1) := by decide +kernel
theorem dX7_checks_92 : decode cX7_checks 92 = .ok (.istore 6, 2) := by decide +kernel
theorem dX7_checks_94 : decode cX7_checks 94 = .ok (.iload_n 3, 1) := by decide +kernel
theorem dX7_checks_95 : decode cX7_checks 95 = .ok (.ifCond .eq 20, 3) := by decide +kernel
theorem dX7_checks_98 : decode cX7_checks 98 = .ok (.iload_n 2, 1) := by decide +kernel
theorem dX7_checks_99 : decode cX7_checks 99 = .ok (.iload_n 1, 1) := by decide +kernel
theorem dX7_checks_100 : decode cX7_checks 100 = .ok (.imul, 1) := by decide +kernel
theorem dX7_checks_101 : decode cX7_checks 101 = .ok (.bipush 10, 2) := by decide +kernel
theorem dX7_checks_103 : decode cX7_checks 103 = .ok (.iload_n 2, 1) := by decide +kernel
theorem dX7_checks_104 : decode cX7_checks 104 = .ok (.isub, 1) := by decide +kernel
theorem dX7_checks_105 : decode cX7_checks 105 = .ok (.iload 6, 2) := by decide +kernel
theorem dX7_checks_107 : decode cX7_checks 107 = .ok (.imul, 1) := by decide +kernel
theorem dX7_checks_108 : decode cX7_checks 108 = .ok (.if_icmp .lt 7, 3) := by decide +kernel
theorem dX7_checks_111 : decode cX7_checks 111 = .ok (.iconst 1, 1) := by decide +kernel
theorem dX7_checks_112 : decode cX7_checks 112 = .ok (.goto 4, 3) := by decide +kernel
theorem dX7_checks_115 : decode cX7_checks 115 = .ok (.iconst 0, 1) := by decide +kernel
theorem dX7_checks_116 : decode cX7_checks 116 = .ok (.istore_n 3, 1) := by decide +kernel
theorem dX7_checks_117 : decode cX7_checks 117 = .ok (.iinc 4 1, 3) := by decide +kernel
theorem dX7_checks_120 : decode cX7_checks 120 = .ok (.goto (-90), 3) := by decide +kernel
theorem dX7_checks_123 : decode cX7_checks 123 = .ok (.iload_n 3, 1) := by decide +kernel
theorem dX7_checks_124 : decode cX7_checks 124 = .ok (.ifCond .eq 5, 3) := by decide +kernel
theorem dX7_checks_127 : decode cX7_checks 127 = .ok (.iload_n 2, 1) := by decide +kernel
theorem dX7_checks_128 : decode cX7_checks 128 = .ok (.ireturn, 1) := by decide +kernel
theorem dX7_checks_129 : decode cX7_checks 129 = .ok (.iinc 2 1, 3) := by decide +kernel
theorem dX7_checks_132 : decode cX7_checks 132 = .ok (.goto (-113), 3) := by decide +kernel
theorem dX7_checks_135 : decode cX7_checks 135 = .ok (.bipush (-9), 2) := by decide +kernel
theorem dX7_checks_137 : decode cX7_checks 137 = .ok (.ireturn, 1) := by decide +kernel
theorem dX7_trial_0 : decode cX7_trial 0 = .ok (.aload_n 0, 1) := by decide +kernel
theorem dX7_trial_1 : decode cX7_trial 1 = .ok (.iconst 0, 1) := by decide +kernel
theorem dX7_trial_2 : decode cX7_trial 2 = .ok (.putfield 47, 3) := by decide +kernel
theorem dX7_trial_5 : decode cX7_trial 5 = .ok (.iload_n 1, 1) := by decide +kernel
theorem dX7_trial_6 : decode cX7_trial 6 = .ok (.iconst 0, 1) := by decide +kernel
theorem dX7_trial_7 : decode cX7_trial 7 = .ok (.bipush 7, 2) := by decide +kernel
theorem dX7_trial_9 : decode cX7_trial 9 = .ok (.invokestatic 51, 3) := by decide +kernel
theorem dX7_trial_12 : decode cX7_trial 12 = .ok (.ifCond .eq 14, 3) := by decide +kernel
theorem dX7_trial_15 : decode cX7_trial 15 = .ok (.iload_n 2, 1) := by decide +kernel
theorem dX7_trial_16 : decode cX7_trial 16 = .ok (.bipush (-99), 2) := by decide +kernel
theorem dX7_trial_18 : decode cX7_trial 18 = .ok (.bipush 99, 2) := by decide +kernel
theorem dX7_trial_20 : decode cX7_trial 20 = .ok (.invokestatic 51, 3) := by decide +kernel
theorem dX7_trial_23 : decode cX7_trial 23 = .ok (.ifCond .ne 5, 3) := by decide +kernel
theorem dX7_trial_26 : decode cX7_trial 26 = .ok (.iconst (-1), 1) := by decide +kernel
theorem dX7_trial_27 : decode cX7_trial 27 = .ok (.ireturn, 1) := by decide +kernel
theorem dX7_trial_28 : decode cX7_trial 28 = .ok (.aload_n 0, 1) := by decide +kernel
theorem dX7_trial_29 : decode cX7_trial 29 = .ok (.getfield 184, 3) := by decide +kernel
theorem dX7_trial_32 : decode cX7_trial 32 = .ok (.bipush 30, 2) := by decide +kernel
theorem dX7_trial_34 : decode cX7_trial 34 = .ok (.if_icmp .ne 6, 3) := by decide +kernel
theorem dX7_trial_37 : decode cX7_trial 37 = .ok (.bipush (-3), 2) := by decide +kernel
theorem dX7_trial_39 : decode cX7_trial 39 = .ok (.ireturn, 1) := by decide +kernel
theorem dX7_trial_40 : decode cX7_trial 40 = .ok (.aload_n 0, 1) := by decide +kernel
theorem dX7_trial_41 : decode cX7_trial 41 = .ok (.getfield 35, 3) := by decide +kernel
theorem dX7_trial_44 : decode cX7_trial 44 = .ok (.aload_n 0, 1) := by decide +kernel
theorem dX7_trial_45 : decode cX7_trial 45 = .ok (.getfield 184, 3) := by decide +kernel
theorem dX7_trial_48 : decode cX7_trial 48 = .ok (.iload_n 1, 1) := by decide +kernel
theorem dX7_trial_49 : decode cX7_trial 49 = .ok (.iastore, 1) := by decide +kernel
theorem dX7_trial_50 : decode cX7_trial 50 = .ok (.aload_n 0, 1) := by decide +kernel
theorem dX7_trial_51 : decode cX7_trial 51 = .ok (.getfield 38, 3) := by decide +kernel
theorem dX7_trial_54 : decode cX7_trial 54 = .ok (.aload_n 0, 1) := by decide +kernel
theorem dX7_trial_55 : decode cX7_trial 55 = .ok (.getfield 184, 3) := by decide +kernel
theorem dX7_trial_58 : decode cX7_trial 58 = .ok (.iload_n 2, 1) := by decide +kernel
theorem dX7_trial_59 : decode cX7_trial 59 = .ok (.iastore, 1) := by decide +kernel
theorem dX7_trial_60 : decode cX7_trial 60 = .ok (.aload_n 0, 1) := by decide +kernel
theorem dX7_trial_61 : decode cX7_trial 61 = .ok (.dup, 1) := by decide +kernel
theorem dX7_trial_62 : decode cX7_trial 62 = .ok (.getfield 184, 3) := by decide +kernel
theorem dX7_trial_65 : decode cX7_trial 65 = .ok (.iconst 1, 1) := by decide +kernel
theorem dX7_trial_66 : decode cX7_trial 66 = .ok (.iadd, 1) := by decide +kernel
theorem dX7_trial_67 : decode cX7_trial 67 = .ok (.putfield 184, 3) := by decide +kernel
theorem dX7_trial_70 : decode cX7_trial 70 = .ok (.aload_n 0, 1) := by decide +kernel
theorem dX7_trial_71 : decode cX7_trial 71 = .ok (.getfield 184, 3) := by decide +kernel
theorem dX7_trial_74 : decode cX7_trial 74 = .ok (.ireturn, 1) := by decide +kernel
theorem dX7_manyOf_0 : decode cX7_manyOf 0 = .ok (.iconst 0, 1) := by decide +kernel
theorem dX7_manyOf_1 : decode cX7_manyOf 1 = .ok (.istore_n 2, 1) := by decide +kernel
theorem dX7_manyOf_2 : decode cX7_manyOf 2 = .ok (.iconst 0, 1) := by decide +kernel
theorem dX7_manyOf_3 : decode cX7_manyOf 3 = .ok (.istore_n 3, 1) := by decide +kernel
theorem dX7_manyOf_4 : decode cX7_manyOf 4 = .ok (.iload_n 3, 1) := by decide +kernel
theorem dX7_manyOf_5 : decode cX7_manyOf 5 = .ok (.aload_n 0, 1) := by decide +kernel
theorem dX7_manyOf_6 : decode cX7_manyOf 6 = .ok (.getfield 184, 3) := by decide +kernel
theorem dX7_manyOf_9 : decode cX7_manyOf 9 = .ok (.if_icmp .ge 22, 3) := by decide +kernel
theorem dX7_manyOf_12 : decode cX7_manyOf 12 = .ok (.iload_n 2, 1) := by decide +kernel
theorem dX7_manyOf_13 : decode cX7_manyOf 13 = .ok (.iload_n 1, 1) := by decide +kernel
theorem dX7_manyOf_14 : decode cX7_manyOf 14 = .ok (.aload_n 0, 1) := by decide +kernel
theorem dX7_manyOf_15 : decode cX7_manyOf 15 = .ok (.getfield 35, 3) := by decide +kernel
theorem dX7_manyOf_18 : decode cX7_manyOf 18 = .ok (.iload_n 3, 1) := by decide +kernel
theorem dX7_manyOf_19 : decode cX7_manyOf 19 = .ok (.iaload, 1) := by decide +kernel
theorem dX7_manyOf_20 : decode cX7_manyOf 20 = .ok (.ishr, 1) := by decide +kernel
theorem dX7_manyOf_21 : decode cX7_manyOf 21 = .ok (.iconst 1, 1) := by decide +kernel
theorem dX7_manyOf_22 : decode cX7_manyOf 22 = .ok (.iand, 1) := by decide +kernel
theorem dX7_manyOf_23 : decode cX7_manyOf 23 = .ok (.iadd, 1) := by decide +kernel
theorem dX7_manyOf_24 : decode cX7_manyOf 24 = .ok (.istore_n 2, 1) := by decide +kernel
theorem dX7_manyOf_25 : decode cX7_manyOf 25 = .ok (.iinc 3 1, 3) := by decide +kernel
theorem dX7_manyOf_28 : decode cX7_manyOf 28 = .ok (.goto (-24), 3) := by decide +kernel
theorem dX7_manyOf_31 : decode cX7_manyOf 31 = .ok (.iload_n 2, 1) := by decide +kernel
theorem dX7_manyOf_32 : decode cX7_manyOf 32 = .ok (.ireturn, 1) := by decide +kernel
theorem dX7_sumOf_0 : decode cX7_sumOf 0 = .ok (.iconst 0, 1) := by decide +kernel
theorem dX7_sumOf_1 : decode cX7_sumOf 1 = .ok (.istore_n 2, 1) := by decide +kernel
theorem dX7_sumOf_2 : decode cX7_sumOf 2 = .ok (.iconst 0, 1) := by decide +kernel
theorem dX7_sumOf_3 : decode cX7_sumOf 3 = .ok (.istore_n 3, 1) := by decide +kernel
theorem dX7_sumOf_4 : decode cX7_sumOf 4 = .ok (.iload_n 3, 1) := by decide +kernel
theorem dX7_sumOf_5 : decode cX7_sumOf 5 = .ok (.aload_n 0, 1) := by decide +kernel
theorem dX7_sumOf_6 : decode cX7_sumOf 6 = .ok (.getfield 184, 3) := by decide +kernel
theorem dX7_sumOf_9 : decode cX7_sumOf 9 = .ok (.if_icmp .ge 36, 3) := by decide +kernel
theorem dX7_sumOf_12 : decode cX7_sumOf 12 = .ok (.iload_n 2, 1) := by decide +kernel
theorem dX7_sumOf_13 : decode cX7_sumOf 13 = .ok (.iload_n 1, 1) := by decide +kernel
theorem dX7_sumOf_14 : decode cX7_sumOf 14 = .ok (.aload_n 0, 1) := by decide +kernel
theorem dX7_sumOf_15 : decode cX7_sumOf 15 = .ok (.getfield 35, 3) := by decide +kernel
theorem dX7_sumOf_18 : decode cX7_sumOf 18 = .ok (.iload_n 3, 1) := by decide +kernel
theorem dX7_sumOf_19 : decode cX7_sumOf 19 = .ok (.iaload, 1) := by decide +kernel
theorem dX7_sumOf_20 : decode cX7_sumOf 20 = .ok (.ishr, 1) := by decide +kernel
theorem dX7_sumOf_21 : decode cX7_sumOf 21 = .ok (.iconst 1, 1) := by decide +kernel
theorem dX7_sumOf_22 : decode cX7_sumOf 22 = .ok (.iand, 1) := by decide +kernel
theorem dX7_sumOf_23 : decode cX7_sumOf 23 = .ok (.iconst 1, 1) := by decide +kernel
theorem dX7_sumOf_24 : decode cX7_sumOf 24 = .ok (.if_icmp .ne 12, 3) := by decide +kernel
theorem dX7_sumOf_27 : decode cX7_sumOf 27 = .ok (.aload_n 0, 1) := by decide +kernel
theorem dX7_sumOf_28 : decode cX7_sumOf 28 = .ok (.getfield 38, 3) := by decide +kernel
theorem dX7_sumOf_31 : decode cX7_sumOf 31 = .ok (.iload_n 3, 1) := by decide +kernel
theorem dX7_sumOf_32 : decode cX7_sumOf 32 = .ok (.iaload, 1) := by decide +kernel
theorem dX7_sumOf_33 : decode cX7_sumOf 33 = .ok (.goto 4, 3) := by decide +kernel
theorem dX7_sumOf_36 : decode cX7_sumOf 36 = .ok (.iconst 0, 1) := by decide +kernel
theorem dX7_sumOf_37 : decode cX7_sumOf 37 = .ok (.iadd, 1) := by decide +kernel
theorem dX7_sumOf_38 : decode cX7_sumOf 38 = .ok (.istore_n 2, 1) := by decide +kernel
theorem dX7_sumOf_39 : decode cX7_sumOf 39 = .ok (.iinc 3 1, 3) := by decide +kernel
theorem dX7_sumOf_42 : decode cX7_sumOf 42 = .ok (.goto (-38), 3) := by decide +kernel
theorem dX7_sumOf_45 : decode cX7_sumOf 45 = .ok (.iload_n 2, 1) := by decide +kernel
theorem dX7_sumOf_46 : decode cX7_sumOf 46 = .ok (.ireturn, 1) := by decide +kernel
theorem dX7_gcd_0 : decode cX7_gcd 0 = .ok (.iload_n 0, 1) := by decide +kernel
theorem dX7_gcd_1 : decode cX7_gcd 1 = .ok (.ifCond .ge 8, 3) := by decide +kernel
theorem dX7_gcd_4 : decode cX7_gcd 4 = .ok (.iload_n 0, 1) := by decide +kernel
theorem dX7_gcd_5 : decode cX7_gcd 5 = .ok (.ineg, 1) := by decide +kernel
theorem dX7_gcd_6 : decode cX7_gcd 6 = .ok (.goto 4, 3) := by decide +kernel
theorem dX7_gcd_9 : decode cX7_gcd 9 = .ok (.iload_n 0, 1) := by decide +kernel
theorem dX7_gcd_10 : decode cX7_gcd 10 = .ok (.istore_n 2, 1) := by decide +kernel
theorem dX7_gcd_11 : decode cX7_gcd 11 = .ok (.iload_n 1, 1) := by decide +kernel
theorem dX7_gcd_12 : decode cX7_gcd 12 = .ok (.istore_n 3, 1) := by decide +kernel
theorem dX7_gcd_13 : decode cX7_gcd 13 = .ok (.iload_n 3, 1) := by decide +kernel
theorem dX7_gcd_14 : decode cX7_gcd 14 = .ok (.ifCond .eq 16, 3) := by decide +kernel
theorem dX7_gcd_17 : decode cX7_gcd 17 = .ok (.iload_n 2, 1) := by decide +kernel
theorem dX7_gcd_18 : decode cX7_gcd 18 = .ok (.iload_n 3, 1) := by decide +kernel
theorem dX7_gcd_19 : decode cX7_gcd 19 = .ok (.irem, 1) := by decide +kernel
theorem dX7_gcd_20 : decode cX7_gcd 20 = .ok (.istore 4, 2) := by decide +kernel
theorem dX7_gcd_22 : decode cX7_gcd 22 = .ok (.iload_n 3, 1) := by decide +kernel
theorem dX7_gcd_23 : decode cX7_gcd 23 = .ok (.istore_n 2, 1) := by decide +kernel
theorem dX7_gcd_24 : decode cX7_gcd 24 = .ok (.iload 4, 2) := by decide +kernel
theorem dX7_gcd_26 : decode cX7_gcd 26 = .ok (.istore_n 3, 1) := by decide +kernel
theorem dX7_gcd_27 : decode cX7_gcd 27 = .ok (.goto (-14), 3) := by decide +kernel
theorem dX7_gcd_30 : decode cX7_gcd 30 = .ok (.iload_n 2, 1) := by decide +kernel
theorem dX7_gcd_31 : decode cX7_gcd 31 = .ok (.ireturn, 1) := by decide +kernel
theorem dX7_meanOf_0 : decode cX7_meanOf 0 = .ok (.aload_n 0, 1) := by decide +kernel
theorem dX7_meanOf_1 : decode cX7_meanOf 1 = .ok (.iload_n 1, 1) := by decide +kernel
theorem dX7_meanOf_2 : decode cX7_meanOf 2 = .ok (.invokevirtual 187, 3) := by decide +kernel
theorem dX7_meanOf_5 : decode cX7_meanOf 5 = .ok (.istore_n 3, 1) := by decide +kernel
theorem dX7_meanOf_6 : decode cX7_meanOf 6 = .ok (.aload_n 0, 1) := by decide +kernel
theorem dX7_meanOf_7 : decode cX7_meanOf 7 = .ok (.iload_n 1, 1) := by decide +kernel
theorem dX7_meanOf_8 : decode cX7_meanOf 8 = .ok (.invokevirtual 190, 3) := by decide +kernel
theorem dX7_meanOf_11 : decode cX7_meanOf 11 = .ok (.istore 4, 2) := by decide +kernel
theorem dX7_meanOf_13 : decode cX7_meanOf 13 = .ok (.iload 4, 2) := by decide +kernel
theorem dX7_meanOf_15 : decode cX7_meanOf 15 = .ok (.ifCond .ne 6, 3) := by decide +kernel
theorem dX7_meanOf_18 : decode cX7_meanOf 18 = .ok (.ldc 193, 2) := by decide +kernel
theorem dX7_meanOf_20 : decode cX7_meanOf 20 = .ok (.ireturn, 1) := by decide +kernel
theorem dX7_meanOf_21 : decode cX7_meanOf 21 = .ok (.iload_n 3, 1) := by decide +kernel
theorem dX7_meanOf_22 : decode cX7_meanOf 22 = .ok (.iload 4, 2) := by decide +kernel
theorem dX7_meanOf_24 : decode cX7_meanOf 24 = .ok (.invokestatic 194, 3) := by decide +kernel
theorem dX7_meanOf_27 : decode cX7_meanOf 27 = .ok (.istore 5, 2) := by decide +kernel
theorem dX7_meanOf_29 : decode cX7_meanOf 29 = .ok (.iload_n 2, 1) := by decide +kernel
theorem dX7_meanOf_30 : decode cX7_meanOf 30 = .ok (.ifCond .ne 10, 3) := by decide +kernel
theorem dX7_meanOf_33 : decode cX7_meanOf 33 = .ok (.iload_n 3, 1) := by decide +kernel
theorem dX7_meanOf_34 : decode cX7_meanOf 34 = .ok (.iload 5, 2) := by decide +kernel
theorem dX7_meanOf_36 : decode cX7_meanOf 36 = .ok (.idiv, 1) := by decide +kernel
theorem dX7_meanOf_37 : decode cX7_meanOf 37 = .ok (.goto 8, 3) := by decide +kernel
theorem dX7_meanOf_40 : decode cX7_meanOf 40 = .ok (.iload 4, 2) := by decide +kernel
theorem dX7_meanOf_42 : decode cX7_meanOf 42 = .ok (.iload 5, 2) := by decide +kernel
theorem dX7_meanOf_44 : decode cX7_meanOf 44 = .ok (.idiv, 1) := by decide +kernel
theorem dX7_meanOf_45 : decode cX7_meanOf 45 = .ok (.ireturn, 1) := by decide +kernel
theorem dX7_joined_0 : decode cX7_joined 0 = .ok (.aload_n 0, 1) := by decide +kernel
theorem dX7_joined_1 : decode cX7_joined 1 = .ok (.iconst 0, 1) := by decide +kernel
theorem dX7_joined_2 : decode cX7_joined 2 = .ok (.putfield 47, 3) := by decide +kernel
theorem dX7_joined_5 : decode cX7_joined 5 = .ok (.iload_n 1, 1) := by decide +kernel
theorem dX7_joined_6 : decode cX7_joined 6 = .ok (.iconst 0, 1) := by decide +kernel
theorem dX7_joined_7 : decode cX7_joined 7 = .ok (.sipush 255, 3) := by decide +kernel
theorem dX7_joined_10 : decode cX7_joined 10 = .ok (.invokestatic 51, 3) := by decide +kernel
theorem dX7_joined_13 : decode cX7_joined 13 = .ok (.ifCond .eq 21, 3) := by decide +kernel
theorem dX7_joined_16 : decode cX7_joined 16 = .ok (.iload_n 2, 1) := by decide +kernel
theorem dX7_joined_17 : decode cX7_joined 17 = .ok (.iconst 0, 1) := by decide +kernel
theorem dX7_joined_18 : decode cX7_joined 18 = .ok (.iconst 1, 1) := by decide +kernel
theorem dX7_joined_19 : decode cX7_joined 19 = .ok (.invokestatic 51, 3) := by decide +kernel
theorem dX7_joined_22 : decode cX7_joined 22 = .ok (.ifCond .eq 12, 3) := by decide +kernel
theorem dX7_joined_25 : decode cX7_joined 25 = .ok (.aload_n 0, 1) := by decide +kernel
theorem dX7_joined_26 : decode cX7_joined 26 = .ok (.iload_n 1, 1) := by decide +kernel
theorem dX7_joined_27 : decode cX7_joined 27 = .ok (.iload_n 2, 1) := by decide +kernel
theorem dX7_joined_28 : decode cX7_joined 28 = .ok (.invokevirtual 197, 3) := by decide +kernel
theorem dX7_joined_31 : decode cX7_joined 31 = .ok (.goto 5, 3) := by decide +kernel
theorem dX7_joined_34 : decode cX7_joined 34 = .ok (.ldc 193, 2) := by decide +kernel
theorem dX7_joined_36 : decode cX7_joined 36 = .ok (.ireturn, 1) := by decide +kernel
theorem dX7_parts_0 : decode cX7_parts 0 = .ok (.aload_n 0, 1) := by decide +kernel
theorem dX7_parts_1 : decode cX7_parts 1 = .ok (.iconst 0, 1) := by decide +kernel
theorem dX7_parts_2 : decode cX7_parts 2 = .ok (.putfield 47, 3) := by decide +kernel
theorem dX7_parts_5 : decode cX7_parts 5 = .ok (.bipush (-9), 2) := by decide +kernel
theorem dX7_parts_7 : decode cX7_parts 7 = .ok (.istore_n 1, 1) := by decide +kernel
theorem dX7_parts_8 : decode cX7_parts 8 = .ok (.lconst 0, 1) := by decide +kernel
theorem dX7_parts_9 : decode cX7_parts 9 = .ok (.lstore_n 2, 1) := by decide +kernel
theorem dX7_parts_10 : decode cX7_parts 10 = .ok (.lconst 1, 1) := by decide +kernel
theorem dX7_parts_11 : decode cX7_parts 11 = .ok (.lstore 4, 2) := by decide +kernel
theorem dX7_parts_13 : decode cX7_parts 13 = .ok (.iconst 0, 1) := by decide +kernel
theorem dX7_parts_14 : decode cX7_parts 14 = .ok (.istore 6, 2) := by decide +kernel
theorem dX7_parts_16 : decode cX7_parts 16 = .ok (.iload 6, 2) := by decide +kernel
theorem dX7_parts_18 : decode cX7_parts 18 = .ok (.iconst 3, 1) := by decide +kernel
theorem dX7_parts_19 : decode cX7_parts 19 = .ok (.if_icmp .ge 152, 3) := by decide +kernel
theorem dX7_parts_22 : decode cX7_parts 22 = .ok (.iload 6, 2) := by decide +kernel
theorem dX7_parts_24 : decode cX7_parts 24 = .ok (.ifCond .ne 9, 3) := by decide +kernel
theorem dX7_parts_27 : decode cX7_parts 27 = .ok (.sipush 170, 3) := by decide +kernel
theorem dX7_parts_30 : decode cX7_parts 30 = .ok (.goto 18, 3) := by decide +kernel
theorem dX7_parts_33 : decode cX7_parts 33 = .ok (.iload 6, 2) := by decide +kernel
theorem dX7_parts_35 : decode cX7_parts 35 = .ok (.iconst 1, 1) := by decide +kernel
theorem dX7_parts_36 : decode cX7_parts 36 = .ok (.if_icmp .ne 9, 3) := by decide +kernel
theorem dX7_parts_39 : decode cX7_parts 39 = .ok (.sipush 204, 3) := by decide +kernel
theorem dX7_parts_42 : decode cX7_parts 42 = .ok (.goto 6, 3) := by decide +kernel
theorem dX7_parts_45 : decode cX7_parts 45 = .ok (.sipush 240, 3) := by decide +kernel
theorem dX7_parts_48 : decode cX7_parts 48 = .ok (.istore 7, 2) := by decide +kernel
theorem dX7_parts_50 : decode cX7_parts 50 = .ok (.sipush 255, 3) := by decide +kernel
theorem dX7_parts_53 : decode cX7_parts 53 = .ok (.iload 7, 2) := by decide +kernel
theorem dX7_parts_55 : decode cX7_parts 55 = .ok (.isub, 1) := by decide +kernel
theorem dX7_parts_56 : decode cX7_parts 56 = .ok (.istore 8, 2) := by decide +kernel
theorem dX7_parts_58 : decode cX7_parts 58 = .ok (.aload_n 0, 1) := by decide +kernel
theorem dX7_parts_59 : decode cX7_parts 59 = .ok (.iload 7, 2) := by decide +kernel
theorem dX7_parts_61 : decode cX7_parts 61 = .ok (.invokevirtual 190, 3) := by decide +kernel
theorem dX7_parts_64 : decode cX7_parts 64 = .ok (.i2l, 1) := by decide +kernel
theorem dX7_parts_65 : decode cX7_parts 65 = .ok (.lstore 9, 2) := by decide +kernel
theorem dX7_parts_67 : decode cX7_parts 67 = .ok (.aload_n 0, 1) := by decide +kernel
theorem dX7_parts_68 : decode cX7_parts 68 = .ok (.iload 8, 2) := by decide +kernel
theorem dX7_parts_70 : decode cX7_parts 70 = .ok (.invokevirtual 190, 3) := by decide +kernel
theorem dX7_parts_73 : decode cX7_parts 73 = .ok (.i2l, 1) := by decide +kernel
theorem dX7_parts_74 : decode cX7_parts 74 = .ok (.lstore 11, 2) := by decide +kernel
theorem dX7_parts_76 : decode cX7_parts 76 = .ok (.lload 9, 2) := by decide +kernel
theorem dX7_parts_78 : decode cX7_parts 78 = .ok (.lconst 0, 1) := by decide +kernel
theorem dX7_parts_79 : decode cX7_parts 79 = .ok (.lcmp, 1) := by decide +kernel
theorem dX7_parts_80 : decode cX7_parts 80 = .ok (.ifCond .le 85, 3) := by decide +kernel
theorem dX7_parts_83 : decode cX7_parts 83 = .ok (.lload 11, 2) := by decide +kernel
theorem dX7_parts_85 : decode cX7_parts 85 = .ok (.lconst 0, 1) := by decide +kernel
theorem dX7_parts_86 : decode cX7_parts 86 = .ok (.lcmp, 1) := by decide +kernel
theorem dX7_parts_87 : decode cX7_parts 87 = .ok (.ifCond .le 78, 3) := by decide +kernel
theorem dX7_parts_90 : decode cX7_parts 90 = .ok (.aload_n 0, 1) := by decide +kernel
theorem dX7_parts_91 : decode cX7_parts 91 = .ok (.iload 7, 2) := by decide +kernel
theorem dX7_parts_93 : decode cX7_parts 93 = .ok (.invokevirtual 187, 3) := by decide +kernel
theorem dX7_parts_96 : decode cX7_parts 96 = .ok (.i2l, 1) := by decide +kernel
theorem dX7_parts_97 : decode cX7_parts 97 = .ok (.lload 11, 2) := by decide +kernel
theorem dX7_parts_99 : decode cX7_parts 99 = .ok (.lmul, 1) := by decide +kernel
theorem dX7_parts_100 : decode cX7_parts 100 = .ok (.aload_n 0, 1) := by decide +kernel
theorem dX7_parts_101 : decode cX7_parts 101 = .ok (.iload 8, 2) := by decide +kernel
theorem dX7_parts_103 : decode cX7_parts 103 = .ok (.invokevirtual 187, 3) := by decide +kernel
theorem dX7_parts_106 : decode cX7_parts 106 = .ok (.i2l, 1) := by decide +kernel
theorem dX7_parts_107 : decode cX7_parts 107 = .ok (.lload 9, 2) := by decide +kernel
theorem dX7_parts_109 : decode cX7_parts 109 = .ok (.lmul, 1) := by decide +kernel
theorem dX7_parts_110 : decode cX7_parts 110 = .ok (.lsub, 1) := by decide +kernel
theorem dX7_parts_111 : decode cX7_parts 111 = .ok (.lstore 13, 2) := by decide +kernel
theorem dX7_parts_113 : decode cX7_parts 113 = .ok (.lload 13, 2) := by decide +kernel
theorem dX7_parts_115 : decode cX7_parts 115 = .ok (.lconst 0, 1) := by decide +kernel
theorem dX7_parts_116 : decode cX7_parts 116 = .ok (.lcmp, 1) := by decide +kernel
theorem dX7_parts_117 : decode cX7_parts 117 = .ok (.ifCond .ge 9, 3) := by decide +kernel
theorem dX7_parts_120 : decode cX7_parts 120 = .ok (.lload 13, 2) := by decide +kernel
theorem dX7_parts_122 : decode cX7_parts 122 = .ok (.lneg, 1) := by decide +kernel
theorem dX7_parts_123 : decode cX7_parts 123 = .ok (.goto 5, 3) := by decide +kernel
theorem dX7_parts_126 : decode cX7_parts 126 = .ok (.lload 13, 2) := by decide +kernel
theorem dX7_parts_128 : decode cX7_parts 128 = .ok (.lstore 13, 2) := by decide +kernel
theorem dX7_parts_130 : decode cX7_parts 130 = .ok (.iload_n 1, 1) := by decide +kernel
theorem dX7_parts_131 : decode cX7_parts 131 = .ok (.bipush (-9), 2) := by decide +kernel
theorem dX7_parts_133 : decode cX7_parts 133 = .ok (.if_icmp .eq 19, 3) := by decide +kernel
theorem dX7_parts_136 : decode cX7_parts 136 = .ok (.lload 13, 2) := by decide +kernel
theorem dX7_parts_138 : decode cX7_parts 138 = .ok (.lload 4, 2) := by decide +kernel
theorem dX7_parts_140 : decode cX7_parts 140 = .ok (.lmul, 1) := by decide +kernel
theorem dX7_parts_141 : decode cX7_parts 141 = .ok (.lload_n 2, 1) := by decide +kernel
theorem dX7_parts_142 : decode cX7_parts 142 = .ok (.lload 9, 2) := by decide +kernel
theorem dX7_parts_144 : decode cX7_parts 144 = .ok (.lmul, 1) := by decide +kernel
theorem dX7_parts_145 : decode cX7_parts 145 = .ok (.lload 11, 2) := by decide +kernel
theorem dX7_parts_147 : decode cX7_parts 147 = .ok (.lmul, 1) := by decide +kernel
theorem dX7_parts_148 : decode cX7_parts 148 = .ok (.lcmp, 1) := by decide +kernel
theorem dX7_parts_149 : decode cX7_parts 149 = .ok (.ifCond .le 16, 3) := by decide +kernel
theorem dX7_parts_152 : decode cX7_parts 152 = .ok (.iload 6, 2) := by decide +kernel
theorem dX7_parts_154 : decode cX7_parts 154 = .ok (.istore_n 1, 1) := by decide +kernel
theorem dX7_parts_155 : decode cX7_parts 155 = .ok (.lload 13, 2) := by decide +kernel
theorem dX7_parts_157 : decode cX7_parts 157 = .ok (.lstore_n 2, 1) := by decide +kernel
theorem dX7_parts_158 : decode cX7_parts 158 = .ok (.lload 9, 2) := by decide +kernel
theorem dX7_parts_160 : decode cX7_parts 160 = .ok (.lload 11, 2) := by decide +kernel
theorem dX7_parts_162 : decode cX7_parts 162 = .ok (.lmul, 1) := by decide +kernel
theorem dX7_parts_163 : decode cX7_parts 163 = .ok (.lstore 4, 2) := by decide +kernel
theorem dX7_parts_165 : decode cX7_parts 165 = .ok (.iinc 6 1, 3) := by decide +kernel
theorem dX7_parts_168 : decode cX7_parts 168 = .ok (.goto (-152), 3) := by decide +kernel
theorem dX7_parts_171 : decode cX7_parts 171 = .ok (.iload_n 1, 1) := by decide +kernel
theorem dX7_parts_172 : decode cX7_parts 172 = .ok (.ireturn, 1) := by decide +kernel
theorem dX7_ahead_0 : decode cX7_ahead 0 = .ok (.aload_n 0, 1) := by decide +kernel
theorem dX7_ahead_1 : decode cX7_ahead 1 = .ok (.iconst 0, 1) := by decide +kernel
theorem dX7_ahead_2 : decode cX7_ahead 2 = .ok (.putfield 47, 3) := by decide +kernel
theorem dX7_ahead_5 : decode cX7_ahead 5 = .ok (.iload_n 1, 1) := by decide +kernel
theorem dX7_ahead_6 : decode cX7_ahead 6 = .ok (.iconst 0, 1) := by decide +kernel
theorem dX7_ahead_7 : decode cX7_ahead 7 = .ok (.bipush 7, 2) := by decide +kernel
theorem dX7_ahead_9 : decode cX7_ahead 9 = .ok (.invokestatic 51, 3) := by decide +kernel
theorem dX7_ahead_12 : decode cX7_ahead 12 = .ok (.ifCond .eq 12, 3) := by decide +kernel
theorem dX7_ahead_15 : decode cX7_ahead 15 = .ok (.iload_n 2, 1) := by decide +kernel
theorem dX7_ahead_16 : decode cX7_ahead 16 = .ok (.iconst 0, 1) := by decide +kernel
theorem dX7_ahead_17 : decode cX7_ahead 17 = .ok (.iconst 1, 1) := by decide +kernel
theorem dX7_ahead_18 : decode cX7_ahead 18 = .ok (.invokestatic 51, 3) := by decide +kernel
theorem dX7_ahead_21 : decode cX7_ahead 21 = .ok (.ifCond .ne 6, 3) := by decide +kernel
theorem dX7_ahead_24 : decode cX7_ahead 24 = .ok (.ldc 193, 2) := by decide +kernel
theorem dX7_ahead_26 : decode cX7_ahead 26 = .ok (.ireturn, 1) := by decide +kernel
theorem dX7_ahead_27 : decode cX7_ahead 27 = .ok (.aload_n 0, 1) := by decide +kernel
theorem dX7_ahead_28 : decode cX7_ahead 28 = .ok (.aload_n 0, 1) := by decide +kernel
theorem dX7_ahead_29 : decode cX7_ahead 29 = .ok (.iconst 1, 1) := by decide +kernel
theorem dX7_ahead_30 : decode cX7_ahead 30 = .ok (.iload_n 1, 1) := by decide +kernel
theorem dX7_ahead_31 : decode cX7_ahead 31 = .ok (.ishl, 1) := by decide +kernel
theorem dX7_ahead_32 : decode cX7_ahead 32 = .ok (.invokevirtual 190, 3) := by decide +kernel
theorem dX7_ahead_35 : decode cX7_ahead 35 = .ok (.ifCond .le 9, 3) := by decide +kernel
theorem dX7_ahead_38 : decode cX7_ahead 38 = .ok (.iconst 1, 1) := by decide +kernel
theorem dX7_ahead_39 : decode cX7_ahead 39 = .ok (.iload_n 1, 1) := by decide +kernel
theorem dX7_ahead_40 : decode cX7_ahead 40 = .ok (.ishl, 1) := by decide +kernel
theorem dX7_ahead_41 : decode cX7_ahead 41 = .ok (.goto 6, 3) := by decide +kernel
theorem dX7_ahead_44 : decode cX7_ahead 44 = .ok (.sipush 255, 3) := by decide +kernel
theorem dX7_ahead_47 : decode cX7_ahead 47 = .ok (.iload_n 2, 1) := by decide +kernel
theorem dX7_ahead_48 : decode cX7_ahead 48 = .ok (.invokevirtual 197, 3) := by decide +kernel
theorem dX7_ahead_51 : decode cX7_ahead 51 = .ok (.ireturn, 1) := by decide +kernel
theorem dX7_halves_0 : decode cX7_halves 0 = .ok (.aload_n 0, 1) := by decide +kernel
theorem dX7_halves_1 : decode cX7_halves 1 = .ok (.iconst 0, 1) := by decide +kernel
theorem dX7_halves_2 : decode cX7_halves 2 = .ok (.putfield 47, 3) := by decide +kernel
theorem dX7_halves_5 : decode cX7_halves 5 = .ok (.iload_n 1, 1) := by decide +kernel
theorem dX7_halves_6 : decode cX7_halves 6 = .ok (.invokestatic 130, 3) := by decide +kernel
theorem dX7_halves_9 : decode cX7_halves 9 = .ok (.ifCond .ne 6, 3) := by decide +kernel
theorem dX7_halves_12 : decode cX7_halves 12 = .ok (.ldc 193, 2) := by decide +kernel
theorem dX7_halves_14 : decode cX7_halves 14 = .ok (.ireturn, 1) := by decide +kernel
theorem dX7_halves_15 : decode cX7_halves 15 = .ok (.aload_n 0, 1) := by decide +kernel
theorem dX7_halves_16 : decode cX7_halves 16 = .ok (.iconst 1, 1) := by decide +kernel
theorem dX7_halves_17 : decode cX7_halves 17 = .ok (.invokevirtual 170, 3) := by decide +kernel
theorem dX7_halves_20 : decode cX7_halves 20 = .ok (.iconst 0, 1) := by decide +kernel
theorem dX7_halves_21 : decode cX7_halves 21 = .ok (.istore_n 2, 1) := by decide +kernel
theorem dX7_halves_22 : decode cX7_halves 22 = .ok (.iconst 0, 1) := by decide +kernel
theorem dX7_halves_23 : decode cX7_halves 23 = .ok (.istore_n 3, 1) := by decide +kernel
theorem dX7_halves_24 : decode cX7_halves 24 = .ok (.iload_n 3, 1) := by decide +kernel
theorem dX7_halves_25 : decode cX7_halves 25 = .ok (.aload_n 0, 1) := by decide +kernel
theorem dX7_halves_26 : decode cX7_halves 26 = .ok (.getfield 13, 3) := by decide +kernel
theorem dX7_halves_29 : decode cX7_halves 29 = .ok (.bipush 40, 2) := by decide +kernel
theorem dX7_halves_31 : decode cX7_halves 31 = .ok (.iaload, 1) := by decide +kernel
theorem dX7_halves_32 : decode cX7_halves 32 = .ok (.if_icmp .ge 94, 3) := by decide +kernel
theorem dX7_halves_35 : decode cX7_halves 35 = .ok (.aload_n 0, 1) := by decide +kernel
theorem dX7_halves_36 : decode cX7_halves 36 = .ok (.getfield 19, 3) := by decide +kernel
theorem dX7_halves_39 : decode cX7_halves 39 = .ok (.iconst 2, 1) := by decide +kernel
theorem dX7_halves_40 : decode cX7_halves 40 = .ok (.aload_n 0, 1) := by decide +kernel
theorem dX7_halves_41 : decode cX7_halves 41 = .ok (.getfield 19, 3) := by decide +kernel
theorem dX7_halves_44 : decode cX7_halves 44 = .ok (.iconst 2, 1) := by decide +kernel
theorem dX7_halves_45 : decode cX7_halves 45 = .ok (.iaload, 1) := by decide +kernel
theorem dX7_halves_46 : decode cX7_halves 46 = .ok (.ldc 200, 2) := by decide +kernel
theorem dX7_halves_48 : decode cX7_halves 48 = .ok (.imul, 1) := by decide +kernel
theorem dX7_halves_49 : decode cX7_halves 49 = .ok (.sipush 12345, 3) := by decide +kernel
theorem dX7_halves_52 : decode cX7_halves 52 = .ok (.iadd, 1) := by decide +kernel
theorem dX7_halves_53 : decode cX7_halves 53 = .ok (.iastore, 1) := by decide +kernel
theorem dX7_halves_54 : decode cX7_halves 54 = .ok (.aload_n 0, 1) := by decide +kernel
theorem dX7_halves_55 : decode cX7_halves 55 = .ok (.getfield 19, 3) := by decide +kernel
theorem dX7_halves_58 : decode cX7_halves 58 = .ok (.iconst 2, 1) := by decide +kernel
theorem dX7_halves_59 : decode cX7_halves 59 = .ok (.iaload, 1) := by decide +kernel
theorem dX7_halves_60 : decode cX7_halves 60 = .ok (.bipush 16, 2) := by decide +kernel
theorem dX7_halves_62 : decode cX7_halves 62 = .ok (.ishr, 1) := by decide +kernel
theorem dX7_halves_63 : decode cX7_halves 63 = .ok (.iconst 1, 1) := by decide +kernel
theorem dX7_halves_64 : decode cX7_halves 64 = .ok (.iand, 1) := by decide +kernel
theorem dX7_halves_65 : decode cX7_halves 65 = .ok (.iconst 1, 1) := by decide +kernel
theorem dX7_halves_66 : decode cX7_halves 66 = .ok (.if_icmp .ne 7, 3) := by decide +kernel
theorem dX7_halves_69 : decode cX7_halves 69 = .ok (.iconst 1, 1) := by decide +kernel
theorem dX7_halves_70 : decode cX7_halves 70 = .ok (.goto 4, 3) := by decide +kernel
theorem dX7_halves_73 : decode cX7_halves 73 = .ok (.iconst 0, 1) := by decide +kernel
theorem dX7_halves_74 : decode cX7_halves 74 = .ok (.istore 4, 2) := by decide +kernel
theorem dX7_halves_76 : decode cX7_halves 76 = .ok (.iload_n 2, 1) := by decide +kernel
theorem dX7_halves_77 : decode cX7_halves 77 = .ok (.iload 4, 2) := by decide +kernel
theorem dX7_halves_79 : decode cX7_halves 79 = .ok (.ifCond .eq 9, 3) := by decide +kernel
theorem dX7_halves_82 : decode cX7_halves 82 = .ok (.iconst 1, 1) := by decide +kernel
theorem dX7_halves_83 : decode cX7_halves 83 = .ok (.iload_n 3, 1) := by decide +kernel
theorem dX7_halves_84 : decode cX7_halves 84 = .ok (.ishl, 1) := by decide +kernel
theorem dX7_halves_85 : decode cX7_halves 85 = .ok (.goto 4, 3) := by decide +kernel
theorem dX7_halves_88 : decode cX7_halves 88 = .ok (.iconst 0, 1) := by decide +kernel
theorem dX7_halves_89 : decode cX7_halves 89 = .ok (.ior, 1) := by decide +kernel
theorem dX7_halves_90 : decode cX7_halves 90 = .ok (.istore_n 2, 1) := by decide +kernel
theorem dX7_halves_91 : decode cX7_halves 91 = .ok (.aload_n 0, 1) := by decide +kernel
theorem dX7_halves_92 : decode cX7_halves 92 = .ok (.getfield 13, 3) := by decide +kernel
theorem dX7_halves_95 : decode cX7_halves 95 = .ok (.iconst 3, 1) := by decide +kernel
theorem dX7_halves_96 : decode cX7_halves 96 = .ok (.iload_n 3, 1) := by decide +kernel
theorem dX7_halves_97 : decode cX7_halves 97 = .ok (.imul, 1) := by decide +kernel
theorem dX7_halves_98 : decode cX7_halves 98 = .ok (.iconst 2, 1) := by decide +kernel
theorem dX7_halves_99 : decode cX7_halves 99 = .ok (.iadd, 1) := by decide +kernel
theorem dX7_halves_100 : decode cX7_halves 100 = .ok (.iload 4, 2) := by decide +kernel
theorem dX7_halves_102 : decode cX7_halves 102 = .ok (.ifCond .eq 16, 3) := by decide +kernel
theorem dX7_halves_105 : decode cX7_halves 105 = .ok (.aload_n 0, 1) := by decide +kernel
theorem dX7_halves_106 : decode cX7_halves 106 = .ok (.getfield 13, 3) := by decide +kernel
theorem dX7_halves_109 : decode cX7_halves 109 = .ok (.iconst 3, 1) := by decide +kernel
theorem dX7_halves_110 : decode cX7_halves 110 = .ok (.iload_n 3, 1) := by decide +kernel
theorem dX7_halves_111 : decode cX7_halves 111 = .ok (.imul, 1) := by decide +kernel
theorem dX7_halves_112 : decode cX7_halves 112 = .ok (.iconst 2, 1) := by decide +kernel
theorem dX7_halves_113 : decode cX7_halves 113 = .ok (.iadd, 1) := by decide +kernel
theorem dX7_halves_114 : decode cX7_halves 114 = .ok (.iaload, 1) := by decide +kernel
theorem dX7_halves_115 : decode cX7_halves 115 = .ok (.goto 4, 3) := by decide +kernel
theorem dX7_halves_118 : decode cX7_halves 118 = .ok (.iconst 0, 1) := by decide +kernel
theorem dX7_halves_119 : decode cX7_halves 119 = .ok (.iastore, 1) := by decide +kernel
theorem dX7_halves_120 : decode cX7_halves 120 = .ok (.iinc 3 1, 3) := by decide +kernel
theorem dX7_halves_123 : decode cX7_halves 123 = .ok (.goto (-99), 3) := by decide +kernel
theorem dX7_halves_126 : decode cX7_halves 126 = .ok (.aload_n 0, 1) := by decide +kernel
theorem dX7_halves_127 : decode cX7_halves 127 = .ok (.iload_n 1, 1) := by decide +kernel
theorem dX7_halves_128 : decode cX7_halves 128 = .ok (.invokevirtual 167, 3) := by decide +kernel
theorem dX7_halves_131 : decode cX7_halves 131 = .ok (.pop, 1) := by decide +kernel
theorem dX7_halves_132 : decode cX7_halves 132 = .ok (.iconst 0, 1) := by decide +kernel
theorem dX7_halves_133 : decode cX7_halves 133 = .ok (.istore_n 3, 1) := by decide +kernel
theorem dX7_halves_134 : decode cX7_halves 134 = .ok (.iconst 0, 1) := by decide +kernel
theorem dX7_halves_135 : decode cX7_halves 135 = .ok (.istore 4, 2) := by decide +kernel
theorem dX7_halves_137 : decode cX7_halves 137 = .ok (.iload 4, 2) := by decide +kernel
theorem dX7_halves_139 : decode cX7_halves 139 = .ok (.aload_n 0, 1) := by decide +kernel
theorem dX7_halves_140 : decode cX7_halves 140 = .ok (.getfield 13, 3) := by decide +kernel
theorem dX7_halves_143 : decode cX7_halves 143 = .ok (.bipush 40, 2) := by decide +kernel
theorem dX7_halves_145 : decode cX7_halves 145 = .ok (.iaload, 1) := by decide +kernel
theorem dX7_halves_146 : decode cX7_halves 146 = .ok (.if_icmp .ge 48, 3) := by decide +kernel
theorem dX7_halves_149 : decode cX7_halves 149 = .ok (.iload_n 3, 1) := by decide +kernel
theorem dX7_halves_150 : decode cX7_halves 150 = .ok (.iload_n 2, 1) := by decide +kernel
theorem dX7_halves_151 : decode cX7_halves 151 = .ok (.iload 4, 2) := by decide +kernel
theorem dX7_halves_153 : decode cX7_halves 153 = .ok (.ishr, 1) := by decide +kernel
theorem dX7_halves_154 : decode cX7_halves 154 = .ok (.iconst 1, 1) := by decide +kernel
theorem dX7_halves_155 : decode cX7_halves 155 = .ok (.iand, 1) := by decide +kernel
theorem dX7_halves_156 : decode cX7_halves 156 = .ok (.iconst 1, 1) := by decide +kernel
theorem dX7_halves_157 : decode cX7_halves 157 = .ok (.if_icmp .ne 17, 3) := by decide +kernel
theorem dX7_halves_160 : decode cX7_halves 160 = .ok (.aload_n 0, 1) := by decide +kernel
theorem dX7_halves_161 : decode cX7_halves 161 = .ok (.getfield 29, 3) := by decide +kernel
theorem dX7_halves_164 : decode cX7_halves 164 = .ok (.iconst 3, 1) := by decide +kernel
theorem dX7_halves_165 : decode cX7_halves 165 = .ok (.iconst 3, 1) := by decide +kernel
theorem dX7_halves_166 : decode cX7_halves 166 = .ok (.iload 4, 2) := by decide +kernel
theorem dX7_halves_168 : decode cX7_halves 168 = .ok (.imul, 1) := by decide +kernel
