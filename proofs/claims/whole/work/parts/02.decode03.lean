theorem dX7_readsItem_11 : decode cX7_readsItem 11 = .ok (.bipush 82, 2) := by decide +kernel
theorem dX7_readsItem_13 : decode cX7_readsItem 13 = .ok (.iaload, 1) := by decide +kernel
theorem dX7_readsItem_14 : decode cX7_readsItem 14 = .ok (.imul, 1) := by decide +kernel
theorem dX7_readsItem_15 : decode cX7_readsItem 15 = .ok (.iadd, 1) := by decide +kernel
theorem dX7_readsItem_16 : decode cX7_readsItem 16 = .ok (.istore_n 2, 1) := by decide +kernel
theorem dX7_readsItem_17 : decode cX7_readsItem 17 = .ok (.aload_n 0, 1) := by decide +kernel
theorem dX7_readsItem_18 : decode cX7_readsItem 18 = .ok (.getfield 13, 3) := by decide +kernel
theorem dX7_readsItem_21 : decode cX7_readsItem 21 = .ok (.iload_n 2, 1) := by decide +kernel
theorem dX7_readsItem_22 : decode cX7_readsItem 22 = .ok (.aload_n 0, 1) := by decide +kernel
theorem dX7_readsItem_23 : decode cX7_readsItem 23 = .ok (.iconst 0, 1) := by decide +kernel
theorem dX7_readsItem_24 : decode cX7_readsItem 24 = .ok (.bipush 100, 2) := by decide +kernel
theorem dX7_readsItem_26 : decode cX7_readsItem 26 = .ok (.invokevirtual 104, 3) := by decide +kernel
theorem dX7_readsItem_29 : decode cX7_readsItem 29 = .ok (.iastore, 1) := by decide +kernel
theorem dX7_readsItem_30 : decode cX7_readsItem 30 = .ok (.aload_n 0, 1) := by decide +kernel
theorem dX7_readsItem_31 : decode cX7_readsItem 31 = .ok (.getfield 13, 3) := by decide +kernel
theorem dX7_readsItem_34 : decode cX7_readsItem 34 = .ok (.iload_n 2, 1) := by decide +kernel
theorem dX7_readsItem_35 : decode cX7_readsItem 35 = .ok (.iconst 1, 1) := by decide +kernel
theorem dX7_readsItem_36 : decode cX7_readsItem 36 = .ok (.iadd, 1) := by decide +kernel
theorem dX7_readsItem_37 : decode cX7_readsItem 37 = .ok (.aload_n 0, 1) := by decide +kernel
theorem dX7_readsItem_38 : decode cX7_readsItem 38 = .ok (.iconst 1, 1) := by decide +kernel
theorem dX7_readsItem_39 : decode cX7_readsItem 39 = .ok (.bipush 9, 2) := by decide +kernel
theorem dX7_readsItem_41 : decode cX7_readsItem 41 = .ok (.invokevirtual 104, 3) := by decide +kernel
theorem dX7_readsItem_44 : decode cX7_readsItem 44 = .ok (.iastore, 1) := by decide +kernel
theorem dX7_readsItem_45 : decode cX7_readsItem 45 = .ok (.aload_n 0, 1) := by decide +kernel
theorem dX7_readsItem_46 : decode cX7_readsItem 46 = .ok (.getfield 13, 3) := by decide +kernel
theorem dX7_readsItem_49 : decode cX7_readsItem 49 = .ok (.iload_n 2, 1) := by decide +kernel
theorem dX7_readsItem_50 : decode cX7_readsItem 50 = .ok (.iconst 2, 1) := by decide +kernel
theorem dX7_readsItem_51 : decode cX7_readsItem 51 = .ok (.iadd, 1) := by decide +kernel
theorem dX7_readsItem_52 : decode cX7_readsItem 52 = .ok (.aload_n 0, 1) := by decide +kernel
theorem dX7_readsItem_53 : decode cX7_readsItem 53 = .ok (.iconst 0, 1) := by decide +kernel
theorem dX7_readsItem_54 : decode cX7_readsItem 54 = .ok (.bipush 9, 2) := by decide +kernel
theorem dX7_readsItem_56 : decode cX7_readsItem 56 = .ok (.invokevirtual 104, 3) := by decide +kernel
theorem dX7_readsItem_59 : decode cX7_readsItem 59 = .ok (.iastore, 1) := by decide +kernel
theorem dX7_readsItem_60 : decode cX7_readsItem 60 = .ok (.aload_n 0, 1) := by decide +kernel
theorem dX7_readsItem_61 : decode cX7_readsItem 61 = .ok (.getfield 13, 3) := by decide +kernel
theorem dX7_readsItem_64 : decode cX7_readsItem 64 = .ok (.bipush 82, 2) := by decide +kernel
theorem dX7_readsItem_66 : decode cX7_readsItem 66 = .ok (.dup2, 1) := by decide +kernel
theorem dX7_readsItem_67 : decode cX7_readsItem 67 = .ok (.iaload, 1) := by decide +kernel
theorem dX7_readsItem_68 : decode cX7_readsItem 68 = .ok (.iconst 1, 1) := by decide +kernel
theorem dX7_readsItem_69 : decode cX7_readsItem 69 = .ok (.iadd, 1) := by decide +kernel
theorem dX7_readsItem_70 : decode cX7_readsItem 70 = .ok (.iastore, 1) := by decide +kernel
theorem dX7_readsItem_71 : decode cX7_readsItem 71 = .ok (.goto 204, 3) := by decide +kernel
theorem dX7_readsItem_74 : decode cX7_readsItem 74 = .ok (.iload_n 1, 1) := by decide +kernel
theorem dX7_readsItem_75 : decode cX7_readsItem 75 = .ok (.iconst 1, 1) := by decide +kernel
theorem dX7_readsItem_76 : decode cX7_readsItem 76 = .ok (.if_icmp .ne 67, 3) := by decide +kernel
theorem dX7_readsItem_79 : decode cX7_readsItem 79 = .ok (.bipush 66, 2) := by decide +kernel
theorem dX7_readsItem_81 : decode cX7_readsItem 81 = .ok (.iconst 3, 1) := by decide +kernel
theorem dX7_readsItem_82 : decode cX7_readsItem 82 = .ok (.aload_n 0, 1) := by decide +kernel
theorem dX7_readsItem_83 : decode cX7_readsItem 83 = .ok (.getfield 13, 3) := by decide +kernel
theorem dX7_readsItem_86 : decode cX7_readsItem 86 = .ok (.bipush 83, 2) := by decide +kernel
theorem dX7_readsItem_88 : decode cX7_readsItem 88 = .ok (.iaload, 1) := by decide +kernel
theorem dX7_readsItem_89 : decode cX7_readsItem 89 = .ok (.imul, 1) := by decide +kernel
theorem dX7_readsItem_90 : decode cX7_readsItem 90 = .ok (.iadd, 1) := by decide +kernel
theorem dX7_readsItem_91 : decode cX7_readsItem 91 = .ok (.istore_n 2, 1) := by decide +kernel
theorem dX7_readsItem_92 : decode cX7_readsItem 92 = .ok (.aload_n 0, 1) := by decide +kernel
theorem dX7_readsItem_93 : decode cX7_readsItem 93 = .ok (.getfield 13, 3) := by decide +kernel
theorem dX7_readsItem_96 : decode cX7_readsItem 96 = .ok (.iload_n 2, 1) := by decide +kernel
theorem dX7_readsItem_97 : decode cX7_readsItem 97 = .ok (.aload_n 0, 1) := by decide +kernel
theorem dX7_readsItem_98 : decode cX7_readsItem 98 = .ok (.iconst 1, 1) := by decide +kernel
theorem dX7_readsItem_99 : decode cX7_readsItem 99 = .ok (.bipush 9, 2) := by decide +kernel
theorem dX7_readsItem_101 : decode cX7_readsItem 101 = .ok (.invokevirtual 104, 3) := by decide +kernel
theorem dX7_readsItem_104 : decode cX7_readsItem 104 = .ok (.iastore, 1) := by decide +kernel
theorem dX7_readsItem_105 : decode cX7_readsItem 105 = .ok (.aload_n 0, 1) := by decide +kernel
theorem dX7_readsItem_106 : decode cX7_readsItem 106 = .ok (.getfield 13, 3) := by decide +kernel
theorem dX7_readsItem_109 : decode cX7_readsItem 109 = .ok (.iload_n 2, 1) := by decide +kernel
theorem dX7_readsItem_110 : decode cX7_readsItem 110 = .ok (.iconst 1, 1) := by decide +kernel
theorem dX7_readsItem_111 : decode cX7_readsItem 111 = .ok (.iadd, 1) := by decide +kernel
theorem dX7_readsItem_112 : decode cX7_readsItem 112 = .ok (.aload_n 0, 1) := by decide +kernel
theorem dX7_readsItem_113 : decode cX7_readsItem 113 = .ok (.iconst 0, 1) := by decide +kernel
theorem dX7_readsItem_114 : decode cX7_readsItem 114 = .ok (.bipush 9, 2) := by decide +kernel
theorem dX7_readsItem_116 : decode cX7_readsItem 116 = .ok (.invokevirtual 104, 3) := by decide +kernel
theorem dX7_readsItem_119 : decode cX7_readsItem 119 = .ok (.iastore, 1) := by decide +kernel
theorem dX7_readsItem_120 : decode cX7_readsItem 120 = .ok (.aload_n 0, 1) := by decide +kernel
theorem dX7_readsItem_121 : decode cX7_readsItem 121 = .ok (.getfield 13, 3) := by decide +kernel
theorem dX7_readsItem_124 : decode cX7_readsItem 124 = .ok (.iload_n 2, 1) := by decide +kernel
theorem dX7_readsItem_125 : decode cX7_readsItem 125 = .ok (.iconst 2, 1) := by decide +kernel
theorem dX7_readsItem_126 : decode cX7_readsItem 126 = .ok (.iadd, 1) := by decide +kernel
theorem dX7_readsItem_127 : decode cX7_readsItem 127 = .ok (.iconst 0, 1) := by decide +kernel
theorem dX7_readsItem_128 : decode cX7_readsItem 128 = .ok (.iastore, 1) := by decide +kernel
theorem dX7_readsItem_129 : decode cX7_readsItem 129 = .ok (.aload_n 0, 1) := by decide +kernel
theorem dX7_readsItem_130 : decode cX7_readsItem 130 = .ok (.getfield 13, 3) := by decide +kernel
theorem dX7_readsItem_133 : decode cX7_readsItem 133 = .ok (.bipush 83, 2) := by decide +kernel
theorem dX7_readsItem_135 : decode cX7_readsItem 135 = .ok (.dup2, 1) := by decide +kernel
theorem dX7_readsItem_136 : decode cX7_readsItem 136 = .ok (.iaload, 1) := by decide +kernel
theorem dX7_readsItem_137 : decode cX7_readsItem 137 = .ok (.iconst 1, 1) := by decide +kernel
theorem dX7_readsItem_138 : decode cX7_readsItem 138 = .ok (.iadd, 1) := by decide +kernel
theorem dX7_readsItem_139 : decode cX7_readsItem 139 = .ok (.iastore, 1) := by decide +kernel
theorem dX7_readsItem_140 : decode cX7_readsItem 140 = .ok (.goto 135, 3) := by decide +kernel
theorem dX7_readsItem_143 : decode cX7_readsItem 143 = .ok (.iload_n 1, 1) := by decide +kernel
theorem dX7_readsItem_144 : decode cX7_readsItem 144 = .ok (.iconst 2, 1) := by decide +kernel
theorem dX7_readsItem_145 : decode cX7_readsItem 145 = .ok (.if_icmp .ne 86, 3) := by decide +kernel
theorem dX7_readsItem_148 : decode cX7_readsItem 148 = .ok (.aload_n 0, 1) := by decide +kernel
theorem dX7_readsItem_149 : decode cX7_readsItem 149 = .ok (.getfield 13, 3) := by decide +kernel
theorem dX7_readsItem_152 : decode cX7_readsItem 152 = .ok (.bipush 78, 2) := by decide +kernel
theorem dX7_readsItem_154 : decode cX7_readsItem 154 = .ok (.aload_n 0, 1) := by decide +kernel
theorem dX7_readsItem_155 : decode cX7_readsItem 155 = .ok (.iconst 0, 1) := by decide +kernel
theorem dX7_readsItem_156 : decode cX7_readsItem 156 = .ok (.bipush 99, 2) := by decide +kernel
theorem dX7_readsItem_158 : decode cX7_readsItem 158 = .ok (.invokevirtual 104, 3) := by decide +kernel
theorem dX7_readsItem_161 : decode cX7_readsItem 161 = .ok (.iastore, 1) := by decide +kernel
theorem dX7_readsItem_162 : decode cX7_readsItem 162 = .ok (.aload_n 0, 1) := by decide +kernel
theorem dX7_readsItem_163 : decode cX7_readsItem 163 = .ok (.getfield 13, 3) := by decide +kernel
theorem dX7_readsItem_166 : decode cX7_readsItem 166 = .ok (.bipush 79, 2) := by decide +kernel
theorem dX7_readsItem_168 : decode cX7_readsItem 168 = .ok (.aload_n 0, 1) := by decide +kernel
theorem dX7_readsItem_169 : decode cX7_readsItem 169 = .ok (.aload_n 0, 1) := by decide +kernel
theorem dX7_readsItem_170 : decode cX7_readsItem 170 = .ok (.getfield 13, 3) := by decide +kernel
theorem dX7_readsItem_173 : decode cX7_readsItem 173 = .ok (.bipush 78, 2) := by decide +kernel
theorem dX7_readsItem_175 : decode cX7_readsItem 175 = .ok (.iaload, 1) := by decide +kernel
theorem dX7_readsItem_176 : decode cX7_readsItem 176 = .ok (.bipush 99, 2) := by decide +kernel
theorem dX7_readsItem_178 : decode cX7_readsItem 178 = .ok (.invokevirtual 104, 3) := by decide +kernel
theorem dX7_readsItem_181 : decode cX7_readsItem 181 = .ok (.iastore, 1) := by decide +kernel
theorem dX7_readsItem_182 : decode cX7_readsItem 182 = .ok (.aload_n 0, 1) := by decide +kernel
theorem dX7_readsItem_183 : decode cX7_readsItem 183 = .ok (.getfield 13, 3) := by decide +kernel
theorem dX7_readsItem_186 : decode cX7_readsItem 186 = .ok (.bipush 80, 2) := by decide +kernel
theorem dX7_readsItem_188 : decode cX7_readsItem 188 = .ok (.aload_n 0, 1) := by decide +kernel
theorem dX7_readsItem_189 : decode cX7_readsItem 189 = .ok (.iconst 3, 1) := by decide +kernel
theorem dX7_readsItem_190 : decode cX7_readsItem 190 = .ok (.invokevirtual 108, 3) := by decide +kernel
theorem dX7_readsItem_193 : decode cX7_readsItem 193 = .ok (.ifCond .eq 7, 3) := by decide +kernel
theorem dX7_readsItem_196 : decode cX7_readsItem 196 = .ok (.iconst 0, 1) := by decide +kernel
theorem dX7_readsItem_197 : decode cX7_readsItem 197 = .ok (.goto 4, 3) := by decide +kernel
theorem dX7_readsItem_200 : decode cX7_readsItem 200 = .ok (.iconst 1, 1) := by decide +kernel
theorem dX7_readsItem_201 : decode cX7_readsItem 201 = .ok (.iastore, 1) := by decide +kernel
theorem dX7_readsItem_202 : decode cX7_readsItem 202 = .ok (.aload_n 0, 1) := by decide +kernel
theorem dX7_readsItem_203 : decode cX7_readsItem 203 = .ok (.getfield 13, 3) := by decide +kernel
theorem dX7_readsItem_206 : decode cX7_readsItem 206 = .ok (.bipush 81, 2) := by decide +kernel
theorem dX7_readsItem_208 : decode cX7_readsItem 208 = .ok (.aload_n 0, 1) := by decide +kernel
theorem dX7_readsItem_209 : decode cX7_readsItem 209 = .ok (.iconst 4, 1) := by decide +kernel
theorem dX7_readsItem_210 : decode cX7_readsItem 210 = .ok (.invokevirtual 108, 3) := by decide +kernel
theorem dX7_readsItem_213 : decode cX7_readsItem 213 = .ok (.ifCond .eq 13, 3) := by decide +kernel
theorem dX7_readsItem_216 : decode cX7_readsItem 216 = .ok (.aload_n 0, 1) := by decide +kernel
theorem dX7_readsItem_217 : decode cX7_readsItem 217 = .ok (.iconst 0, 1) := by decide +kernel
theorem dX7_readsItem_218 : decode cX7_readsItem 218 = .ok (.bipush 20, 2) := by decide +kernel
theorem dX7_readsItem_220 : decode cX7_readsItem 220 = .ok (.invokevirtual 104, 3) := by decide +kernel
theorem dX7_readsItem_223 : decode cX7_readsItem 223 = .ok (.goto 4, 3) := by decide +kernel
theorem dX7_readsItem_226 : decode cX7_readsItem 226 = .ok (.iconst 0, 1) := by decide +kernel
theorem dX7_readsItem_227 : decode cX7_readsItem 227 = .ok (.iastore, 1) := by decide +kernel
theorem dX7_readsItem_228 : decode cX7_readsItem 228 = .ok (.goto 47, 3) := by decide +kernel
theorem dX7_readsItem_231 : decode cX7_readsItem 231 = .ok (.aload_n 0, 1) := by decide +kernel
theorem dX7_readsItem_232 : decode cX7_readsItem 232 = .ok (.iconst 0, 1) := by decide +kernel
theorem dX7_readsItem_233 : decode cX7_readsItem 233 = .ok (.aload_n 0, 1) := by decide +kernel
theorem dX7_readsItem_234 : decode cX7_readsItem 234 = .ok (.getfield 13, 3) := by decide +kernel
theorem dX7_readsItem_237 : decode cX7_readsItem 237 = .ok (.bipush 83, 2) := by decide +kernel
theorem dX7_readsItem_239 : decode cX7_readsItem 239 = .ok (.iaload, 1) := by decide +kernel
theorem dX7_readsItem_240 : decode cX7_readsItem 240 = .ok (.iconst 1, 1) := by decide +kernel
theorem dX7_readsItem_241 : decode cX7_readsItem 241 = .ok (.isub, 1) := by decide +kernel
theorem dX7_readsItem_242 : decode cX7_readsItem 242 = .ok (.invokevirtual 104, 3) := by decide +kernel
theorem dX7_readsItem_245 : decode cX7_readsItem 245 = .ok (.istore_n 2, 1) := by decide +kernel
theorem dX7_readsItem_246 : decode cX7_readsItem 246 = .ok (.aload_n 0, 1) := by decide +kernel
theorem dX7_readsItem_247 : decode cX7_readsItem 247 = .ok (.iconst 0, 1) := by decide +kernel
theorem dX7_readsItem_248 : decode cX7_readsItem 248 = .ok (.bipush 9, 2) := by decide +kernel
theorem dX7_readsItem_250 : decode cX7_readsItem 250 = .ok (.invokevirtual 104, 3) := by decide +kernel
theorem dX7_readsItem_253 : decode cX7_readsItem 253 = .ok (.istore_n 3, 1) := by decide +kernel
theorem dX7_readsItem_254 : decode cX7_readsItem 254 = .ok (.aload_n 0, 1) := by decide +kernel
theorem dX7_readsItem_255 : decode cX7_readsItem 255 = .ok (.invokevirtual 93, 3) := by decide +kernel
theorem dX7_readsItem_258 : decode cX7_readsItem 258 = .ok (.ifCond .eq 17, 3) := by decide +kernel
theorem dX7_readsItem_261 : decode cX7_readsItem 261 = .ok (.aload_n 0, 1) := by decide +kernel
theorem dX7_readsItem_262 : decode cX7_readsItem 262 = .ok (.getfield 13, 3) := by decide +kernel
theorem dX7_readsItem_265 : decode cX7_readsItem 265 = .ok (.bipush 66, 2) := by decide +kernel
theorem dX7_readsItem_267 : decode cX7_readsItem 267 = .ok (.iconst 3, 1) := by decide +kernel
theorem dX7_readsItem_268 : decode cX7_readsItem 268 = .ok (.iload_n 2, 1) := by decide +kernel
theorem dX7_readsItem_269 : decode cX7_readsItem 269 = .ok (.imul, 1) := by decide +kernel
theorem dX7_readsItem_270 : decode cX7_readsItem 270 = .ok (.iadd, 1) := by decide +kernel
theorem dX7_readsItem_271 : decode cX7_readsItem 271 = .ok (.iconst 2, 1) := by decide +kernel
theorem dX7_readsItem_272 : decode cX7_readsItem 272 = .ok (.iadd, 1) := by decide +kernel
theorem dX7_readsItem_273 : decode cX7_readsItem 273 = .ok (.iload_n 3, 1) := by decide +kernel
theorem dX7_readsItem_274 : decode cX7_readsItem 274 = .ok (.iastore, 1) := by decide +kernel
theorem dX7_readsItem_275 : decode cX7_readsItem 275 = .ok (.return_, 1) := by decide +kernel
theorem dX7_chart_0 : decode cX7_chart 0 = .ok (.aload_n 0, 1) := by decide +kernel
theorem dX7_chart_1 : decode cX7_chart 1 = .ok (.iconst 0, 1) := by decide +kernel
theorem dX7_chart_2 : decode cX7_chart 2 = .ok (.putfield 47, 3) := by decide +kernel
theorem dX7_chart_5 : decode cX7_chart 5 = .ok (.aload_n 0, 1) := by decide +kernel
theorem dX7_chart_6 : decode cX7_chart 6 = .ok (.iconst (-1), 1) := by decide +kernel
theorem dX7_chart_7 : decode cX7_chart 7 = .ok (.putfield 90, 3) := by decide +kernel
theorem dX7_chart_10 : decode cX7_chart 10 = .ok (.aload_n 0, 1) := by decide +kernel
theorem dX7_chart_11 : decode cX7_chart 11 = .ok (.iconst 0, 1) := by decide +kernel
theorem dX7_chart_12 : decode cX7_chart 12 = .ok (.putfield 70, 3) := by decide +kernel
theorem dX7_chart_15 : decode cX7_chart 15 = .ok (.iconst 0, 1) := by decide +kernel
theorem dX7_chart_16 : decode cX7_chart 16 = .ok (.istore_n 1, 1) := by decide +kernel
theorem dX7_chart_17 : decode cX7_chart 17 = .ok (.iconst 0, 1) := by decide +kernel
theorem dX7_chart_18 : decode cX7_chart 18 = .ok (.istore_n 2, 1) := by decide +kernel
theorem dX7_chart_19 : decode cX7_chart 19 = .ok (.aload_n 0, 1) := by decide +kernel
theorem dX7_chart_20 : decode cX7_chart 20 = .ok (.invokevirtual 41, 3) := by decide +kernel
theorem dX7_chart_23 : decode cX7_chart 23 = .ok (.aload_n 0, 1) := by decide +kernel
theorem dX7_chart_24 : decode cX7_chart 24 = .ok (.invokevirtual 97, 3) := by decide +kernel
theorem dX7_chart_27 : decode cX7_chart 27 = .ok (.aload_n 0, 1) := by decide +kernel
theorem dX7_chart_28 : decode cX7_chart 28 = .ok (.invokevirtual 93, 3) := by decide +kernel
theorem dX7_chart_31 : decode cX7_chart 31 = .ok (.ifCond .eq 174, 3) := by decide +kernel
theorem dX7_chart_34 : decode cX7_chart 34 = .ok (.aload_n 0, 1) := by decide +kernel
theorem dX7_chart_35 : decode cX7_chart 35 = .ok (.getfield 80, 3) := by decide +kernel
theorem dX7_chart_38 : decode cX7_chart 38 = .ok (.ifCond .eq 167, 3) := by decide +kernel
theorem dX7_chart_41 : decode cX7_chart 41 = .ok (.aload_n 0, 1) := by decide +kernel
theorem dX7_chart_42 : decode cX7_chart 42 = .ok (.getfield 87, 3) := by decide +kernel
theorem dX7_chart_45 : decode cX7_chart 45 = .ok (.ifCond .ne 23, 3) := by decide +kernel
theorem dX7_chart_48 : decode cX7_chart 48 = .ok (.aload_n 0, 1) := by decide +kernel
theorem dX7_chart_49 : decode cX7_chart 49 = .ok (.getfield 13, 3) := by decide +kernel
theorem dX7_chart_52 : decode cX7_chart 52 = .ok (.bipush 82, 2) := by decide +kernel
theorem dX7_chart_54 : decode cX7_chart 54 = .ok (.iaload, 1) := by decide +kernel
theorem dX7_chart_55 : decode cX7_chart 55 = .ok (.bipush 8, 2) := by decide +kernel
theorem dX7_chart_57 : decode cX7_chart 57 = .ok (.if_icmp .ge 7, 3) := by decide +kernel
theorem dX7_chart_60 : decode cX7_chart 60 = .ok (.iconst 1, 1) := by decide +kernel
theorem dX7_chart_61 : decode cX7_chart 61 = .ok (.goto 67, 3) := by decide +kernel
theorem dX7_chart_64 : decode cX7_chart 64 = .ok (.iconst 0, 1) := by decide +kernel
theorem dX7_chart_65 : decode cX7_chart 65 = .ok (.goto 63, 3) := by decide +kernel
theorem dX7_chart_68 : decode cX7_chart 68 = .ok (.aload_n 0, 1) := by decide +kernel
theorem dX7_chart_69 : decode cX7_chart 69 = .ok (.getfield 87, 3) := by decide +kernel
theorem dX7_chart_72 : decode cX7_chart 72 = .ok (.iconst 1, 1) := by decide +kernel
theorem dX7_chart_73 : decode cX7_chart 73 = .ok (.if_icmp .ne 22, 3) := by decide +kernel
theorem dX7_chart_76 : decode cX7_chart 76 = .ok (.aload_n 0, 1) := by decide +kernel
theorem dX7_chart_77 : decode cX7_chart 77 = .ok (.getfield 13, 3) := by decide +kernel
theorem dX7_chart_80 : decode cX7_chart 80 = .ok (.bipush 83, 2) := by decide +kernel
theorem dX7_chart_82 : decode cX7_chart 82 = .ok (.iaload, 1) := by decide +kernel
theorem dX7_chart_83 : decode cX7_chart 83 = .ok (.iconst 4, 1) := by decide +kernel
theorem dX7_chart_84 : decode cX7_chart 84 = .ok (.if_icmp .ge 7, 3) := by decide +kernel
theorem dX7_chart_87 : decode cX7_chart 87 = .ok (.iconst 1, 1) := by decide +kernel
theorem dX7_chart_88 : decode cX7_chart 88 = .ok (.goto 40, 3) := by decide +kernel
theorem dX7_chart_91 : decode cX7_chart 91 = .ok (.iconst 0, 1) := by decide +kernel
theorem dX7_chart_92 : decode cX7_chart 92 = .ok (.goto 36, 3) := by decide +kernel
theorem dX7_chart_95 : decode cX7_chart 95 = .ok (.aload_n 0, 1) := by decide +kernel
theorem dX7_chart_96 : decode cX7_chart 96 = .ok (.getfield 87, 3) := by decide +kernel
theorem dX7_chart_99 : decode cX7_chart 99 = .ok (.iconst 2, 1) := by decide +kernel
theorem dX7_chart_100 : decode cX7_chart 100 = .ok (.if_icmp .ne 15, 3) := by decide +kernel
theorem dX7_chart_103 : decode cX7_chart 103 = .ok (.iload_n 2, 1) := by decide +kernel
theorem dX7_chart_104 : decode cX7_chart 104 = .ok (.ifCond .ne 7, 3) := by decide +kernel
theorem dX7_chart_107 : decode cX7_chart 107 = .ok (.iconst 1, 1) := by decide +kernel
theorem dX7_chart_108 : decode cX7_chart 108 = .ok (.goto 20, 3) := by decide +kernel
theorem dX7_chart_111 : decode cX7_chart 111 = .ok (.iconst 0, 1) := by decide +kernel
theorem dX7_chart_112 : decode cX7_chart 112 = .ok (.goto 16, 3) := by decide +kernel
theorem dX7_chart_115 : decode cX7_chart 115 = .ok (.aload_n 0, 1) := by decide +kernel
theorem dX7_chart_116 : decode cX7_chart 116 = .ok (.getfield 87, 3) := by decide +kernel
theorem dX7_chart_119 : decode cX7_chart 119 = .ok (.iconst 5, 1) := by decide +kernel
theorem dX7_chart_120 : decode cX7_chart 120 = .ok (.if_icmp .ne 7, 3) := by decide +kernel
theorem dX7_chart_123 : decode cX7_chart 123 = .ok (.iconst 1, 1) := by decide +kernel
theorem dX7_chart_124 : decode cX7_chart 124 = .ok (.goto 4, 3) := by decide +kernel
theorem dX7_chart_127 : decode cX7_chart 127 = .ok (.iconst 0, 1) := by decide +kernel
theorem dX7_chart_128 : decode cX7_chart 128 = .ok (.istore_n 3, 1) := by decide +kernel
theorem dX7_chart_129 : decode cX7_chart 129 = .ok (.aload_n 0, 1) := by decide +kernel
theorem dX7_chart_130 : decode cX7_chart 130 = .ok (.aload_n 0, 1) := by decide +kernel
theorem dX7_chart_131 : decode cX7_chart 131 = .ok (.getfield 80, 3) := by decide +kernel
theorem dX7_chart_134 : decode cX7_chart 134 = .ok (.iconst 1, 1) := by decide +kernel
theorem dX7_chart_135 : decode cX7_chart 135 = .ok (.if_icmp .ne 11, 3) := by decide +kernel
theorem dX7_chart_138 : decode cX7_chart 138 = .ok (.iload_n 3, 1) := by decide +kernel
theorem dX7_chart_139 : decode cX7_chart 139 = .ok (.ifCond .eq 7, 3) := by decide +kernel
theorem dX7_chart_142 : decode cX7_chart 142 = .ok (.iconst 1, 1) := by decide +kernel
theorem dX7_chart_143 : decode cX7_chart 143 = .ok (.goto 4, 3) := by decide +kernel
theorem dX7_chart_146 : decode cX7_chart 146 = .ok (.iconst 0, 1) := by decide +kernel
theorem dX7_chart_147 : decode cX7_chart 147 = .ok (.invokevirtual 100, 3) := by decide +kernel
theorem dX7_chart_150 : decode cX7_chart 150 = .ok (.istore 4, 2) := by decide +kernel
theorem dX7_chart_152 : decode cX7_chart 152 = .ok (.aload_n 0, 1) := by decide +kernel
theorem dX7_chart_153 : decode cX7_chart 153 = .ok (.invokevirtual 93, 3) := by decide +kernel
theorem dX7_chart_156 : decode cX7_chart 156 = .ok (.ifCond .eq 25, 3) := by decide +kernel
theorem dX7_chart_159 : decode cX7_chart 159 = .ok (.iload_n 2, 1) := by decide +kernel
theorem dX7_chart_160 : decode cX7_chart 160 = .ok (.ifCond .ne 9, 3) := by decide +kernel
theorem dX7_chart_163 : decode cX7_chart 163 = .ok (.iload 4, 2) := by decide +kernel
theorem dX7_chart_165 : decode cX7_chart 165 = .ok (.iconst 2, 1) := by decide +kernel
theorem dX7_chart_166 : decode cX7_chart 166 = .ok (.if_icmp .ne 7, 3) := by decide +kernel
theorem dX7_chart_169 : decode cX7_chart 169 = .ok (.iconst 1, 1) := by decide +kernel
theorem dX7_chart_170 : decode cX7_chart 170 = .ok (.goto 4, 3) := by decide +kernel
theorem dX7_chart_173 : decode cX7_chart 173 = .ok (.iconst 0, 1) := by decide +kernel
theorem dX7_chart_174 : decode cX7_chart 174 = .ok (.istore_n 2, 1) := by decide +kernel
theorem dX7_chart_175 : decode cX7_chart 175 = .ok (.aload_n 0, 1) := by decide +kernel
theorem dX7_chart_176 : decode cX7_chart 176 = .ok (.iload 4, 2) := by decide +kernel
theorem dX7_chart_178 : decode cX7_chart 178 = .ok (.invokevirtual 112, 3) := by decide +kernel
theorem dX7_chart_181 : decode cX7_chart 181 = .ok (.aload_n 0, 1) := by decide +kernel
theorem dX7_chart_182 : decode cX7_chart 182 = .ok (.aload_n 0, 1) := by decide +kernel
theorem dX7_chart_183 : decode cX7_chart 183 = .ok (.getfield 80, 3) := by decide +kernel
theorem dX7_chart_186 : decode cX7_chart 186 = .ok (.iconst 3, 1) := by decide +kernel
theorem dX7_chart_187 : decode cX7_chart 187 = .ok (.if_icmp .ne 7, 3) := by decide +kernel
theorem dX7_chart_190 : decode cX7_chart 190 = .ok (.iconst 1, 1) := by decide +kernel
theorem dX7_chart_191 : decode cX7_chart 191 = .ok (.goto 4, 3) := by decide +kernel
theorem dX7_chart_194 : decode cX7_chart 194 = .ok (.iconst 0, 1) := by decide +kernel
theorem dX7_chart_195 : decode cX7_chart 195 = .ok (.invokevirtual 100, 3) := by decide +kernel
theorem dX7_chart_198 : decode cX7_chart 198 = .ok (.pop, 1) := by decide +kernel
theorem dX7_chart_199 : decode cX7_chart 199 = .ok (.iinc 1 1, 3) := by decide +kernel
theorem dX7_chart_202 : decode cX7_chart 202 = .ok (.goto (-175), 3) := by decide +kernel
theorem dX7_chart_205 : decode cX7_chart 205 = .ok (.aload_n 0, 1) := by decide +kernel
theorem dX7_chart_206 : decode cX7_chart 206 = .ok (.invokevirtual 93, 3) := by decide +kernel
theorem dX7_chart_209 : decode cX7_chart 209 = .ok (.ifCond .ne 11, 3) := by decide +kernel
theorem dX7_chart_212 : decode cX7_chart 212 = .ok (.bipush (-10), 2) := by decide +kernel
theorem dX7_chart_214 : decode cX7_chart 214 = .ok (.aload_n 0, 1) := by decide +kernel
theorem dX7_chart_215 : decode cX7_chart 215 = .ok (.getfield 90, 3) := by decide +kernel
theorem dX7_chart_218 : decode cX7_chart 218 = .ok (.isub, 1) := by decide +kernel
theorem dX7_chart_219 : decode cX7_chart 219 = .ok (.ireturn, 1) := by decide +kernel
theorem dX7_chart_220 : decode cX7_chart 220 = .ok (.aload_n 0, 1) := by decide +kernel
theorem dX7_chart_221 : decode cX7_chart 221 = .ok (.invokevirtual 44, 3) := by decide +kernel
theorem dX7_chart_224 : decode cX7_chart 224 = .ok (.aload_n 0, 1) := by decide +kernel
theorem dX7_chart_225 : decode cX7_chart 225 = .ok (.iconst 0, 1) := by decide +kernel
theorem dX7_chart_226 : decode cX7_chart 226 = .ok (.putfield 55, 3) := by decide +kernel
theorem dX7_chart_229 : decode cX7_chart 229 = .ok (.iload_n 1, 1) := by decide +kernel
theorem dX7_chart_230 : decode cX7_chart 230 = .ok (.ireturn, 1) := by decide +kernel
theorem dX7_adopts_0 : decode cX7_adopts 0 = .ok (.iconst 0, 1) := by decide +kernel
theorem dX7_adopts_1 : decode cX7_adopts 1 = .ok (.istore_n 1, 1) := by decide +kernel
theorem dX7_adopts_2 : decode cX7_adopts 2 = .ok (.iload_n 1, 1) := by decide +kernel
theorem dX7_adopts_3 : decode cX7_adopts 3 = .ok (.bipush 42, 2) := by decide +kernel
theorem dX7_adopts_5 : decode cX7_adopts 5 = .ok (.if_icmp .ge 24, 3) := by decide +kernel
theorem dX7_adopts_8 : decode cX7_adopts 8 = .ok (.aload_n 0, 1) := by decide +kernel
theorem dX7_adopts_9 : decode cX7_adopts 9 = .ok (.getfield 13, 3) := by decide +kernel
theorem dX7_adopts_12 : decode cX7_adopts 12 = .ok (.iload_n 1, 1) := by decide +kernel
theorem dX7_adopts_13 : decode cX7_adopts 13 = .ok (.aload_n 0, 1) := by decide +kernel
theorem dX7_adopts_14 : decode cX7_adopts 14 = .ok (.getfield 13, 3) := by decide +kernel
theorem dX7_adopts_17 : decode cX7_adopts 17 = .ok (.bipush 42, 2) := by decide +kernel
theorem dX7_adopts_19 : decode cX7_adopts 19 = .ok (.iload_n 1, 1) := by decide +kernel
theorem dX7_adopts_20 : decode cX7_adopts 20 = .ok (.iadd, 1) := by decide +kernel
theorem dX7_adopts_21 : decode cX7_adopts 21 = .ok (.iaload, 1) := by decide +kernel
theorem dX7_adopts_22 : decode cX7_adopts 22 = .ok (.iastore, 1) := by decide +kernel
theorem dX7_adopts_23 : decode cX7_adopts 23 = .ok (.iinc 1 1, 3) := by decide +kernel
theorem dX7_adopts_26 : decode cX7_adopts 26 = .ok (.goto (-24), 3) := by decide +kernel
theorem dX7_adopts_29 : decode cX7_adopts 29 = .ok (.aload_n 0, 1) := by decide +kernel
theorem dX7_adopts_30 : decode cX7_adopts 30 = .ok (.getfield 25, 3) := by decide +kernel
theorem dX7_adopts_33 : decode cX7_adopts 33 = .ok (.iconst 0, 1) := by decide +kernel
theorem dX7_adopts_34 : decode cX7_adopts 34 = .ok (.iconst 0, 1) := by decide +kernel
theorem dX7_adopts_35 : decode cX7_adopts 35 = .ok (.bastore, 1) := by decide +kernel
theorem dX7_adopts_36 : decode cX7_adopts 36 = .ok (.aload_n 0, 1) := by decide +kernel
theorem dX7_adopts_37 : decode cX7_adopts 37 = .ok (.getfield 25, 3) := by decide +kernel
theorem dX7_adopts_40 : decode cX7_adopts 40 = .ok (.iconst 1, 1) := by decide +kernel
theorem dX7_adopts_41 : decode cX7_adopts 41 = .ok (.iconst 0, 1) := by decide +kernel
theorem dX7_adopts_42 : decode cX7_adopts 42 = .ok (.bastore, 1) := by decide +kernel
theorem dX7_adopts_43 : decode cX7_adopts 43 = .ok (.aload_n 0, 1) := by decide +kernel
theorem dX7_adopts_44 : decode cX7_adopts 44 = .ok (.aload_n 0, 1) := by decide +kernel
theorem dX7_adopts_45 : decode cX7_adopts 45 = .ok (.getfield 19, 3) := by decide +kernel
theorem dX7_adopts_48 : decode cX7_adopts 48 = .ok (.invokevirtual 116, 3) := by decide +kernel
theorem dX7_adopts_51 : decode cX7_adopts 51 = .ok (.return_, 1) := by decide +kernel
theorem dX7_begins_0 : decode cX7_begins 0 = .ok (.aload_n 1, 1) := by decide +kernel
theorem dX7_begins_1 : decode cX7_begins 1 = .ok (.iconst 0, 1) := by decide +kernel
theorem dX7_begins_2 : decode cX7_begins 2 = .ok (.iconst 0, 1) := by decide +kernel
theorem dX7_begins_3 : decode cX7_begins 3 = .ok (.iastore, 1) := by decide +kernel
theorem dX7_begins_4 : decode cX7_begins 4 = .ok (.aload_n 1, 1) := by decide +kernel
theorem dX7_begins_5 : decode cX7_begins 5 = .ok (.iconst 1, 1) := by decide +kernel
theorem dX7_begins_6 : decode cX7_begins 6 = .ok (.bipush 100, 2) := by decide +kernel
theorem dX7_begins_8 : decode cX7_begins 8 = .ok (.iastore, 1) := by decide +kernel
theorem dX7_begins_9 : decode cX7_begins 9 = .ok (.iconst 0, 1) := by decide +kernel
theorem dX7_begins_10 : decode cX7_begins 10 = .ok (.istore_n 2, 1) := by decide +kernel
theorem dX7_begins_11 : decode cX7_begins 11 = .ok (.iload_n 2, 1) := by decide +kernel
theorem dX7_begins_12 : decode cX7_begins 12 = .ok (.bipush 8, 2) := by decide +kernel
theorem dX7_begins_14 : decode cX7_begins 14 = .ok (.if_icmp .ge 44, 3) := by decide +kernel
theorem dX7_begins_17 : decode cX7_begins 17 = .ok (.aload_n 1, 1) := by decide +kernel
theorem dX7_begins_18 : decode cX7_begins 18 = .ok (.iconst 3, 1) := by decide +kernel
theorem dX7_begins_19 : decode cX7_begins 19 = .ok (.iconst 3, 1) := by decide +kernel
theorem dX7_begins_20 : decode cX7_begins 20 = .ok (.iload_n 2, 1) := by decide +kernel
theorem dX7_begins_21 : decode cX7_begins 21 = .ok (.imul, 1) := by decide +kernel
theorem dX7_begins_22 : decode cX7_begins 22 = .ok (.iadd, 1) := by decide +kernel
theorem dX7_begins_23 : decode cX7_begins 23 = .ok (.aload_n 0, 1) := by decide +kernel
theorem dX7_begins_24 : decode cX7_begins 24 = .ok (.getfield 13, 3) := by decide +kernel
theorem dX7_begins_27 : decode cX7_begins 27 = .ok (.iconst 3, 1) := by decide +kernel
theorem dX7_begins_28 : decode cX7_begins 28 = .ok (.iload_n 2, 1) := by decide +kernel
theorem dX7_begins_29 : decode cX7_begins 29 = .ok (.imul, 1) := by decide +kernel
theorem dX7_begins_30 : decode cX7_begins 30 = .ok (.iaload, 1) := by decide +kernel
theorem dX7_begins_31 : decode cX7_begins 31 = .ok (.iastore, 1) := by decide +kernel
theorem dX7_begins_32 : decode cX7_begins 32 = .ok (.aload_n 1, 1) := by decide +kernel
theorem dX7_begins_33 : decode cX7_begins 33 = .ok (.iconst 3, 1) := by decide +kernel
theorem dX7_begins_34 : decode cX7_begins 34 = .ok (.iconst 3, 1) := by decide +kernel
theorem dX7_begins_35 : decode cX7_begins 35 = .ok (.iload_n 2, 1) := by decide +kernel
theorem dX7_begins_36 : decode cX7_begins 36 = .ok (.imul, 1) := by decide +kernel
theorem dX7_begins_37 : decode cX7_begins 37 = .ok (.iadd, 1) := by decide +kernel
theorem dX7_begins_38 : decode cX7_begins 38 = .ok (.iconst 1, 1) := by decide +kernel
theorem dX7_begins_39 : decode cX7_begins 39 = .ok (.iadd, 1) := by decide +kernel
theorem dX7_begins_40 : decode cX7_begins 40 = .ok (.iconst 0, 1) := by decide +kernel
theorem dX7_begins_41 : decode cX7_begins 41 = .ok (.iastore, 1) := by decide +kernel
theorem dX7_begins_42 : decode cX7_begins 42 = .ok (.aload_n 1, 1) := by decide +kernel
theorem dX7_begins_43 : decode cX7_begins 43 = .ok (.iconst 3, 1) := by decide +kernel
theorem dX7_begins_44 : decode cX7_begins 44 = .ok (.iconst 3, 1) := by decide +kernel
theorem dX7_begins_45 : decode cX7_begins 45 = .ok (.iload_n 2, 1) := by decide +kernel
theorem dX7_begins_46 : decode cX7_begins 46 = .ok (.imul, 1) := by decide +kernel
theorem dX7_begins_47 : decode cX7_begins 47 = .ok (.iadd, 1) := by decide +kernel
theorem dX7_begins_48 : decode cX7_begins 48 = .ok (.iconst 2, 1) := by decide +kernel
theorem dX7_begins_49 : decode cX7_begins 49 = .ok (.iadd, 1) := by decide +kernel
theorem dX7_begins_50 : decode cX7_begins 50 = .ok (.iconst 0, 1) := by decide +kernel
theorem dX7_begins_51 : decode cX7_begins 51 = .ok (.iastore, 1) := by decide +kernel
theorem dX7_begins_52 : decode cX7_begins 52 = .ok (.iinc 2 1, 3) := by decide +kernel
theorem dX7_begins_55 : decode cX7_begins 55 = .ok (.goto (-44), 3) := by decide +kernel
theorem dX7_begins_58 : decode cX7_begins 58 = .ok (.return_, 1) := by decide +kernel
theorem dX7_isChild_0 : decode cX7_isChild 0 = .ok (.iload_n 1, 1) := by decide +kernel
theorem dX7_isChild_1 : decode cX7_isChild 1 = .ok (.iconst 0, 1) := by decide +kernel
theorem dX7_isChild_2 : decode cX7_isChild 2 = .ok (.aload_n 0, 1) := by decide +kernel
theorem dX7_isChild_3 : decode cX7_isChild 3 = .ok (.getfield 13, 3) := by decide +kernel
theorem dX7_isChild_6 : decode cX7_isChild 6 = .ok (.bipush 40, 2) := by decide +kernel
theorem dX7_isChild_8 : decode cX7_isChild 8 = .ok (.iaload, 1) := by decide +kernel
theorem dX7_isChild_9 : decode cX7_isChild 9 = .ok (.iconst 1, 1) := by decide +kernel
theorem dX7_isChild_10 : decode cX7_isChild 10 = .ok (.isub, 1) := by decide +kernel
theorem dX7_isChild_11 : decode cX7_isChild 11 = .ok (.invokestatic 51, 3) := by decide +kernel
theorem dX7_isChild_14 : decode cX7_isChild 14 = .ok (.ireturn, 1) := by decide +kernel
theorem dX7_isSort_0 : decode cX7_isSort 0 = .ok (.iload_n 1, 1) := by decide +kernel
theorem dX7_isSort_1 : decode cX7_isSort 1 = .ok (.iconst 0, 1) := by decide +kernel
theorem dX7_isSort_2 : decode cX7_isSort 2 = .ok (.aload_n 0, 1) := by decide +kernel
theorem dX7_isSort_3 : decode cX7_isSort 3 = .ok (.getfield 13, 3) := by decide +kernel
theorem dX7_isSort_6 : decode cX7_isSort 6 = .ok (.bipush 41, 2) := by decide +kernel
theorem dX7_isSort_8 : decode cX7_isSort 8 = .ok (.iaload, 1) := by decide +kernel
theorem dX7_isSort_9 : decode cX7_isSort 9 = .ok (.iconst 1, 1) := by decide +kernel
theorem dX7_isSort_10 : decode cX7_isSort 10 = .ok (.isub, 1) := by decide +kernel
theorem dX7_isSort_11 : decode cX7_isSort 11 = .ok (.invokestatic 51, 3) := by decide +kernel
theorem dX7_isSort_14 : decode cX7_isSort 14 = .ok (.ireturn, 1) := by decide +kernel
theorem dX7_isDay_0 : decode cX7_isDay 0 = .ok (.iload_n 0, 1) := by decide +kernel
theorem dX7_isDay_1 : decode cX7_isDay 1 = .ok (.iconst 0, 1) := by decide +kernel
theorem dX7_isDay_2 : decode cX7_isDay 2 = .ok (.bipush 99, 2) := by decide +kernel
theorem dX7_isDay_4 : decode cX7_isDay 4 = .ok (.invokestatic 51, 3) := by decide +kernel
theorem dX7_isDay_7 : decode cX7_isDay 7 = .ok (.ireturn, 1) := by decide +kernel
theorem dX7_child_0 : decode cX7_child 0 = .ok (.aload_n 0, 1) := by decide +kernel
theorem dX7_child_1 : decode cX7_child 1 = .ok (.iconst 0, 1) := by decide +kernel
theorem dX7_child_2 : decode cX7_child 2 = .ok (.putfield 47, 3) := by decide +kernel
theorem dX7_child_5 : decode cX7_child 5 = .ok (.aload_n 0, 1) := by decide +kernel
theorem dX7_child_6 : decode cX7_child 6 = .ok (.iload_n 1, 1) := by decide +kernel
theorem dX7_child_7 : decode cX7_child 7 = .ok (.invokevirtual 120, 3) := by decide +kernel
theorem dX7_child_10 : decode cX7_child 10 = .ok (.ifCond .eq 12, 3) := by decide +kernel
theorem dX7_child_13 : decode cX7_child 13 = .ok (.iload_n 2, 1) := by decide +kernel
theorem dX7_child_14 : decode cX7_child 14 = .ok (.iconst 0, 1) := by decide +kernel
theorem dX7_child_15 : decode cX7_child 15 = .ok (.iconst 5, 1) := by decide +kernel
theorem dX7_child_16 : decode cX7_child 16 = .ok (.invokestatic 51, 3) := by decide +kernel
theorem dX7_child_19 : decode cX7_child 19 = .ok (.ifCond .ne 7, 3) := by decide +kernel
theorem dX7_child_22 : decode cX7_child 22 = .ok (.iconst (-1), 1) := by decide +kernel
theorem dX7_child_23 : decode cX7_child 23 = .ok (.goto 35, 3) := by decide +kernel
theorem dX7_child_26 : decode cX7_child 26 = .ok (.iload_n 2, 1) := by decide +kernel
theorem dX7_child_27 : decode cX7_child 27 = .ok (.iconst 3, 1) := by decide +kernel
theorem dX7_child_28 : decode cX7_child 28 = .ok (.if_icmp .ge 16, 3) := by decide +kernel
theorem dX7_child_31 : decode cX7_child 31 = .ok (.aload_n 0, 1) := by decide +kernel
theorem dX7_child_32 : decode cX7_child 32 = .ok (.getfield 13, 3) := by decide +kernel
theorem dX7_child_35 : decode cX7_child 35 = .ok (.iconst 3, 1) := by decide +kernel
theorem dX7_child_36 : decode cX7_child 36 = .ok (.iload_n 1, 1) := by decide +kernel
theorem dX7_child_37 : decode cX7_child 37 = .ok (.imul, 1) := by decide +kernel
theorem dX7_child_38 : decode cX7_child 38 = .ok (.iload_n 2, 1) := by decide +kernel
theorem dX7_child_39 : decode cX7_child 39 = .ok (.iadd, 1) := by decide +kernel
theorem dX7_child_40 : decode cX7_child 40 = .ok (.iaload, 1) := by decide +kernel
theorem dX7_child_41 : decode cX7_child 41 = .ok (.goto 17, 3) := by decide +kernel
theorem dX7_child_44 : decode cX7_child 44 = .ok (.aload_n 0, 1) := by decide +kernel
theorem dX7_child_45 : decode cX7_child 45 = .ok (.getfield 19, 3) := by decide +kernel
theorem dX7_child_48 : decode cX7_child 48 = .ok (.iconst 3, 1) := by decide +kernel
theorem dX7_child_49 : decode cX7_child 49 = .ok (.iconst 3, 1) := by decide +kernel
theorem dX7_child_50 : decode cX7_child 50 = .ok (.iload_n 1, 1) := by decide +kernel
theorem dX7_child_51 : decode cX7_child 51 = .ok (.imul, 1) := by decide +kernel
theorem dX7_child_52 : decode cX7_child 52 = .ok (.iadd, 1) := by decide +kernel
theorem dX7_child_53 : decode cX7_child 53 = .ok (.iload_n 2, 1) := by decide +kernel
theorem dX7_child_54 : decode cX7_child 54 = .ok (.iadd, 1) := by decide +kernel
theorem dX7_child_55 : decode cX7_child 55 = .ok (.iconst 3, 1) := by decide +kernel
theorem dX7_child_56 : decode cX7_child 56 = .ok (.isub, 1) := by decide +kernel
theorem dX7_child_57 : decode cX7_child 57 = .ok (.iaload, 1) := by decide +kernel
theorem dX7_child_58 : decode cX7_child 58 = .ok (.ireturn, 1) := by decide +kernel
theorem dX7_book_0 : decode cX7_book 0 = .ok (.aload_n 0, 1) := by decide +kernel
theorem dX7_book_1 : decode cX7_book 1 = .ok (.iconst 0, 1) := by decide +kernel
theorem dX7_book_2 : decode cX7_book 2 = .ok (.putfield 47, 3) := by decide +kernel
theorem dX7_book_5 : decode cX7_book 5 = .ok (.aload_n 0, 1) := by decide +kernel
theorem dX7_book_6 : decode cX7_book 6 = .ok (.iload_n 1, 1) := by decide +kernel
theorem dX7_book_7 : decode cX7_book 7 = .ok (.invokevirtual 123, 3) := by decide +kernel
theorem dX7_book_10 : decode cX7_book 10 = .ok (.ifCond .eq 28, 3) := by decide +kernel
theorem dX7_book_13 : decode cX7_book 13 = .ok (.iload_n 2, 1) := by decide +kernel
theorem dX7_book_14 : decode cX7_book 14 = .ok (.iconst 0, 1) := by decide +kernel
theorem dX7_book_15 : decode cX7_book 15 = .ok (.iconst 2, 1) := by decide +kernel
theorem dX7_book_16 : decode cX7_book 16 = .ok (.invokestatic 51, 3) := by decide +kernel
theorem dX7_book_19 : decode cX7_book 19 = .ok (.ifCond .eq 19, 3) := by decide +kernel
theorem dX7_book_22 : decode cX7_book 22 = .ok (.aload_n 0, 1) := by decide +kernel
theorem dX7_book_23 : decode cX7_book 23 = .ok (.getfield 13, 3) := by decide +kernel
theorem dX7_book_26 : decode cX7_book 26 = .ok (.bipush 24, 2) := by decide +kernel
theorem dX7_book_28 : decode cX7_book 28 = .ok (.iconst 3, 1) := by decide +kernel
theorem dX7_book_29 : decode cX7_book 29 = .ok (.iload_n 1, 1) := by decide +kernel
theorem dX7_book_30 : decode cX7_book 30 = .ok (.imul, 1) := by decide +kernel
theorem dX7_book_31 : decode cX7_book 31 = .ok (.iadd, 1) := by decide +kernel
theorem dX7_book_32 : decode cX7_book 32 = .ok (.iload_n 2, 1) := by decide +kernel
theorem dX7_book_33 : decode cX7_book 33 = .ok (.iadd, 1) := by decide +kernel
theorem dX7_book_34 : decode cX7_book 34 = .ok (.iaload, 1) := by decide +kernel
theorem dX7_book_35 : decode cX7_book 35 = .ok (.goto 4, 3) := by decide +kernel
theorem dX7_book_38 : decode cX7_book 38 = .ok (.iconst (-1), 1) := by decide +kernel
theorem dX7_book_39 : decode cX7_book 39 = .ok (.ireturn, 1) := by decide +kernel
theorem dX7_plan_0 : decode cX7_plan 0 = .ok (.aload_n 0, 1) := by decide +kernel
theorem dX7_plan_1 : decode cX7_plan 1 = .ok (.iconst 0, 1) := by decide +kernel
theorem dX7_plan_2 : decode cX7_plan 2 = .ok (.putfield 47, 3) := by decide +kernel
theorem dX7_plan_5 : decode cX7_plan 5 = .ok (.iload_n 1, 1) := by decide +kernel
theorem dX7_plan_6 : decode cX7_plan 6 = .ok (.iconst 0, 1) := by decide +kernel
theorem dX7_plan_7 : decode cX7_plan 7 = .ok (.iconst 3, 1) := by decide +kernel
theorem dX7_plan_8 : decode cX7_plan 8 = .ok (.invokestatic 51, 3) := by decide +kernel
theorem dX7_plan_11 : decode cX7_plan 11 = .ok (.ifCond .eq 15, 3) := by decide +kernel
theorem dX7_plan_14 : decode cX7_plan 14 = .ok (.aload_n 0, 1) := by decide +kernel
theorem dX7_plan_15 : decode cX7_plan 15 = .ok (.getfield 13, 3) := by decide +kernel
theorem dX7_plan_18 : decode cX7_plan 18 = .ok (.bipush 36, 2) := by decide +kernel
theorem dX7_plan_20 : decode cX7_plan 20 = .ok (.iload_n 1, 1) := by decide +kernel
theorem dX7_plan_21 : decode cX7_plan 21 = .ok (.iadd, 1) := by decide +kernel
theorem dX7_plan_22 : decode cX7_plan 22 = .ok (.iaload, 1) := by decide +kernel
theorem dX7_plan_23 : decode cX7_plan 23 = .ok (.goto 4, 3) := by decide +kernel
theorem dX7_plan_26 : decode cX7_plan 26 = .ok (.iconst (-1), 1) := by decide +kernel
theorem dX7_plan_27 : decode cX7_plan 27 = .ok (.ireturn, 1) := by decide +kernel
theorem dX7_tune_0 : decode cX7_tune 0 = .ok (.aload_n 0, 1) := by decide +kernel
theorem dX7_tune_1 : decode cX7_tune 1 = .ok (.iconst 0, 1) := by decide +kernel
theorem dX7_tune_2 : decode cX7_tune 2 = .ok (.putfield 47, 3) := by decide +kernel
theorem dX7_tune_5 : decode cX7_tune 5 = .ok (.iload_n 1, 1) := by decide +kernel
theorem dX7_tune_6 : decode cX7_tune 6 = .ok (.ifCond .ne 8, 3) := by decide +kernel
theorem dX7_tune_9 : decode cX7_tune 9 = .ok (.bipush 99, 2) := by decide +kernel
theorem dX7_tune_11 : decode cX7_tune 11 = .ok (.goto 20, 3) := by decide +kernel
theorem dX7_tune_14 : decode cX7_tune 14 = .ok (.iload_n 1, 1) := by decide +kernel
theorem dX7_tune_15 : decode cX7_tune 15 = .ok (.iconst 2, 1) := by decide +kernel
theorem dX7_tune_16 : decode cX7_tune 16 = .ok (.if_icmp .eq 8, 3) := by decide +kernel
theorem dX7_tune_19 : decode cX7_tune 19 = .ok (.iload_n 1, 1) := by decide +kernel
theorem dX7_tune_20 : decode cX7_tune 20 = .ok (.iconst 4, 1) := by decide +kernel
theorem dX7_tune_21 : decode cX7_tune 21 = .ok (.if_icmp .ne 8, 3) := by decide +kernel
theorem dX7_tune_24 : decode cX7_tune 24 = .ok (.bipush 20, 2) := by decide +kernel
theorem dX7_tune_26 : decode cX7_tune 26 = .ok (.goto 5, 3) := by decide +kernel
theorem dX7_tune_29 : decode cX7_tune 29 = .ok (.bipush 9, 2) := by decide +kernel
theorem dX7_tune_31 : decode cX7_tune 31 = .ok (.istore_n 3, 1) := by decide +kernel
theorem dX7_tune_32 : decode cX7_tune 32 = .ok (.iload_n 1, 1) := by decide +kernel
theorem dX7_tune_33 : decode cX7_tune 33 = .ok (.iconst 0, 1) := by decide +kernel
theorem dX7_tune_34 : decode cX7_tune 34 = .ok (.iconst 5, 1) := by decide +kernel
theorem dX7_tune_35 : decode cX7_tune 35 = .ok (.invokestatic 51, 3) := by decide +kernel
theorem dX7_tune_38 : decode cX7_tune 38 = .ok (.ifCond .eq 12, 3) := by decide +kernel
theorem dX7_tune_41 : decode cX7_tune 41 = .ok (.iload_n 2, 1) := by decide +kernel
theorem dX7_tune_42 : decode cX7_tune 42 = .ok (.iconst 0, 1) := by decide +kernel
theorem dX7_tune_43 : decode cX7_tune 43 = .ok (.iload_n 3, 1) := by decide +kernel
theorem dX7_tune_44 : decode cX7_tune 44 = .ok (.invokestatic 51, 3) := by decide +kernel
theorem dX7_tune_47 : decode cX7_tune 47 = .ok (.ifCond .ne 5, 3) := by decide +kernel
theorem dX7_tune_50 : decode cX7_tune 50 = .ok (.iconst (-1), 1) := by decide +kernel
theorem dX7_tune_51 : decode cX7_tune 51 = .ok (.ireturn, 1) := by decide +kernel
theorem dX7_tune_52 : decode cX7_tune 52 = .ok (.aload_n 0, 1) := by decide +kernel
theorem dX7_tune_53 : decode cX7_tune 53 = .ok (.getfield 16, 3) := by decide +kernel
theorem dX7_tune_56 : decode cX7_tune 56 = .ok (.iload_n 1, 1) := by decide +kernel
theorem dX7_tune_57 : decode cX7_tune 57 = .ok (.iaload, 1) := by decide +kernel
theorem dX7_tune_58 : decode cX7_tune 58 = .ok (.istore 4, 2) := by decide +kernel
theorem dX7_tune_60 : decode cX7_tune 60 = .ok (.aload_n 0, 1) := by decide +kernel
theorem dX7_tune_61 : decode cX7_tune 61 = .ok (.getfield 16, 3) := by decide +kernel
theorem dX7_tune_64 : decode cX7_tune 64 = .ok (.iload_n 1, 1) := by decide +kernel
theorem dX7_tune_65 : decode cX7_tune 65 = .ok (.iload_n 2, 1) := by decide +kernel
theorem dX7_tune_66 : decode cX7_tune 66 = .ok (.iastore, 1) := by decide +kernel
theorem dX7_tune_67 : decode cX7_tune 67 = .ok (.iload 4, 2) := by decide +kernel
theorem dX7_tune_69 : decode cX7_tune 69 = .ok (.ireturn, 1) := by decide +kernel
theorem dX7_givenOf_0 : decode cX7_givenOf 0 = .ok (.aload_n 0, 1) := by decide +kernel
theorem dX7_givenOf_1 : decode cX7_givenOf 1 = .ok (.getfield 13, 3) := by decide +kernel
theorem dX7_givenOf_4 : decode cX7_givenOf 4 = .ok (.bipush 24, 2) := by decide +kernel
theorem dX7_givenOf_6 : decode cX7_givenOf 6 = .ok (.iconst 3, 1) := by decide +kernel
theorem dX7_givenOf_7 : decode cX7_givenOf 7 = .ok (.iload_n 1, 1) := by decide +kernel
theorem dX7_givenOf_8 : decode cX7_givenOf 8 = .ok (.imul, 1) := by decide +kernel
theorem dX7_givenOf_9 : decode cX7_givenOf 9 = .ok (.iadd, 1) := by decide +kernel
theorem dX7_givenOf_10 : decode cX7_givenOf 10 = .ok (.iconst 2, 1) := by decide +kernel
theorem dX7_givenOf_11 : decode cX7_givenOf 11 = .ok (.iadd, 1) := by decide +kernel
theorem dX7_givenOf_12 : decode cX7_givenOf 12 = .ok (.iaload, 1) := by decide +kernel
theorem dX7_givenOf_13 : decode cX7_givenOf 13 = .ok (.istore_n 3, 1) := by decide +kernel
theorem dX7_givenOf_14 : decode cX7_givenOf 14 = .ok (.aload_n 0, 1) := by decide +kernel
theorem dX7_givenOf_15 : decode cX7_givenOf 15 = .ok (.getfield 13, 3) := by decide +kernel
theorem dX7_givenOf_18 : decode cX7_givenOf 18 = .ok (.bipush 37, 2) := by decide +kernel
theorem dX7_givenOf_20 : decode cX7_givenOf 20 = .ok (.iaload, 1) := by decide +kernel
theorem dX7_givenOf_21 : decode cX7_givenOf 21 = .ok (.aload_n 0, 1) := by decide +kernel
theorem dX7_givenOf_22 : decode cX7_givenOf 22 = .ok (.getfield 13, 3) := by decide +kernel
theorem dX7_givenOf_25 : decode cX7_givenOf 25 = .ok (.bipush 39, 2) := by decide +kernel
theorem dX7_givenOf_27 : decode cX7_givenOf 27 = .ok (.iaload, 1) := by decide +kernel
theorem dX7_givenOf_28 : decode cX7_givenOf 28 = .ok (.iadd, 1) := by decide +kernel
theorem dX7_givenOf_29 : decode cX7_givenOf 29 = .ok (.istore 4, 2) := by decide +kernel
theorem dX7_givenOf_31 : decode cX7_givenOf 31 = .ok (.aload_n 0, 1) := by decide +kernel
theorem dX7_givenOf_32 : decode cX7_givenOf 32 = .ok (.getfield 126, 3) := by decide +kernel
theorem dX7_givenOf_35 : decode cX7_givenOf 35 = .ok (.ifCond .ne 20, 3) := by decide +kernel
theorem dX7_givenOf_38 : decode cX7_givenOf 38 = .ok (.iload_n 2, 1) := by decide +kernel
theorem dX7_givenOf_39 : decode cX7_givenOf 39 = .ok (.aload_n 0, 1) := by decide +kernel
theorem dX7_givenOf_40 : decode cX7_givenOf 40 = .ok (.getfield 13, 3) := by decide +kernel
theorem dX7_givenOf_43 : decode cX7_givenOf 43 = .ok (.bipush 36, 2) := by decide +kernel
theorem dX7_givenOf_45 : decode cX7_givenOf 45 = .ok (.iaload, 1) := by decide +kernel
theorem dX7_givenOf_46 : decode cX7_givenOf 46 = .ok (.if_icmp .lt 9, 3) := by decide +kernel
theorem dX7_givenOf_49 : decode cX7_givenOf 49 = .ok (.iload_n 2, 1) := by decide +kernel
theorem dX7_givenOf_50 : decode cX7_givenOf 50 = .ok (.iload 4, 2) := by decide +kernel
theorem dX7_givenOf_52 : decode cX7_givenOf 52 = .ok (.if_icmp .lt 5, 3) := by decide +kernel
theorem dX7_givenOf_55 : decode cX7_givenOf 55 = .ok (.iconst 0, 1) := by decide +kernel
theorem dX7_givenOf_56 : decode cX7_givenOf 56 = .ok (.ireturn, 1) := by decide +kernel
theorem dX7_givenOf_57 : decode cX7_givenOf 57 = .ok (.iload_n 2, 1) := by decide +kernel
theorem dX7_givenOf_58 : decode cX7_givenOf 58 = .ok (.aload_n 0, 1) := by decide +kernel
theorem dX7_givenOf_59 : decode cX7_givenOf 59 = .ok (.getfield 13, 3) := by decide +kernel
theorem dX7_givenOf_62 : decode cX7_givenOf 62 = .ok (.bipush 37, 2) := by decide +kernel
theorem dX7_givenOf_64 : decode cX7_givenOf 64 = .ok (.iaload, 1) := by decide +kernel
theorem dX7_givenOf_65 : decode cX7_givenOf 65 = .ok (.if_icmp .ge 7, 3) := by decide +kernel
theorem dX7_givenOf_68 : decode cX7_givenOf 68 = .ok (.iload_n 3, 1) := by decide +kernel
theorem dX7_givenOf_69 : decode cX7_givenOf 69 = .ok (.goto 19, 3) := by decide +kernel
theorem dX7_givenOf_72 : decode cX7_givenOf 72 = .ok (.iload_n 3, 1) := by decide +kernel
theorem dX7_givenOf_73 : decode cX7_givenOf 73 = .ok (.iload 4, 2) := by decide +kernel
theorem dX7_givenOf_75 : decode cX7_givenOf 75 = .ok (.iload_n 2, 1) := by decide +kernel
theorem dX7_givenOf_76 : decode cX7_givenOf 76 = .ok (.isub, 1) := by decide +kernel
theorem dX7_givenOf_77 : decode cX7_givenOf 77 = .ok (.imul, 1) := by decide +kernel
theorem dX7_givenOf_78 : decode cX7_givenOf 78 = .ok (.aload_n 0, 1) := by decide +kernel
theorem dX7_givenOf_79 : decode cX7_givenOf 79 = .ok (.getfield 13, 3) := by decide +kernel
theorem dX7_givenOf_82 : decode cX7_givenOf 82 = .ok (.bipush 39, 2) := by decide +kernel
theorem dX7_givenOf_84 : decode cX7_givenOf 84 = .ok (.iaload, 1) := by decide +kernel
theorem dX7_givenOf_85 : decode cX7_givenOf 85 = .ok (.iconst 1, 1) := by decide +kernel
theorem dX7_givenOf_86 : decode cX7_givenOf 86 = .ok (.iadd, 1) := by decide +kernel
theorem dX7_givenOf_87 : decode cX7_givenOf 87 = .ok (.idiv, 1) := by decide +kernel
theorem dX7_givenOf_88 : decode cX7_givenOf 88 = .ok (.ireturn, 1) := by decide +kernel
theorem dX7_given_0 : decode cX7_given 0 = .ok (.aload_n 0, 1) := by decide +kernel
theorem dX7_given_1 : decode cX7_given 1 = .ok (.iconst 0, 1) := by decide +kernel
theorem dX7_given_2 : decode cX7_given 2 = .ok (.putfield 47, 3) := by decide +kernel
theorem dX7_given_5 : decode cX7_given 5 = .ok (.aload_n 0, 1) := by decide +kernel
theorem dX7_given_6 : decode cX7_given 6 = .ok (.iload_n 1, 1) := by decide +kernel
theorem dX7_given_7 : decode cX7_given 7 = .ok (.invokevirtual 123, 3) := by decide +kernel
theorem dX7_given_10 : decode cX7_given 10 = .ok (.ifCond .eq 19, 3) := by decide +kernel
theorem dX7_given_13 : decode cX7_given 13 = .ok (.iload_n 2, 1) := by decide +kernel
theorem dX7_given_14 : decode cX7_given 14 = .ok (.invokestatic 130, 3) := by decide +kernel
theorem dX7_given_17 : decode cX7_given 17 = .ok (.ifCond .eq 12, 3) := by decide +kernel
theorem dX7_given_20 : decode cX7_given 20 = .ok (.aload_n 0, 1) := by decide +kernel
theorem dX7_given_21 : decode cX7_given 21 = .ok (.iload_n 1, 1) := by decide +kernel
theorem dX7_given_22 : decode cX7_given 22 = .ok (.iload_n 2, 1) := by decide +kernel
theorem dX7_given_23 : decode cX7_given 23 = .ok (.invokevirtual 133, 3) := by decide +kernel
theorem dX7_given_26 : decode cX7_given 26 = .ok (.goto 4, 3) := by decide +kernel
theorem dX7_given_29 : decode cX7_given 29 = .ok (.iconst (-1), 1) := by decide +kernel
theorem dX7_given_30 : decode cX7_given 30 = .ok (.ireturn, 1) := by decide +kernel
theorem dX7_pagesOf_0 : decode cX7_pagesOf 0 = .ok (.bipush 6, 2) := by decide +kernel
theorem dX7_pagesOf_2 : decode cX7_pagesOf 2 = .ok (.aload_n 0, 1) := by decide +kernel
theorem dX7_pagesOf_3 : decode cX7_pagesOf 3 = .ok (.getfield 13, 3) := by decide +kernel
theorem dX7_pagesOf_6 : decode cX7_pagesOf 6 = .ok (.iconst 3, 1) := by decide +kernel
theorem dX7_pagesOf_7 : decode cX7_pagesOf 7 = .ok (.iload_n 1, 1) := by decide +kernel
theorem dX7_pagesOf_8 : decode cX7_pagesOf 8 = .ok (.imul, 1) := by decide +kernel
theorem dX7_pagesOf_9 : decode cX7_pagesOf 9 = .ok (.iconst 1, 1) := by decide +kernel
theorem dX7_pagesOf_10 : decode cX7_pagesOf 10 = .ok (.iadd, 1) := by decide +kernel
theorem dX7_pagesOf_11 : decode cX7_pagesOf 11 = .ok (.iaload, 1) := by decide +kernel
theorem dX7_pagesOf_12 : decode cX7_pagesOf 12 = .ok (.imul, 1) := by decide +kernel
theorem dX7_pagesOf_13 : decode cX7_pagesOf 13 = .ok (.aload_n 0, 1) := by decide +kernel
theorem dX7_pagesOf_14 : decode cX7_pagesOf 14 = .ok (.getfield 13, 3) := by decide +kernel
theorem dX7_pagesOf_17 : decode cX7_pagesOf 17 = .ok (.bipush 24, 2) := by decide +kernel
theorem dX7_pagesOf_19 : decode cX7_pagesOf 19 = .ok (.iconst 3, 1) := by decide +kernel
theorem dX7_pagesOf_20 : decode cX7_pagesOf 20 = .ok (.iload_n 2, 1) := by decide +kernel
theorem dX7_pagesOf_21 : decode cX7_pagesOf 21 = .ok (.imul, 1) := by decide +kernel
theorem dX7_pagesOf_22 : decode cX7_pagesOf 22 = .ok (.iadd, 1) := by decide +kernel
theorem dX7_pagesOf_23 : decode cX7_pagesOf 23 = .ok (.iaload, 1) := by decide +kernel
theorem dX7_pagesOf_24 : decode cX7_pagesOf 24 = .ok (.idiv, 1) := by decide +kernel
theorem dX7_pagesOf_25 : decode cX7_pagesOf 25 = .ok (.ireturn, 1) := by decide +kernel
theorem dX7_joysOf_0 : decode cX7_joysOf 0 = .ok (.aload_n 0, 1) := by decide +kernel
theorem dX7_joysOf_1 : decode cX7_joysOf 1 = .ok (.getfield 13, 3) := by decide +kernel
theorem dX7_joysOf_4 : decode cX7_joysOf 4 = .ok (.bipush 24, 2) := by decide +kernel
theorem dX7_joysOf_6 : decode cX7_joysOf 6 = .ok (.iconst 3, 1) := by decide +kernel
theorem dX7_joysOf_7 : decode cX7_joysOf 7 = .ok (.iload_n 3, 1) := by decide +kernel
theorem dX7_joysOf_8 : decode cX7_joysOf 8 = .ok (.imul, 1) := by decide +kernel
theorem dX7_joysOf_9 : decode cX7_joysOf 9 = .ok (.iadd, 1) := by decide +kernel
theorem dX7_joysOf_10 : decode cX7_joysOf 10 = .ok (.iconst 1, 1) := by decide +kernel
theorem dX7_joysOf_11 : decode cX7_joysOf 11 = .ok (.iadd, 1) := by decide +kernel
theorem dX7_joysOf_12 : decode cX7_joysOf 12 = .ok (.iaload, 1) := by decide +kernel
theorem dX7_joysOf_13 : decode cX7_joysOf 13 = .ok (.aload_n 1, 1) := by decide +kernel
theorem dX7_joysOf_14 : decode cX7_joysOf 14 = .ok (.iconst 3, 1) := by decide +kernel
theorem dX7_joysOf_15 : decode cX7_joysOf 15 = .ok (.iconst 3, 1) := by decide +kernel
theorem dX7_joysOf_16 : decode cX7_joysOf 16 = .ok (.iload_n 2, 1) := by decide +kernel
theorem dX7_joysOf_17 : decode cX7_joysOf 17 = .ok (.imul, 1) := by decide +kernel
theorem dX7_joysOf_18 : decode cX7_joysOf 18 = .ok (.iadd, 1) := by decide +kernel
theorem dX7_joysOf_19 : decode cX7_joysOf 19 = .ok (.iaload, 1) := by decide +kernel
theorem dX7_joysOf_20 : decode cX7_joysOf 20 = .ok (.imul, 1) := by decide +kernel
theorem dX7_joysOf_21 : decode cX7_joysOf 21 = .ok (.bipush 10, 2) := by decide +kernel
theorem dX7_joysOf_23 : decode cX7_joysOf 23 = .ok (.idiv, 1) := by decide +kernel
theorem dX7_joysOf_24 : decode cX7_joysOf 24 = .ok (.ireturn, 1) := by decide +kernel
theorem dX7_starsOf_0 : decode cX7_starsOf 0 = .ok (.aload_n 0, 1) := by decide +kernel
theorem dX7_starsOf_1 : decode cX7_starsOf 1 = .ok (.iload_n 2, 1) := by decide +kernel
theorem dX7_starsOf_2 : decode cX7_starsOf 2 = .ok (.iload_n 3, 1) := by decide +kernel
theorem dX7_starsOf_3 : decode cX7_starsOf 3 = .ok (.invokevirtual 136, 3) := by decide +kernel
theorem dX7_starsOf_6 : decode cX7_starsOf 6 = .ok (.aload_n 0, 1) := by decide +kernel
theorem dX7_starsOf_7 : decode cX7_starsOf 7 = .ok (.iload_n 3, 1) := by decide +kernel
theorem dX7_starsOf_8 : decode cX7_starsOf 8 = .ok (.iload 4, 2) := by decide +kernel
theorem dX7_starsOf_10 : decode cX7_starsOf 10 = .ok (.invokevirtual 133, 3) := by decide +kernel
theorem dX7_starsOf_13 : decode cX7_starsOf 13 = .ok (.imul, 1) := by decide +kernel
theorem dX7_starsOf_14 : decode cX7_starsOf 14 = .ok (.aload_n 0, 1) := by decide +kernel
theorem dX7_starsOf_15 : decode cX7_starsOf 15 = .ok (.getfield 13, 3) := by decide +kernel
theorem dX7_starsOf_18 : decode cX7_starsOf 18 = .ok (.iconst 3, 1) := by decide +kernel
theorem dX7_starsOf_19 : decode cX7_starsOf 19 = .ok (.iload_n 2, 1) := by decide +kernel
theorem dX7_starsOf_20 : decode cX7_starsOf 20 = .ok (.imul, 1) := by decide +kernel
theorem dX7_starsOf_21 : decode cX7_starsOf 21 = .ok (.iconst 2, 1) := by decide +kernel
theorem dX7_starsOf_22 : decode cX7_starsOf 22 = .ok (.iadd, 1) := by decide +kernel
theorem dX7_starsOf_23 : decode cX7_starsOf 23 = .ok (.iaload, 1) := by decide +kernel
theorem dX7_starsOf_24 : decode cX7_starsOf 24 = .ok (.imul, 1) := by decide +kernel
theorem dX7_starsOf_25 : decode cX7_starsOf 25 = .ok (.aload_n 1, 1) := by decide +kernel
theorem dX7_starsOf_26 : decode cX7_starsOf 26 = .ok (.iconst 1, 1) := by decide +kernel
theorem dX7_starsOf_27 : decode cX7_starsOf 27 = .ok (.iaload, 1) := by decide +kernel
theorem dX7_starsOf_28 : decode cX7_starsOf 28 = .ok (.imul, 1) := by decide +kernel
theorem dX7_starsOf_29 : decode cX7_starsOf 29 = .ok (.bipush 100, 2) := by decide +kernel
theorem dX7_starsOf_31 : decode cX7_starsOf 31 = .ok (.idiv, 1) := by decide +kernel
theorem dX7_starsOf_32 : decode cX7_starsOf 32 = .ok (.ireturn, 1) := by decide +kernel
theorem dX7_wantOf_0 : decode cX7_wantOf 0 = .ok (.aload_n 0, 1) := by decide +kernel
theorem dX7_wantOf_1 : decode cX7_wantOf 1 = .ok (.aload_n 1, 1) := by decide +kernel
theorem dX7_wantOf_2 : decode cX7_wantOf 2 = .ok (.iload_n 2, 1) := by decide +kernel
theorem dX7_wantOf_3 : decode cX7_wantOf 3 = .ok (.iload_n 3, 1) := by decide +kernel
theorem dX7_wantOf_4 : decode cX7_wantOf 4 = .ok (.invokevirtual 139, 3) := by decide +kernel
theorem dX7_wantOf_7 : decode cX7_wantOf 7 = .ok (.aload_n 0, 1) := by decide +kernel
theorem dX7_wantOf_8 : decode cX7_wantOf 8 = .ok (.getfield 13, 3) := by decide +kernel
theorem dX7_wantOf_11 : decode cX7_wantOf 11 = .ok (.bipush 38, 2) := by decide +kernel
theorem dX7_wantOf_13 : decode cX7_wantOf 13 = .ok (.iaload, 1) := by decide +kernel
theorem dX7_wantOf_14 : decode cX7_wantOf 14 = .ok (.iconst 1, 1) := by decide +kernel
theorem dX7_wantOf_15 : decode cX7_wantOf 15 = .ok (.if_icmp .ne 15, 3) := by decide +kernel
theorem dX7_wantOf_18 : decode cX7_wantOf 18 = .ok (.aload_n 0, 1) := by decide +kernel
theorem dX7_wantOf_19 : decode cX7_wantOf 19 = .ok (.aload_n 1, 1) := by decide +kernel
theorem dX7_wantOf_20 : decode cX7_wantOf 20 = .ok (.iload_n 2, 1) := by decide +kernel
theorem dX7_wantOf_21 : decode cX7_wantOf 21 = .ok (.iload_n 3, 1) := by decide +kernel
theorem dX7_wantOf_22 : decode cX7_wantOf 22 = .ok (.iload 4, 2) := by decide +kernel
theorem dX7_wantOf_24 : decode cX7_wantOf 24 = .ok (.invokevirtual 143, 3) := by decide +kernel
theorem dX7_wantOf_27 : decode cX7_wantOf 27 = .ok (.goto 4, 3) := by decide +kernel
theorem dX7_wantOf_30 : decode cX7_wantOf 30 = .ok (.iconst 0, 1) := by decide +kernel
theorem dX7_wantOf_31 : decode cX7_wantOf 31 = .ok (.iadd, 1) := by decide +kernel
theorem dX7_wantOf_32 : decode cX7_wantOf 32 = .ok (.ireturn, 1) := by decide +kernel
theorem dX7_choiceOf_0 : decode cX7_choiceOf 0 = .ok (.bipush (-9), 2) := by decide +kernel
theorem dX7_choiceOf_2 : decode cX7_choiceOf 2 = .ok (.istore 4, 2) := by decide +kernel
theorem dX7_choiceOf_4 : decode cX7_choiceOf 4 = .ok (.aload_n 0, 1) := by decide +kernel
theorem dX7_choiceOf_5 : decode cX7_choiceOf 5 = .ok (.getfield 16, 3) := by decide +kernel
theorem dX7_choiceOf_8 : decode cX7_choiceOf 8 = .ok (.iconst 0, 1) := by decide +kernel
theorem dX7_choiceOf_9 : decode cX7_choiceOf 9 = .ok (.iaload, 1) := by decide +kernel
theorem dX7_choiceOf_10 : decode cX7_choiceOf 10 = .ok (.iconst 1, 1) := by decide +kernel
theorem dX7_choiceOf_11 : decode cX7_choiceOf 11 = .ok (.isub, 1) := by decide +kernel
theorem dX7_choiceOf_12 : decode cX7_choiceOf 12 = .ok (.istore 5, 2) := by decide +kernel
theorem dX7_choiceOf_14 : decode cX7_choiceOf 14 = .ok (.iconst 0, 1) := by decide +kernel
theorem dX7_choiceOf_15 : decode cX7_choiceOf 15 = .ok (.istore 6, 2) := by decide +kernel
theorem dX7_choiceOf_17 : decode cX7_choiceOf 17 = .ok (.iload 6, 2) := by decide +kernel
theorem dX7_choiceOf_19 : decode cX7_choiceOf 19 = .ok (.aload_n 0, 1) := by decide +kernel
theorem dX7_choiceOf_20 : decode cX7_choiceOf 20 = .ok (.getfield 13, 3) := by decide +kernel
theorem dX7_choiceOf_23 : decode cX7_choiceOf 23 = .ok (.bipush 41, 2) := by decide +kernel
theorem dX7_choiceOf_25 : decode cX7_choiceOf 25 = .ok (.iaload, 1) := by decide +kernel
theorem dX7_choiceOf_26 : decode cX7_choiceOf 26 = .ok (.if_icmp .ge 52, 3) := by decide +kernel
theorem dX7_choiceOf_29 : decode cX7_choiceOf 29 = .ok (.aload_n 0, 1) := by decide +kernel
theorem dX7_choiceOf_30 : decode cX7_choiceOf 30 = .ok (.aload_n 1, 1) := by decide +kernel
theorem dX7_choiceOf_31 : decode cX7_choiceOf 31 = .ok (.iload_n 2, 1) := by decide +kernel
theorem dX7_choiceOf_32 : decode cX7_choiceOf 32 = .ok (.iload 6, 2) := by decide +kernel
theorem dX7_choiceOf_34 : decode cX7_choiceOf 34 = .ok (.iload_n 3, 1) := by decide +kernel
theorem dX7_choiceOf_35 : decode cX7_choiceOf 35 = .ok (.invokevirtual 147, 3) := by decide +kernel
theorem dX7_choiceOf_38 : decode cX7_choiceOf 38 = .ok (.istore 7, 2) := by decide +kernel
theorem dX7_choiceOf_40 : decode cX7_choiceOf 40 = .ok (.iload 7, 2) := by decide +kernel
theorem dX7_choiceOf_42 : decode cX7_choiceOf 42 = .ok (.iload 5, 2) := by decide +kernel
theorem dX7_choiceOf_44 : decode cX7_choiceOf 44 = .ok (.if_icmp .le 8, 3) := by decide +kernel
theorem dX7_choiceOf_47 : decode cX7_choiceOf 47 = .ok (.iload 6, 2) := by decide +kernel
theorem dX7_choiceOf_49 : decode cX7_choiceOf 49 = .ok (.goto 5, 3) := by decide +kernel
theorem dX7_choiceOf_52 : decode cX7_choiceOf 52 = .ok (.iload 4, 2) := by decide +kernel
theorem dX7_choiceOf_54 : decode cX7_choiceOf 54 = .ok (.istore 4, 2) := by decide +kernel
theorem dX7_choiceOf_56 : decode cX7_choiceOf 56 = .ok (.iload 7, 2) := by decide +kernel
theorem dX7_choiceOf_58 : decode cX7_choiceOf 58 = .ok (.iload 5, 2) := by decide +kernel
theorem dX7_choiceOf_60 : decode cX7_choiceOf 60 = .ok (.if_icmp .le 8, 3) := by decide +kernel
theorem dX7_choiceOf_63 : decode cX7_choiceOf 63 = .ok (.iload 7, 2) := by decide +kernel
theorem dX7_choiceOf_65 : decode cX7_choiceOf 65 = .ok (.goto 5, 3) := by decide +kernel
theorem dX7_choiceOf_68 : decode cX7_choiceOf 68 = .ok (.iload 5, 2) := by decide +kernel
theorem dX7_choiceOf_70 : decode cX7_choiceOf 70 = .ok (.istore 5, 2) := by decide +kernel
theorem dX7_choiceOf_72 : decode cX7_choiceOf 72 = .ok (.iinc 6 1, 3) := by decide +kernel
theorem dX7_choiceOf_75 : decode cX7_choiceOf 75 = .ok (.goto (-58), 3) := by decide +kernel
theorem dX7_choiceOf_78 : decode cX7_choiceOf 78 = .ok (.iload 4, 2) := by decide +kernel
theorem dX7_choiceOf_80 : decode cX7_choiceOf 80 = .ok (.ireturn, 1) := by decide +kernel
theorem dX7_want_0 : decode cX7_want 0 = .ok (.aload_n 0, 1) := by decide +kernel
theorem dX7_want_1 : decode cX7_want 1 = .ok (.iconst 0, 1) := by decide +kernel
theorem dX7_want_2 : decode cX7_want 2 = .ok (.putfield 47, 3) := by decide +kernel
theorem dX7_want_5 : decode cX7_want 5 = .ok (.aload_n 0, 1) := by decide +kernel
theorem dX7_want_6 : decode cX7_want 6 = .ok (.iload_n 1, 1) := by decide +kernel
theorem dX7_want_7 : decode cX7_want 7 = .ok (.invokevirtual 120, 3) := by decide +kernel
theorem dX7_want_10 : decode cX7_want 10 = .ok (.ifCond .eq 20, 3) := by decide +kernel
theorem dX7_want_13 : decode cX7_want 13 = .ok (.aload_n 0, 1) := by decide +kernel
theorem dX7_want_14 : decode cX7_want 14 = .ok (.iload_n 2, 1) := by decide +kernel
theorem dX7_want_15 : decode cX7_want 15 = .ok (.invokevirtual 123, 3) := by decide +kernel
theorem dX7_want_18 : decode cX7_want 18 = .ok (.ifCond .eq 12, 3) := by decide +kernel
theorem dX7_want_21 : decode cX7_want 21 = .ok (.iload_n 3, 1) := by decide +kernel
theorem dX7_want_22 : decode cX7_want 22 = .ok (.iconst 0, 1) := by decide +kernel
theorem dX7_want_23 : decode cX7_want 23 = .ok (.iconst 3, 1) := by decide +kernel
theorem dX7_want_24 : decode cX7_want 24 = .ok (.invokestatic 51, 3) := by decide +kernel
theorem dX7_want_27 : decode cX7_want 27 = .ok (.ifCond .ne 5, 3) := by decide +kernel
theorem dX7_want_30 : decode cX7_want 30 = .ok (.iconst (-1), 1) := by decide +kernel
theorem dX7_want_31 : decode cX7_want 31 = .ok (.ireturn, 1) := by decide +kernel
theorem dX7_want_32 : decode cX7_want 32 = .ok (.iload_n 3, 1) := by decide +kernel
theorem dX7_want_33 : decode cX7_want 33 = .ok (.ifCond .ne 12, 3) := by decide +kernel
theorem dX7_want_36 : decode cX7_want 36 = .ok (.aload_n 0, 1) := by decide +kernel
theorem dX7_want_37 : decode cX7_want 37 = .ok (.iload_n 1, 1) := by decide +kernel
theorem dX7_want_38 : decode cX7_want 38 = .ok (.iload_n 2, 1) := by decide +kernel
theorem dX7_want_39 : decode cX7_want 39 = .ok (.invokevirtual 136, 3) := by decide +kernel
theorem dX7_want_42 : decode cX7_want 42 = .ok (.goto 61, 3) := by decide +kernel
theorem dX7_want_45 : decode cX7_want 45 = .ok (.iload_n 3, 1) := by decide +kernel
theorem dX7_want_46 : decode cX7_want 46 = .ok (.iconst 1, 1) := by decide +kernel
theorem dX7_want_47 : decode cX7_want 47 = .ok (.if_icmp .ne 16, 3) := by decide +kernel
theorem dX7_want_50 : decode cX7_want 50 = .ok (.aload_n 0, 1) := by decide +kernel
theorem dX7_want_51 : decode cX7_want 51 = .ok (.aload_n 0, 1) := by decide +kernel
theorem dX7_want_52 : decode cX7_want 52 = .ok (.getfield 19, 3) := by decide +kernel
theorem dX7_want_55 : decode cX7_want 55 = .ok (.iload_n 1, 1) := by decide +kernel
theorem dX7_want_56 : decode cX7_want 56 = .ok (.iload_n 2, 1) := by decide +kernel
theorem dX7_want_57 : decode cX7_want 57 = .ok (.invokevirtual 139, 3) := by decide +kernel
theorem dX7_want_60 : decode cX7_want 60 = .ok (.goto 43, 3) := by decide +kernel
theorem dX7_want_63 : decode cX7_want 63 = .ok (.iload_n 3, 1) := by decide +kernel
theorem dX7_want_64 : decode cX7_want 64 = .ok (.iconst 2, 1) := by decide +kernel
theorem dX7_want_65 : decode cX7_want 65 = .ok (.if_icmp .ne 22, 3) := by decide +kernel
theorem dX7_want_68 : decode cX7_want 68 = .ok (.aload_n 0, 1) := by decide +kernel
theorem dX7_want_69 : decode cX7_want 69 = .ok (.aload_n 0, 1) := by decide +kernel
theorem dX7_want_70 : decode cX7_want 70 = .ok (.getfield 19, 3) := by decide +kernel
theorem dX7_want_73 : decode cX7_want 73 = .ok (.iload_n 1, 1) := by decide +kernel
theorem dX7_want_74 : decode cX7_want 74 = .ok (.iload_n 2, 1) := by decide +kernel
theorem dX7_want_75 : decode cX7_want 75 = .ok (.aload_n 0, 1) := by decide +kernel
theorem dX7_want_76 : decode cX7_want 76 = .ok (.getfield 19, 3) := by decide +kernel
theorem dX7_want_79 : decode cX7_want 79 = .ok (.iconst 0, 1) := by decide +kernel
theorem dX7_want_80 : decode cX7_want 80 = .ok (.iaload, 1) := by decide +kernel
theorem dX7_want_81 : decode cX7_want 81 = .ok (.invokevirtual 143, 3) := by decide +kernel
theorem dX7_want_84 : decode cX7_want 84 = .ok (.goto 19, 3) := by decide +kernel
theorem dX7_want_87 : decode cX7_want 87 = .ok (.aload_n 0, 1) := by decide +kernel
theorem dX7_want_88 : decode cX7_want 88 = .ok (.aload_n 0, 1) := by decide +kernel
theorem dX7_want_89 : decode cX7_want 89 = .ok (.getfield 19, 3) := by decide +kernel
theorem dX7_want_92 : decode cX7_want 92 = .ok (.iload_n 1, 1) := by decide +kernel
theorem dX7_want_93 : decode cX7_want 93 = .ok (.iload_n 2, 1) := by decide +kernel
theorem dX7_want_94 : decode cX7_want 94 = .ok (.aload_n 0, 1) := by decide +kernel
theorem dX7_want_95 : decode cX7_want 95 = .ok (.getfield 19, 3) := by decide +kernel
theorem dX7_want_98 : decode cX7_want 98 = .ok (.iconst 0, 1) := by decide +kernel
theorem dX7_want_99 : decode cX7_want 99 = .ok (.iaload, 1) := by decide +kernel
theorem dX7_want_100 : decode cX7_want 100 = .ok (.invokevirtual 147, 3) := by decide +kernel
theorem dX7_want_103 : decode cX7_want 103 = .ok (.ireturn, 1) := by decide +kernel
theorem dX7_choice_0 : decode cX7_choice 0 = .ok (.aload_n 0, 1) := by decide +kernel
theorem dX7_choice_1 : decode cX7_choice 1 = .ok (.iconst 0, 1) := by decide +kernel
theorem dX7_choice_2 : decode cX7_choice 2 = .ok (.putfield 47, 3) := by decide +kernel
theorem dX7_choice_5 : decode cX7_choice 5 = .ok (.aload_n 0, 1) := by decide +kernel
theorem dX7_choice_6 : decode cX7_choice 6 = .ok (.iload_n 1, 1) := by decide +kernel
theorem dX7_choice_7 : decode cX7_choice 7 = .ok (.invokevirtual 120, 3) := by decide +kernel
theorem dX7_choice_10 : decode cX7_choice 10 = .ok (.ifCond .eq 21, 3) := by decide +kernel
theorem dX7_choice_13 : decode cX7_choice 13 = .ok (.aload_n 0, 1) := by decide +kernel
theorem dX7_choice_14 : decode cX7_choice 14 = .ok (.aload_n 0, 1) := by decide +kernel
theorem dX7_choice_15 : decode cX7_choice 15 = .ok (.getfield 19, 3) := by decide +kernel
theorem dX7_choice_18 : decode cX7_choice 18 = .ok (.iload_n 1, 1) := by decide +kernel
theorem dX7_choice_19 : decode cX7_choice 19 = .ok (.aload_n 0, 1) := by decide +kernel
theorem dX7_choice_20 : decode cX7_choice 20 = .ok (.getfield 19, 3) := by decide +kernel
theorem dX7_choice_23 : decode cX7_choice 23 = .ok (.iconst 0, 1) := by decide +kernel
theorem dX7_choice_24 : decode cX7_choice 24 = .ok (.iaload, 1) := by decide +kernel
theorem dX7_choice_25 : decode cX7_choice 25 = .ok (.invokevirtual 150, 3) := by decide +kernel
theorem dX7_choice_28 : decode cX7_choice 28 = .ok (.goto 4, 3) := by decide +kernel
theorem dX7_choice_31 : decode cX7_choice 31 = .ok (.iconst (-1), 1) := by decide +kernel
theorem dX7_choice_32 : decode cX7_choice 32 = .ok (.ireturn, 1) := by decide +kernel
theorem dX7_within_0 : decode cX7_within 0 = .ok (.iload_n 0, 1) := by decide +kernel
theorem dX7_within_1 : decode cX7_within 1 = .ok (.ifCond .ge 7, 3) := by decide +kernel
theorem dX7_within_4 : decode cX7_within 4 = .ok (.iconst 0, 1) := by decide +kernel
theorem dX7_within_5 : decode cX7_within 5 = .ok (.goto 15, 3) := by decide +kernel
theorem dX7_within_8 : decode cX7_within 8 = .ok (.iload_n 0, 1) := by decide +kernel
theorem dX7_within_9 : decode cX7_within 9 = .ok (.bipush 100, 2) := by decide +kernel
theorem dX7_within_11 : decode cX7_within 11 = .ok (.if_icmp .le 8, 3) := by decide +kernel
theorem dX7_within_14 : decode cX7_within 14 = .ok (.bipush 100, 2) := by decide +kernel
theorem dX7_within_16 : decode cX7_within 16 = .ok (.goto 4, 3) := by decide +kernel
theorem dX7_within_19 : decode cX7_within 19 = .ok (.iload_n 0, 1) := by decide +kernel
theorem dX7_within_20 : decode cX7_within 20 = .ok (.ireturn, 1) := by decide +kernel
theorem dX7_goesBy_0 : decode cX7_goesBy 0 = .ok (.aload_n 1, 1) := by decide +kernel
theorem dX7_goesBy_1 : decode cX7_goesBy 1 = .ok (.iconst 0, 1) := by decide +kernel
theorem dX7_goesBy_2 : decode cX7_goesBy 2 = .ok (.iaload, 1) := by decide +kernel
theorem dX7_goesBy_3 : decode cX7_goesBy 3 = .ok (.istore_n 2, 1) := by decide +kernel
theorem dX7_goesBy_4 : decode cX7_goesBy 4 = .ok (.iconst 0, 1) := by decide +kernel
theorem dX7_goesBy_5 : decode cX7_goesBy 5 = .ok (.istore_n 3, 1) := by decide +kernel
theorem dX7_goesBy_6 : decode cX7_goesBy 6 = .ok (.iconst 0, 1) := by decide +kernel
theorem dX7_goesBy_7 : decode cX7_goesBy 7 = .ok (.istore 4, 2) := by decide +kernel
theorem dX7_goesBy_9 : decode cX7_goesBy 9 = .ok (.iconst 0, 1) := by decide +kernel
theorem dX7_goesBy_10 : decode cX7_goesBy 10 = .ok (.istore 5, 2) := by decide +kernel
theorem dX7_goesBy_12 : decode cX7_goesBy 12 = .ok (.iload 5, 2) := by decide +kernel
theorem dX7_goesBy_14 : decode cX7_goesBy 14 = .ok (.aload_n 0, 1) := by decide +kernel
theorem dX7_goesBy_15 : decode cX7_goesBy 15 = .ok (.getfield 13, 3) := by decide +kernel
theorem dX7_goesBy_18 : decode cX7_goesBy 18 = .ok (.bipush 40, 2) := by decide +kernel
theorem dX7_goesBy_20 : decode cX7_goesBy 20 = .ok (.iaload, 1) := by decide +kernel
theorem dX7_goesBy_21 : decode cX7_goesBy 21 = .ok (.if_icmp .ge 200, 3) := by decide +kernel
theorem dX7_goesBy_24 : decode cX7_goesBy 24 = .ok (.aload_n 0, 1) := by decide +kernel
theorem dX7_goesBy_25 : decode cX7_goesBy 25 = .ok (.aload_n 1, 1) := by decide +kernel
theorem dX7_goesBy_26 : decode cX7_goesBy 26 = .ok (.iload 5, 2) := by decide +kernel
theorem dX7_goesBy_28 : decode cX7_goesBy 28 = .ok (.iload_n 2, 1) := by decide +kernel
theorem dX7_goesBy_29 : decode cX7_goesBy 29 = .ok (.invokevirtual 150, 3) := by decide +kernel
theorem dX7_goesBy_32 : decode cX7_goesBy 32 = .ok (.istore 6, 2) := by decide +kernel
theorem dX7_goesBy_34 : decode cX7_goesBy 34 = .ok (.iload 6, 2) := by decide +kernel
theorem dX7_goesBy_36 : decode cX7_goesBy 36 = .ok (.bipush (-9), 2) := by decide +kernel
theorem dX7_goesBy_38 : decode cX7_goesBy 38 = .ok (.if_icmp .eq 177, 3) := by decide +kernel
theorem dX7_goesBy_41 : decode cX7_goesBy 41 = .ok (.aload_n 0, 1) := by decide +kernel
theorem dX7_goesBy_42 : decode cX7_goesBy 42 = .ok (.iload 5, 2) := by decide +kernel
theorem dX7_goesBy_44 : decode cX7_goesBy 44 = .ok (.iload 6, 2) := by decide +kernel
theorem dX7_goesBy_46 : decode cX7_goesBy 46 = .ok (.invokevirtual 136, 3) := by decide +kernel
theorem dX7_goesBy_49 : decode cX7_goesBy 49 = .ok (.istore 7, 2) := by decide +kernel
theorem dX7_goesBy_51 : decode cX7_goesBy 51 = .ok (.iload 7, 2) := by decide +kernel
theorem dX7_goesBy_53 : decode cX7_goesBy 53 = .ok (.aload_n 0, 1) := by decide +kernel
theorem dX7_goesBy_54 : decode cX7_goesBy 54 = .ok (.iload 6, 2) := by decide +kernel
theorem dX7_goesBy_56 : decode cX7_goesBy 56 = .ok (.iload_n 2, 1) := by decide +kernel
theorem dX7_goesBy_57 : decode cX7_goesBy 57 = .ok (.invokevirtual 133, 3) := by decide +kernel
theorem dX7_goesBy_60 : decode cX7_goesBy 60 = .ok (.imul, 1) := by decide +kernel
theorem dX7_goesBy_61 : decode cX7_goesBy 61 = .ok (.istore 8, 2) := by decide +kernel
theorem dX7_goesBy_63 : decode cX7_goesBy 63 = .ok (.aload_n 0, 1) := by decide +kernel
theorem dX7_goesBy_64 : decode cX7_goesBy 64 = .ok (.aload_n 1, 1) := by decide +kernel
theorem dX7_goesBy_65 : decode cX7_goesBy 65 = .ok (.iload 5, 2) := by decide +kernel
theorem dX7_goesBy_67 : decode cX7_goesBy 67 = .ok (.iload 6, 2) := by decide +kernel
theorem dX7_goesBy_69 : decode cX7_goesBy 69 = .ok (.iload_n 2, 1) := by decide +kernel
theorem dX7_goesBy_70 : decode cX7_goesBy 70 = .ok (.invokevirtual 143, 3) := by decide +kernel
theorem dX7_goesBy_73 : decode cX7_goesBy 73 = .ok (.istore 9, 2) := by decide +kernel
theorem dX7_goesBy_75 : decode cX7_goesBy 75 = .ok (.iconst 3, 1) := by decide +kernel
theorem dX7_goesBy_76 : decode cX7_goesBy 76 = .ok (.iconst 3, 1) := by decide +kernel
theorem dX7_goesBy_77 : decode cX7_goesBy 77 = .ok (.iload 5, 2) := by decide +kernel
theorem dX7_goesBy_79 : decode cX7_goesBy 79 = .ok (.imul, 1) := by decide +kernel
theorem dX7_goesBy_80 : decode cX7_goesBy 80 = .ok (.iadd, 1) := by decide +kernel
theorem dX7_goesBy_81 : decode cX7_goesBy 81 = .ok (.istore 10, 2) := by decide +kernel
theorem dX7_goesBy_83 : decode cX7_goesBy 83 = .ok (.aload_n 1, 1) := by decide +kernel
theorem dX7_goesBy_84 : decode cX7_goesBy 84 = .ok (.iload 10, 2) := by decide +kernel
theorem dX7_goesBy_86 : decode cX7_goesBy 86 = .ok (.iaload, 1) := by decide +kernel
theorem dX7_goesBy_87 : decode cX7_goesBy 87 = .ok (.iload 7, 2) := by decide +kernel
theorem dX7_goesBy_89 : decode cX7_goesBy 89 = .ok (.ifCond .le 12, 3) := by decide +kernel
theorem dX7_goesBy_92 : decode cX7_goesBy 92 = .ok (.aload_n 0, 1) := by decide +kernel
theorem dX7_goesBy_93 : decode cX7_goesBy 93 = .ok (.getfield 16, 3) := by decide +kernel
theorem dX7_goesBy_96 : decode cX7_goesBy 96 = .ok (.iconst 1, 1) := by decide +kernel
theorem dX7_goesBy_97 : decode cX7_goesBy 97 = .ok (.iaload, 1) := by decide +kernel
theorem dX7_goesBy_98 : decode cX7_goesBy 98 = .ok (.goto 4, 3) := by decide +kernel
theorem dX7_goesBy_101 : decode cX7_goesBy 101 = .ok (.iconst 0, 1) := by decide +kernel
theorem dX7_goesBy_102 : decode cX7_goesBy 102 = .ok (.iadd, 1) := by decide +kernel
theorem dX7_goesBy_103 : decode cX7_goesBy 103 = .ok (.istore 11, 2) := by decide +kernel
theorem dX7_goesBy_105 : decode cX7_goesBy 105 = .ok (.aload_n 0, 1) := by decide +kernel
theorem dX7_goesBy_106 : decode cX7_goesBy 106 = .ok (.getfield 13, 3) := by decide +kernel
theorem dX7_goesBy_109 : decode cX7_goesBy 109 = .ok (.bipush 38, 2) := by decide +kernel
theorem dX7_goesBy_111 : decode cX7_goesBy 111 = .ok (.iaload, 1) := by decide +kernel
theorem dX7_goesBy_112 : decode cX7_goesBy 112 = .ok (.iconst 1, 1) := by decide +kernel
theorem dX7_goesBy_113 : decode cX7_goesBy 113 = .ok (.if_icmp .ne 33, 3) := by decide +kernel
theorem dX7_goesBy_116 : decode cX7_goesBy 116 = .ok (.iload 9, 2) := by decide +kernel
theorem dX7_goesBy_118 : decode cX7_goesBy 118 = .ok (.ifCond .le 28, 3) := by decide +kernel
theorem dX7_goesBy_121 : decode cX7_goesBy 121 = .ok (.iload 11, 2) := by decide +kernel
theorem dX7_goesBy_123 : decode cX7_goesBy 123 = .ok (.aload_n 0, 1) := by decide +kernel
theorem dX7_goesBy_124 : decode cX7_goesBy 124 = .ok (.getfield 16, 3) := by decide +kernel
theorem dX7_goesBy_127 : decode cX7_goesBy 127 = .ok (.iconst 2, 1) := by decide +kernel
theorem dX7_goesBy_128 : decode cX7_goesBy 128 = .ok (.iaload, 1) := by decide +kernel
theorem dX7_goesBy_129 : decode cX7_goesBy 129 = .ok (.iload 9, 2) := by decide +kernel
theorem dX7_goesBy_131 : decode cX7_goesBy 131 = .ok (.imul, 1) := by decide +kernel
theorem dX7_goesBy_132 : decode cX7_goesBy 132 = .ok (.aload_n 0, 1) := by decide +kernel
theorem dX7_goesBy_133 : decode cX7_goesBy 133 = .ok (.aload_n 1, 1) := by decide +kernel
theorem dX7_goesBy_134 : decode cX7_goesBy 134 = .ok (.iload 5, 2) := by decide +kernel
theorem dX7_goesBy_136 : decode cX7_goesBy 136 = .ok (.iload 6, 2) := by decide +kernel
theorem dX7_goesBy_138 : decode cX7_goesBy 138 = .ok (.iload_n 2, 1) := by decide +kernel
theorem dX7_goesBy_139 : decode cX7_goesBy 139 = .ok (.invokevirtual 147, 3) := by decide +kernel
theorem dX7_goesBy_142 : decode cX7_goesBy 142 = .ok (.idiv, 1) := by decide +kernel
theorem dX7_goesBy_143 : decode cX7_goesBy 143 = .ok (.isub, 1) := by decide +kernel
theorem dX7_goesBy_144 : decode cX7_goesBy 144 = .ok (.istore 11, 2) := by decide +kernel
theorem dX7_goesBy_146 : decode cX7_goesBy 146 = .ok (.aload_n 0, 1) := by decide +kernel
theorem dX7_goesBy_147 : decode cX7_goesBy 147 = .ok (.getfield 13, 3) := by decide +kernel
theorem dX7_goesBy_150 : decode cX7_goesBy 150 = .ok (.bipush 38, 2) := by decide +kernel
theorem dX7_goesBy_152 : decode cX7_goesBy 152 = .ok (.iaload, 1) := by decide +kernel
theorem dX7_goesBy_153 : decode cX7_goesBy 153 = .ok (.ifCond .ne 19, 3) := by decide +kernel
theorem dX7_goesBy_156 : decode cX7_goesBy 156 = .ok (.iload 8, 2) := by decide +kernel
theorem dX7_goesBy_158 : decode cX7_goesBy 158 = .ok (.ifCond .le 14, 3) := by decide +kernel
theorem dX7_goesBy_161 : decode cX7_goesBy 161 = .ok (.iload 11, 2) := by decide +kernel
theorem dX7_goesBy_163 : decode cX7_goesBy 163 = .ok (.aload_n 0, 1) := by decide +kernel
theorem dX7_goesBy_164 : decode cX7_goesBy 164 = .ok (.getfield 16, 3) := by decide +kernel
theorem dX7_goesBy_167 : decode cX7_goesBy 167 = .ok (.iconst 3, 1) := by decide +kernel
theorem dX7_goesBy_168 : decode cX7_goesBy 168 = .ok (.iaload, 1) := by decide +kernel
theorem dX7_goesBy_169 : decode cX7_goesBy 169 = .ok (.iadd, 1) := by decide +kernel
theorem dX7_goesBy_170 : decode cX7_goesBy 170 = .ok (.istore 11, 2) := by decide +kernel
theorem dX7_goesBy_172 : decode cX7_goesBy 172 = .ok (.aload_n 1, 1) := by decide +kernel
theorem dX7_goesBy_173 : decode cX7_goesBy 173 = .ok (.iload 10, 2) := by decide +kernel
theorem dX7_goesBy_175 : decode cX7_goesBy 175 = .ok (.iload 11, 2) := by decide +kernel
theorem dX7_goesBy_177 : decode cX7_goesBy 177 = .ok (.invokestatic 153, 3) := by decide +kernel
theorem dX7_goesBy_180 : decode cX7_goesBy 180 = .ok (.iastore, 1) := by decide +kernel
theorem dX7_goesBy_181 : decode cX7_goesBy 181 = .ok (.aload_n 1, 1) := by decide +kernel
theorem dX7_goesBy_182 : decode cX7_goesBy 182 = .ok (.iload 10, 2) := by decide +kernel
theorem dX7_goesBy_184 : decode cX7_goesBy 184 = .ok (.iconst 1, 1) := by decide +kernel
theorem dX7_goesBy_185 : decode cX7_goesBy 185 = .ok (.iadd, 1) := by decide +kernel
theorem dX7_goesBy_186 : decode cX7_goesBy 186 = .ok (.dup2, 1) := by decide +kernel
theorem dX7_goesBy_187 : decode cX7_goesBy 187 = .ok (.iaload, 1) := by decide +kernel
theorem dX7_goesBy_188 : decode cX7_goesBy 188 = .ok (.iload 7, 2) := by decide +kernel
theorem dX7_goesBy_190 : decode cX7_goesBy 190 = .ok (.iadd, 1) := by decide +kernel
theorem dX7_goesBy_191 : decode cX7_goesBy 191 = .ok (.iastore, 1) := by decide +kernel
theorem dX7_goesBy_192 : decode cX7_goesBy 192 = .ok (.aload_n 1, 1) := by decide +kernel
theorem dX7_goesBy_193 : decode cX7_goesBy 193 = .ok (.iload 10, 2) := by decide +kernel
theorem dX7_goesBy_195 : decode cX7_goesBy 195 = .ok (.iconst 2, 1) := by decide +kernel
theorem dX7_goesBy_196 : decode cX7_goesBy 196 = .ok (.iadd, 1) := by decide +kernel
theorem dX7_goesBy_197 : decode cX7_goesBy 197 = .ok (.dup2, 1) := by decide +kernel
theorem dX7_goesBy_198 : decode cX7_goesBy 198 = .ok (.iaload, 1) := by decide +kernel
theorem dX7_goesBy_199 : decode cX7_goesBy 199 = .ok (.iload 8, 2) := by decide +kernel
theorem dX7_goesBy_201 : decode cX7_goesBy 201 = .ok (.iadd, 1) := by decide +kernel
theorem dX7_goesBy_202 : decode cX7_goesBy 202 = .ok (.iastore, 1) := by decide +kernel
theorem dX7_goesBy_203 : decode cX7_goesBy 203 = .ok (.iload 4, 2) := by decide +kernel
theorem dX7_goesBy_205 : decode cX7_goesBy 205 = .ok (.iload 7, 2) := by decide +kernel
theorem dX7_goesBy_207 : decode cX7_goesBy 207 = .ok (.iadd, 1) := by decide +kernel
theorem dX7_goesBy_208 : decode cX7_goesBy 208 = .ok (.istore 4, 2) := by decide +kernel
theorem dX7_goesBy_210 : decode cX7_goesBy 210 = .ok (.iload_n 3, 1) := by decide +kernel
theorem dX7_goesBy_211 : decode cX7_goesBy 211 = .ok (.iload 8, 2) := by decide +kernel
theorem dX7_goesBy_213 : decode cX7_goesBy 213 = .ok (.iadd, 1) := by decide +kernel
theorem dX7_goesBy_214 : decode cX7_goesBy 214 = .ok (.istore_n 3, 1) := by decide +kernel
theorem dX7_goesBy_215 : decode cX7_goesBy 215 = .ok (.iinc 5 1, 3) := by decide +kernel
theorem dX7_goesBy_218 : decode cX7_goesBy 218 = .ok (.goto (-206), 3) := by decide +kernel
theorem dX7_goesBy_221 : decode cX7_goesBy 221 = .ok (.iconst 0, 1) := by decide +kernel
theorem dX7_goesBy_222 : decode cX7_goesBy 222 = .ok (.istore 5, 2) := by decide +kernel
theorem dX7_goesBy_224 : decode cX7_goesBy 224 = .ok (.iconst 0, 1) := by decide +kernel
theorem dX7_goesBy_225 : decode cX7_goesBy 225 = .ok (.istore 6, 2) := by decide +kernel
theorem dX7_goesBy_227 : decode cX7_goesBy 227 = .ok (.iload 6, 2) := by decide +kernel
theorem dX7_goesBy_229 : decode cX7_goesBy 229 = .ok (.aload_n 0, 1) := by decide +kernel
theorem dX7_goesBy_230 : decode cX7_goesBy 230 = .ok (.getfield 13, 3) := by decide +kernel
theorem dX7_goesBy_233 : decode cX7_goesBy 233 = .ok (.bipush 41, 2) := by decide +kernel
theorem dX7_goesBy_235 : decode cX7_goesBy 235 = .ok (.iaload, 1) := by decide +kernel
theorem dX7_goesBy_236 : decode cX7_goesBy 236 = .ok (.if_icmp .ge 29, 3) := by decide +kernel
theorem dX7_goesBy_239 : decode cX7_goesBy 239 = .ok (.iload 5, 2) := by decide +kernel
theorem dX7_goesBy_241 : decode cX7_goesBy 241 = .ok (.aload_n 0, 1) := by decide +kernel
theorem dX7_goesBy_242 : decode cX7_goesBy 242 = .ok (.iload 6, 2) := by decide +kernel
theorem dX7_goesBy_244 : decode cX7_goesBy 244 = .ok (.iload_n 2, 1) := by decide +kernel
theorem dX7_goesBy_245 : decode cX7_goesBy 245 = .ok (.invokevirtual 133, 3) := by decide +kernel
theorem dX7_goesBy_248 : decode cX7_goesBy 248 = .ok (.ifCond .le 7, 3) := by decide +kernel
theorem dX7_goesBy_251 : decode cX7_goesBy 251 = .ok (.iconst 1, 1) := by decide +kernel
theorem dX7_goesBy_252 : decode cX7_goesBy 252 = .ok (.goto 4, 3) := by decide +kernel
theorem dX7_goesBy_255 : decode cX7_goesBy 255 = .ok (.iconst 0, 1) := by decide +kernel
theorem dX7_goesBy_256 : decode cX7_goesBy 256 = .ok (.ior, 1) := by decide +kernel
theorem dX7_goesBy_257 : decode cX7_goesBy 257 = .ok (.istore 5, 2) := by decide +kernel
theorem dX7_goesBy_259 : decode cX7_goesBy 259 = .ok (.iinc 6 1, 3) := by decide +kernel
theorem dX7_goesBy_262 : decode cX7_goesBy 262 = .ok (.goto (-35), 3) := by decide +kernel
theorem dX7_goesBy_265 : decode cX7_goesBy 265 = .ok (.aload_n 0, 1) := by decide +kernel
theorem dX7_goesBy_266 : decode cX7_goesBy 266 = .ok (.getfield 13, 3) := by decide +kernel
theorem dX7_goesBy_269 : decode cX7_goesBy 269 = .ok (.bipush 40, 2) := by decide +kernel
theorem dX7_goesBy_271 : decode cX7_goesBy 271 = .ok (.iaload, 1) := by decide +kernel
theorem dX7_goesBy_272 : decode cX7_goesBy 272 = .ok (.ifCond .ne 7, 3) := by decide +kernel
theorem dX7_goesBy_275 : decode cX7_goesBy 275 = .ok (.iconst 0, 1) := by decide +kernel
theorem dX7_goesBy_276 : decode cX7_goesBy 276 = .ok (.goto 22, 3) := by decide +kernel
theorem dX7_goesBy_279 : decode cX7_goesBy 279 = .ok (.aload_n 0, 1) := by decide +kernel
theorem dX7_goesBy_280 : decode cX7_goesBy 280 = .ok (.getfield 16, 3) := by decide +kernel
theorem dX7_goesBy_283 : decode cX7_goesBy 283 = .ok (.iconst 4, 1) := by decide +kernel
theorem dX7_goesBy_284 : decode cX7_goesBy 284 = .ok (.iaload, 1) := by decide +kernel
theorem dX7_goesBy_285 : decode cX7_goesBy 285 = .ok (.iload_n 3, 1) := by decide +kernel
theorem dX7_goesBy_286 : decode cX7_goesBy 286 = .ok (.imul, 1) := by decide +kernel
theorem dX7_goesBy_287 : decode cX7_goesBy 287 = .ok (.bipush 10, 2) := by decide +kernel
theorem dX7_goesBy_289 : decode cX7_goesBy 289 = .ok (.aload_n 0, 1) := by decide +kernel
theorem dX7_goesBy_290 : decode cX7_goesBy 290 = .ok (.getfield 13, 3) := by decide +kernel
theorem dX7_goesBy_293 : decode cX7_goesBy 293 = .ok (.bipush 40, 2) := by decide +kernel
theorem dX7_goesBy_295 : decode cX7_goesBy 295 = .ok (.iaload, 1) := by decide +kernel
theorem dX7_goesBy_296 : decode cX7_goesBy 296 = .ok (.imul, 1) := by decide +kernel
theorem dX7_goesBy_297 : decode cX7_goesBy 297 = .ok (.idiv, 1) := by decide +kernel
theorem dX7_goesBy_298 : decode cX7_goesBy 298 = .ok (.istore 6, 2) := by decide +kernel
theorem dX7_goesBy_300 : decode cX7_goesBy 300 = .ok (.aload_n 1, 1) := by decide +kernel
theorem dX7_goesBy_301 : decode cX7_goesBy 301 = .ok (.iconst 1, 1) := by decide +kernel
theorem dX7_goesBy_302 : decode cX7_goesBy 302 = .ok (.aload_n 1, 1) := by decide +kernel
theorem dX7_goesBy_303 : decode cX7_goesBy 303 = .ok (.iconst 1, 1) := by decide +kernel
theorem dX7_goesBy_304 : decode cX7_goesBy 304 = .ok (.iaload, 1) := by decide +kernel
theorem dX7_goesBy_305 : decode cX7_goesBy 305 = .ok (.iload 6, 2) := by decide +kernel
theorem dX7_goesBy_307 : decode cX7_goesBy 307 = .ok (.isub, 1) := by decide +kernel
theorem dX7_goesBy_308 : decode cX7_goesBy 308 = .ok (.iload 5, 2) := by decide +kernel
theorem dX7_goesBy_310 : decode cX7_goesBy 310 = .ok (.ifCond .eq 7, 3) := by decide +kernel
theorem dX7_goesBy_313 : decode cX7_goesBy 313 = .ok (.iconst 0, 1) := by decide +kernel
theorem dX7_goesBy_314 : decode cX7_goesBy 314 = .ok (.goto 9, 3) := by decide +kernel
theorem dX7_goesBy_317 : decode cX7_goesBy 317 = .ok (.aload_n 0, 1) := by decide +kernel
theorem dX7_goesBy_318 : decode cX7_goesBy 318 = .ok (.getfield 16, 3) := by decide +kernel
theorem dX7_goesBy_321 : decode cX7_goesBy 321 = .ok (.iconst 5, 1) := by decide +kernel
theorem dX7_goesBy_322 : decode cX7_goesBy 322 = .ok (.iaload, 1) := by decide +kernel
theorem dX7_goesBy_323 : decode cX7_goesBy 323 = .ok (.iadd, 1) := by decide +kernel
theorem dX7_goesBy_324 : decode cX7_goesBy 324 = .ok (.invokestatic 153, 3) := by decide +kernel
theorem dX7_goesBy_327 : decode cX7_goesBy 327 = .ok (.iastore, 1) := by decide +kernel
theorem dX7_goesBy_328 : decode cX7_goesBy 328 = .ok (.aload_n 1, 1) := by decide +kernel
theorem dX7_goesBy_329 : decode cX7_goesBy 329 = .ok (.iconst 0, 1) := by decide +kernel
theorem dX7_goesBy_330 : decode cX7_goesBy 330 = .ok (.dup2, 1) := by decide +kernel
theorem dX7_goesBy_331 : decode cX7_goesBy 331 = .ok (.iaload, 1) := by decide +kernel
theorem dX7_goesBy_332 : decode cX7_goesBy 332 = .ok (.iconst 1, 1) := by decide +kernel
theorem dX7_goesBy_333 : decode cX7_goesBy 333 = .ok (.iadd, 1) := by decide +kernel
theorem dX7_goesBy_334 : decode cX7_goesBy 334 = .ok (.iastore, 1) := by decide +kernel
theorem dX7_goesBy_335 : decode cX7_goesBy 335 = .ok (.iload 4, 2) := by decide +kernel
theorem dX7_goesBy_337 : decode cX7_goesBy 337 = .ok (.ireturn, 1) := by decide +kernel
theorem dX7_go_0 : decode cX7_go 0 = .ok (.aload_n 0, 1) := by decide +kernel
theorem dX7_go_1 : decode cX7_go 1 = .ok (.iconst 0, 1) := by decide +kernel
theorem dX7_go_2 : decode cX7_go 2 = .ok (.putfield 47, 3) := by decide +kernel
theorem dX7_go_5 : decode cX7_go 5 = .ok (.iload_n 1, 1) := by decide +kernel
theorem dX7_go_6 : decode cX7_go 6 = .ok (.iconst 1, 1) := by decide +kernel
theorem dX7_go_7 : decode cX7_go 7 = .ok (.bipush 99, 2) := by decide +kernel
theorem dX7_go_9 : decode cX7_go 9 = .ok (.invokestatic 51, 3) := by decide +kernel
theorem dX7_go_12 : decode cX7_go 12 = .ok (.ifCond .ne 5, 3) := by decide +kernel
theorem dX7_go_15 : decode cX7_go 15 = .ok (.iconst (-1), 1) := by decide +kernel
theorem dX7_go_16 : decode cX7_go 16 = .ok (.ireturn, 1) := by decide +kernel
theorem dX7_go_17 : decode cX7_go 17 = .ok (.aload_n 0, 1) := by decide +kernel
theorem dX7_go_18 : decode cX7_go 18 = .ok (.getfield 19, 3) := by decide +kernel
theorem dX7_go_21 : decode cX7_go 21 = .ok (.iconst 0, 1) := by decide +kernel
theorem dX7_go_22 : decode cX7_go 22 = .ok (.iaload, 1) := by decide +kernel
theorem dX7_go_23 : decode cX7_go 23 = .ok (.bipush 99, 2) := by decide +kernel
theorem dX7_go_25 : decode cX7_go 25 = .ok (.if_icmp .ne 6, 3) := by decide +kernel
theorem dX7_go_28 : decode cX7_go 28 = .ok (.bipush (-2), 2) := by decide +kernel
theorem dX7_go_30 : decode cX7_go 30 = .ok (.ireturn, 1) := by decide +kernel
theorem dX7_go_31 : decode cX7_go 31 = .ok (.iconst 0, 1) := by decide +kernel
theorem dX7_go_32 : decode cX7_go 32 = .ok (.istore_n 2, 1) := by decide +kernel
theorem dX7_go_33 : decode cX7_go 33 = .ok (.iload_n 2, 1) := by decide +kernel
theorem dX7_go_34 : decode cX7_go 34 = .ok (.iload_n 1, 1) := by decide +kernel
theorem dX7_go_35 : decode cX7_go 35 = .ok (.if_icmp .ge 29, 3) := by decide +kernel
theorem dX7_go_38 : decode cX7_go 38 = .ok (.aload_n 0, 1) := by decide +kernel
theorem dX7_go_39 : decode cX7_go 39 = .ok (.getfield 19, 3) := by decide +kernel
theorem dX7_go_42 : decode cX7_go 42 = .ok (.iconst 0, 1) := by decide +kernel
theorem dX7_go_43 : decode cX7_go 43 = .ok (.iaload, 1) := by decide +kernel
theorem dX7_go_44 : decode cX7_go 44 = .ok (.bipush 99, 2) := by decide +kernel
theorem dX7_go_46 : decode cX7_go 46 = .ok (.if_icmp .ge 18, 3) := by decide +kernel
theorem dX7_go_49 : decode cX7_go 49 = .ok (.aload_n 0, 1) := by decide +kernel
theorem dX7_go_50 : decode cX7_go 50 = .ok (.aload_n 0, 1) := by decide +kernel
theorem dX7_go_51 : decode cX7_go 51 = .ok (.getfield 19, 3) := by decide +kernel
theorem dX7_go_54 : decode cX7_go 54 = .ok (.invokevirtual 156, 3) := by decide +kernel
theorem dX7_go_57 : decode cX7_go 57 = .ok (.pop, 1) := by decide +kernel
theorem dX7_go_58 : decode cX7_go 58 = .ok (.iinc 2 1, 3) := by decide +kernel
theorem dX7_go_61 : decode cX7_go 61 = .ok (.goto (-28), 3) := by decide +kernel
theorem dX7_go_64 : decode cX7_go 64 = .ok (.iload_n 2, 1) := by decide +kernel
theorem dX7_go_65 : decode cX7_go 65 = .ok (.ireturn, 1) := by decide +kernel
theorem dX7_allOf_0 : decode cX7_allOf 0 = .ok (.iconst 0, 1) := by decide +kernel
theorem dX7_allOf_1 : decode cX7_allOf 1 = .ok (.istore_n 3, 1) := by decide +kernel
theorem dX7_allOf_2 : decode cX7_allOf 2 = .ok (.iconst 0, 1) := by decide +kernel
theorem dX7_allOf_3 : decode cX7_allOf 3 = .ok (.istore 4, 2) := by decide +kernel
theorem dX7_allOf_5 : decode cX7_allOf 5 = .ok (.iload 4, 2) := by decide +kernel
theorem dX7_allOf_7 : decode cX7_allOf 7 = .ok (.aload_n 0, 1) := by decide +kernel
theorem dX7_allOf_8 : decode cX7_allOf 8 = .ok (.getfield 13, 3) := by decide +kernel
theorem dX7_allOf_11 : decode cX7_allOf 11 = .ok (.bipush 40, 2) := by decide +kernel
theorem dX7_allOf_13 : decode cX7_allOf 13 = .ok (.iaload, 1) := by decide +kernel
theorem dX7_allOf_14 : decode cX7_allOf 14 = .ok (.if_icmp .ge 22, 3) := by decide +kernel
theorem dX7_allOf_17 : decode cX7_allOf 17 = .ok (.iload_n 3, 1) := by decide +kernel
theorem dX7_allOf_18 : decode cX7_allOf 18 = .ok (.aload_n 1, 1) := by decide +kernel
theorem dX7_allOf_19 : decode cX7_allOf 19 = .ok (.iconst 3, 1) := by decide +kernel
theorem dX7_allOf_20 : decode cX7_allOf 20 = .ok (.iconst 3, 1) := by decide +kernel
theorem dX7_allOf_21 : decode cX7_allOf 21 = .ok (.iload 4, 2) := by decide +kernel
theorem dX7_allOf_23 : decode cX7_allOf 23 = .ok (.imul, 1) := by decide +kernel
theorem dX7_allOf_24 : decode cX7_allOf 24 = .ok (.iadd, 1) := by decide +kernel
theorem dX7_allOf_25 : decode cX7_allOf 25 = .ok (.iload_n 2, 1) := by decide +kernel
theorem dX7_allOf_26 : decode cX7_allOf 26 = .ok (.iadd, 1) := by decide +kernel
theorem dX7_allOf_27 : decode cX7_allOf 27 = .ok (.iaload, 1) := by decide +kernel
theorem dX7_allOf_28 : decode cX7_allOf 28 = .ok (.iadd, 1) := by decide +kernel
theorem dX7_allOf_29 : decode cX7_allOf 29 = .ok (.istore_n 3, 1) := by decide +kernel
theorem dX7_allOf_30 : decode cX7_allOf 30 = .ok (.iinc 4 1, 3) := by decide +kernel
theorem dX7_allOf_33 : decode cX7_allOf 33 = .ok (.goto (-28), 3) := by decide +kernel
theorem dX7_allOf_36 : decode cX7_allOf 36 = .ok (.iload_n 3, 1) := by decide +kernel
theorem dX7_allOf_37 : decode cX7_allOf 37 = .ok (.ireturn, 1) := by decide +kernel
theorem dX7_now_0 : decode cX7_now 0 = .ok (.aload_n 0, 1) := by decide +kernel
theorem dX7_now_1 : decode cX7_now 1 = .ok (.iconst 0, 1) := by decide +kernel
theorem dX7_now_2 : decode cX7_now 2 = .ok (.putfield 47, 3) := by decide +kernel
theorem dX7_now_5 : decode cX7_now 5 = .ok (.iload_n 1, 1) := by decide +kernel
theorem dX7_now_6 : decode cX7_now 6 = .ok (.iconst 0, 1) := by decide +kernel
theorem dX7_now_7 : decode cX7_now 7 = .ok (.iconst 4, 1) := by decide +kernel
theorem dX7_now_8 : decode cX7_now 8 = .ok (.invokestatic 51, 3) := by decide +kernel
theorem dX7_now_11 : decode cX7_now 11 = .ok (.ifCond .ne 7, 3) := by decide +kernel
theorem dX7_now_14 : decode cX7_now 14 = .ok (.iconst (-1), 1) := by decide +kernel
theorem dX7_now_15 : decode cX7_now 15 = .ok (.goto 28, 3) := by decide +kernel
theorem dX7_now_18 : decode cX7_now 18 = .ok (.iload_n 1, 1) := by decide +kernel
theorem dX7_now_19 : decode cX7_now 19 = .ok (.iconst 2, 1) := by decide +kernel
theorem dX7_now_20 : decode cX7_now 20 = .ok (.if_icmp .ge 12, 3) := by decide +kernel
theorem dX7_now_23 : decode cX7_now 23 = .ok (.aload_n 0, 1) := by decide +kernel
theorem dX7_now_24 : decode cX7_now 24 = .ok (.getfield 19, 3) := by decide +kernel
theorem dX7_now_27 : decode cX7_now 27 = .ok (.iload_n 1, 1) := by decide +kernel
theorem dX7_now_28 : decode cX7_now 28 = .ok (.iaload, 1) := by decide +kernel
theorem dX7_now_29 : decode cX7_now 29 = .ok (.goto 14, 3) := by decide +kernel
theorem dX7_now_32 : decode cX7_now 32 = .ok (.aload_n 0, 1) := by decide +kernel
theorem dX7_now_33 : decode cX7_now 33 = .ok (.aload_n 0, 1) := by decide +kernel
theorem dX7_now_34 : decode cX7_now 34 = .ok (.getfield 19, 3) := by decide +kernel
theorem dX7_now_37 : decode cX7_now 37 = .ok (.iload_n 1, 1) := by decide +kernel
theorem dX7_now_38 : decode cX7_now 38 = .ok (.iconst 2, 1) := by decide +kernel
theorem dX7_now_39 : decode cX7_now 39 = .ok (.isub, 1) := by decide +kernel
theorem dX7_now_40 : decode cX7_now 40 = .ok (.invokevirtual 160, 3) := by decide +kernel
theorem dX7_now_43 : decode cX7_now 43 = .ok (.ireturn, 1) := by decide +kernel
theorem dX7_anew_0 : decode cX7_anew 0 = .ok (.aload_n 0, 1) := by decide +kernel
theorem dX7_anew_1 : decode cX7_anew 1 = .ok (.iconst 0, 1) := by decide +kernel
theorem dX7_anew_2 : decode cX7_anew 2 = .ok (.putfield 47, 3) := by decide +kernel
theorem dX7_anew_5 : decode cX7_anew 5 = .ok (.aload_n 0, 1) := by decide +kernel
theorem dX7_anew_6 : decode cX7_anew 6 = .ok (.getfield 19, 3) := by decide +kernel
theorem dX7_anew_9 : decode cX7_anew 9 = .ok (.iconst 0, 1) := by decide +kernel
theorem dX7_anew_10 : decode cX7_anew 10 = .ok (.iaload, 1) := by decide +kernel
theorem dX7_anew_11 : decode cX7_anew 11 = .ok (.istore_n 1, 1) := by decide +kernel
theorem dX7_anew_12 : decode cX7_anew 12 = .ok (.aload_n 0, 1) := by decide +kernel
theorem dX7_anew_13 : decode cX7_anew 13 = .ok (.aload_n 0, 1) := by decide +kernel
theorem dX7_anew_14 : decode cX7_anew 14 = .ok (.getfield 19, 3) := by decide +kernel
theorem dX7_anew_17 : decode cX7_anew 17 = .ok (.invokevirtual 116, 3) := by decide +kernel
theorem dX7_anew_20 : decode cX7_anew 20 = .ok (.iload_n 1, 1) := by decide +kernel
theorem dX7_anew_21 : decode cX7_anew 21 = .ok (.ireturn, 1) := by decide +kernel
theorem dX7_pagesBy_0 : decode cX7_pagesBy 0 = .ok (.aload_n 0, 1) := by decide +kernel
theorem dX7_pagesBy_1 : decode cX7_pagesBy 1 = .ok (.aload_n 0, 1) := by decide +kernel
theorem dX7_pagesBy_2 : decode cX7_pagesBy 2 = .ok (.getfield 29, 3) := by decide +kernel
theorem dX7_pagesBy_5 : decode cX7_pagesBy 5 = .ok (.invokevirtual 116, 3) := by decide +kernel
theorem dX7_pagesBy_8 : decode cX7_pagesBy 8 = .ok (.iconst 0, 1) := by decide +kernel
theorem dX7_pagesBy_9 : decode cX7_pagesBy 9 = .ok (.istore_n 3, 1) := by decide +kernel
theorem dX7_pagesBy_10 : decode cX7_pagesBy 10 = .ok (.aload_n 0, 1) := by decide +kernel
theorem dX7_pagesBy_11 : decode cX7_pagesBy 11 = .ok (.getfield 29, 3) := by decide +kernel
theorem dX7_pagesBy_14 : decode cX7_pagesBy 14 = .ok (.iconst 0, 1) := by decide +kernel
theorem dX7_pagesBy_15 : decode cX7_pagesBy 15 = .ok (.iaload, 1) := by decide +kernel
theorem dX7_pagesBy_16 : decode cX7_pagesBy 16 = .ok (.iload_n 2, 1) := by decide +kernel
theorem dX7_pagesBy_17 : decode cX7_pagesBy 17 = .ok (.if_icmp .ge 50, 3) := by decide +kernel
theorem dX7_pagesBy_20 : decode cX7_pagesBy 20 = .ok (.aload_n 0, 1) := by decide +kernel
theorem dX7_pagesBy_21 : decode cX7_pagesBy 21 = .ok (.getfield 29, 3) := by decide +kernel
theorem dX7_pagesBy_24 : decode cX7_pagesBy 24 = .ok (.iconst 0, 1) := by decide +kernel
theorem dX7_pagesBy_25 : decode cX7_pagesBy 25 = .ok (.iaload, 1) := by decide +kernel
theorem dX7_pagesBy_26 : decode cX7_pagesBy 26 = .ok (.bipush 99, 2) := by decide +kernel
theorem dX7_pagesBy_28 : decode cX7_pagesBy 28 = .ok (.if_icmp .ge 39, 3) := by decide +kernel
theorem dX7_pagesBy_31 : decode cX7_pagesBy 31 = .ok (.aload_n 0, 1) := by decide +kernel
theorem dX7_pagesBy_32 : decode cX7_pagesBy 32 = .ok (.getfield 29, 3) := by decide +kernel
theorem dX7_pagesBy_35 : decode cX7_pagesBy 35 = .ok (.iconst 0, 1) := by decide +kernel
theorem dX7_pagesBy_36 : decode cX7_pagesBy 36 = .ok (.iaload, 1) := by decide +kernel
theorem dX7_pagesBy_37 : decode cX7_pagesBy 37 = .ok (.istore 4, 2) := by decide +kernel
theorem dX7_pagesBy_39 : decode cX7_pagesBy 39 = .ok (.aload_n 0, 1) := by decide +kernel
theorem dX7_pagesBy_40 : decode cX7_pagesBy 40 = .ok (.aload_n 0, 1) := by decide +kernel
theorem dX7_pagesBy_41 : decode cX7_pagesBy 41 = .ok (.getfield 29, 3) := by decide +kernel
theorem dX7_pagesBy_44 : decode cX7_pagesBy 44 = .ok (.invokevirtual 156, 3) := by decide +kernel
theorem dX7_pagesBy_47 : decode cX7_pagesBy 47 = .ok (.istore 5, 2) := by decide +kernel
theorem dX7_pagesBy_49 : decode cX7_pagesBy 49 = .ok (.iload_n 3, 1) := by decide +kernel
theorem dX7_pagesBy_50 : decode cX7_pagesBy 50 = .ok (.iload 4, 2) := by decide +kernel
theorem dX7_pagesBy_52 : decode cX7_pagesBy 52 = .ok (.iload_n 1, 1) := by decide +kernel
theorem dX7_pagesBy_53 : decode cX7_pagesBy 53 = .ok (.if_icmp .lt 8, 3) := by decide +kernel
theorem dX7_pagesBy_56 : decode cX7_pagesBy 56 = .ok (.iload 5, 2) := by decide +kernel
theorem dX7_pagesBy_58 : decode cX7_pagesBy 58 = .ok (.goto 4, 3) := by decide +kernel
theorem dX7_pagesBy_61 : decode cX7_pagesBy 61 = .ok (.iconst 0, 1) := by decide +kernel
theorem dX7_pagesBy_62 : decode cX7_pagesBy 62 = .ok (.iadd, 1) := by decide +kernel
theorem dX7_pagesBy_63 : decode cX7_pagesBy 63 = .ok (.istore_n 3, 1) := by decide +kernel
theorem dX7_pagesBy_64 : decode cX7_pagesBy 64 = .ok (.goto (-54), 3) := by decide +kernel
theorem dX7_pagesBy_67 : decode cX7_pagesBy 67 = .ok (.iload_n 3, 1) := by decide +kernel
theorem dX7_pagesBy_68 : decode cX7_pagesBy 68 = .ok (.ireturn, 1) := by decide +kernel
theorem dX7_term_0 : decode cX7_term 0 = .ok (.aload_n 0, 1) := by decide +kernel
theorem dX7_term_1 : decode cX7_term 1 = .ok (.iconst 0, 1) := by decide +kernel
theorem dX7_term_2 : decode cX7_term 2 = .ok (.putfield 47, 3) := by decide +kernel
theorem dX7_term_5 : decode cX7_term 5 = .ok (.iload_n 1, 1) := by decide +kernel
theorem dX7_term_6 : decode cX7_term 6 = .ok (.iconst 0, 1) := by decide +kernel
theorem dX7_term_7 : decode cX7_term 7 = .ok (.iconst 2, 1) := by decide +kernel
theorem dX7_term_8 : decode cX7_term 8 = .ok (.invokestatic 51, 3) := by decide +kernel
theorem dX7_term_11 : decode cX7_term 11 = .ok (.ifCond .ne 5, 3) := by decide +kernel
theorem dX7_term_14 : decode cX7_term 14 = .ok (.iconst (-1), 1) := by decide +kernel
theorem dX7_term_15 : decode cX7_term 15 = .ok (.ireturn, 1) := by decide +kernel
theorem dX7_term_16 : decode cX7_term 16 = .ok (.iload_n 1, 1) := by decide +kernel
theorem dX7_term_17 : decode cX7_term 17 = .ok (.ifCond .ne 22, 3) := by decide +kernel
theorem dX7_term_20 : decode cX7_term 20 = .ok (.aload_n 0, 1) := by decide +kernel
theorem dX7_term_21 : decode cX7_term 21 = .ok (.aload_n 0, 1) := by decide +kernel
theorem dX7_term_22 : decode cX7_term 22 = .ok (.getfield 13, 3) := by decide +kernel
theorem dX7_term_25 : decode cX7_term 25 = .ok (.bipush 36, 2) := by decide +kernel
theorem dX7_term_27 : decode cX7_term 27 = .ok (.iaload, 1) := by decide +kernel
theorem dX7_term_28 : decode cX7_term 28 = .ok (.aload_n 0, 1) := by decide +kernel
theorem dX7_term_29 : decode cX7_term 29 = .ok (.getfield 13, 3) := by decide +kernel
theorem dX7_term_32 : decode cX7_term 32 = .ok (.bipush 37, 2) := by decide +kernel
theorem dX7_term_34 : decode cX7_term 34 = .ok (.iaload, 1) := by decide +kernel
theorem dX7_term_35 : decode cX7_term 35 = .ok (.invokevirtual 164, 3) := by decide +kernel
theorem dX7_term_38 : decode cX7_term 38 = .ok (.ireturn, 1) := by decide +kernel
theorem dX7_term_39 : decode cX7_term 39 = .ok (.aload_n 0, 1) := by decide +kernel
theorem dX7_term_40 : decode cX7_term 40 = .ok (.getfield 13, 3) := by decide +kernel
theorem dX7_term_43 : decode cX7_term 43 = .ok (.bipush 37, 2) := by decide +kernel
theorem dX7_term_45 : decode cX7_term 45 = .ok (.iaload, 1) := by decide +kernel
theorem dX7_term_46 : decode cX7_term 46 = .ok (.aload_n 0, 1) := by decide +kernel
theorem dX7_term_47 : decode cX7_term 47 = .ok (.getfield 13, 3) := by decide +kernel
theorem dX7_term_50 : decode cX7_term 50 = .ok (.bipush 39, 2) := by decide +kernel
theorem dX7_term_52 : decode cX7_term 52 = .ok (.iaload, 1) := by decide +kernel
theorem dX7_term_53 : decode cX7_term 53 = .ok (.iadd, 1) := by decide +kernel
theorem dX7_term_54 : decode cX7_term 54 = .ok (.istore_n 2, 1) := by decide +kernel
theorem dX7_term_55 : decode cX7_term 55 = .ok (.aload_n 0, 1) := by decide +kernel
theorem dX7_term_56 : decode cX7_term 56 = .ok (.iload_n 1, 1) := by decide +kernel
theorem dX7_term_57 : decode cX7_term 57 = .ok (.iconst 2, 1) := by decide +kernel
theorem dX7_term_58 : decode cX7_term 58 = .ok (.if_icmp .ne 7, 3) := by decide +kernel
theorem dX7_term_61 : decode cX7_term 61 = .ok (.iconst 1, 1) := by decide +kernel
theorem dX7_term_62 : decode cX7_term 62 = .ok (.goto 4, 3) := by decide +kernel
theorem dX7_term_65 : decode cX7_term 65 = .ok (.iconst 0, 1) := by decide +kernel
theorem dX7_term_66 : decode cX7_term 66 = .ok (.putfield 126, 3) := by decide +kernel
theorem dX7_term_69 : decode cX7_term 69 = .ok (.aload_n 0, 1) := by decide +kernel
theorem dX7_term_70 : decode cX7_term 70 = .ok (.iload_n 2, 1) := by decide +kernel
