theorem dX10_ask_77 : decode cX10_ask 77 = .ok (.iload 10, 2) := by decide +kernel
theorem dX10_ask_79 : decode cX10_ask 79 = .ok (.iload 9, 2) := by decide +kernel
theorem dX10_ask_81 : decode cX10_ask 81 = .ok (.ifCond .ge 7, 3) := by decide +kernel
theorem dX10_ask_84 : decode cX10_ask 84 = .ok (.iconst 1, 1) := by decide +kernel
theorem dX10_ask_85 : decode cX10_ask 85 = .ok (.goto 5, 3) := by decide +kernel
theorem dX10_ask_88 : decode cX10_ask 88 = .ok (.bipush 10, 2) := by decide +kernel
theorem dX10_ask_90 : decode cX10_ask 90 = .ok (.if_icmp .ge 90, 3) := by decide +kernel
theorem dX10_ask_93 : decode cX10_ask 93 = .ok (.iload 9, 2) := by decide +kernel
theorem dX10_ask_95 : decode cX10_ask 95 = .ok (.ifCond .lt 15, 3) := by decide +kernel
theorem dX10_ask_98 : decode cX10_ask 98 = .ok (.aload_n 0, 1) := by decide +kernel
theorem dX10_ask_99 : decode cX10_ask 99 = .ok (.getfield 55, 3) := by decide +kernel
theorem dX10_ask_102 : decode cX10_ask 102 = .ok (.iload 9, 2) := by decide +kernel
theorem dX10_ask_104 : decode cX10_ask 104 = .ok (.invokestatic 47, 3) := by decide +kernel
theorem dX10_ask_107 : decode cX10_ask 107 = .ok (.ifCond .eq 19, 3) := by decide +kernel
theorem dX10_ask_110 : decode cX10_ask 110 = .ok (.aload_n 0, 1) := by decide +kernel
theorem dX10_ask_111 : decode cX10_ask 111 = .ok (.iload_n 1, 1) := by decide +kernel
theorem dX10_ask_112 : decode cX10_ask 112 = .ok (.iload 9, 2) := by decide +kernel
theorem dX10_ask_114 : decode cX10_ask 114 = .ok (.iload 10, 2) := by decide +kernel
theorem dX10_ask_116 : decode cX10_ask 116 = .ok (.invokevirtual 165, 3) := by decide +kernel
theorem dX10_ask_119 : decode cX10_ask 119 = .ok (.ifCond .eq 7, 3) := by decide +kernel
theorem dX10_ask_122 : decode cX10_ask 122 = .ok (.iconst 1, 1) := by decide +kernel
theorem dX10_ask_123 : decode cX10_ask 123 = .ok (.goto 4, 3) := by decide +kernel
theorem dX10_ask_126 : decode cX10_ask 126 = .ok (.iconst 0, 1) := by decide +kernel
theorem dX10_ask_127 : decode cX10_ask 127 = .ok (.istore 11, 2) := by decide +kernel
theorem dX10_ask_129 : decode cX10_ask 129 = .ok (.iload 8, 2) := by decide +kernel
theorem dX10_ask_131 : decode cX10_ask 131 = .ok (.iload 11, 2) := by decide +kernel
theorem dX10_ask_133 : decode cX10_ask 133 = .ok (.ifCond .eq 7, 3) := by decide +kernel
theorem dX10_ask_136 : decode cX10_ask 136 = .ok (.iconst 1, 1) := by decide +kernel
theorem dX10_ask_137 : decode cX10_ask 137 = .ok (.goto 4, 3) := by decide +kernel
theorem dX10_ask_140 : decode cX10_ask 140 = .ok (.iconst 0, 1) := by decide +kernel
theorem dX10_ask_141 : decode cX10_ask 141 = .ok (.iadd, 1) := by decide +kernel
theorem dX10_ask_142 : decode cX10_ask 142 = .ok (.istore 8, 2) := by decide +kernel
theorem dX10_ask_144 : decode cX10_ask 144 = .ok (.iload 7, 2) := by decide +kernel
theorem dX10_ask_146 : decode cX10_ask 146 = .ok (.iload 11, 2) := by decide +kernel
theorem dX10_ask_148 : decode cX10_ask 148 = .ok (.ifCond .eq 22, 3) := by decide +kernel
theorem dX10_ask_151 : decode cX10_ask 151 = .ok (.aload_n 0, 1) := by decide +kernel
theorem dX10_ask_152 : decode cX10_ask 152 = .ok (.iload_n 1, 1) := by decide +kernel
theorem dX10_ask_153 : decode cX10_ask 153 = .ok (.iload 6, 2) := by decide +kernel
theorem dX10_ask_155 : decode cX10_ask 155 = .ok (.iload_n 2, 1) := by decide +kernel
theorem dX10_ask_156 : decode cX10_ask 156 = .ok (.iload 9, 2) := by decide +kernel
theorem dX10_ask_158 : decode cX10_ask 158 = .ok (.iload 10, 2) := by decide +kernel
theorem dX10_ask_160 : decode cX10_ask 160 = .ok (.invokevirtual 161, 3) := by decide +kernel
theorem dX10_ask_163 : decode cX10_ask 163 = .ok (.ifCond .eq 7, 3) := by decide +kernel
theorem dX10_ask_166 : decode cX10_ask 166 = .ok (.iconst 1, 1) := by decide +kernel
theorem dX10_ask_167 : decode cX10_ask 167 = .ok (.goto 4, 3) := by decide +kernel
theorem dX10_ask_170 : decode cX10_ask 170 = .ok (.iconst 0, 1) := by decide +kernel
theorem dX10_ask_171 : decode cX10_ask 171 = .ok (.iadd, 1) := by decide +kernel
theorem dX10_ask_172 : decode cX10_ask 172 = .ok (.istore 7, 2) := by decide +kernel
theorem dX10_ask_174 : decode cX10_ask 174 = .ok (.iinc 10 1, 3) := by decide +kernel
theorem dX10_ask_177 : decode cX10_ask 177 = .ok (.goto (-100), 3) := by decide +kernel
theorem dX10_ask_180 : decode cX10_ask 180 = .ok (.iinc 9 1, 3) := by decide +kernel
theorem dX10_ask_183 : decode cX10_ask 183 = .ok (.goto (-125), 3) := by decide +kernel
theorem dX10_ask_186 : decode cX10_ask 186 = .ok (.iload 7, 2) := by decide +kernel
theorem dX10_ask_188 : decode cX10_ask 188 = .ok (.iload 8, 2) := by decide +kernel
theorem dX10_ask_190 : decode cX10_ask 190 = .ok (.iload 7, 2) := by decide +kernel
theorem dX10_ask_192 : decode cX10_ask 192 = .ok (.isub, 1) := by decide +kernel
theorem dX10_ask_193 : decode cX10_ask 193 = .ok (.if_icmp .le 8, 3) := by decide +kernel
theorem dX10_ask_196 : decode cX10_ask 196 = .ok (.iload 7, 2) := by decide +kernel
theorem dX10_ask_198 : decode cX10_ask 198 = .ok (.goto 8, 3) := by decide +kernel
theorem dX10_ask_201 : decode cX10_ask 201 = .ok (.iload 8, 2) := by decide +kernel
theorem dX10_ask_203 : decode cX10_ask 203 = .ok (.iload 7, 2) := by decide +kernel
theorem dX10_ask_205 : decode cX10_ask 205 = .ok (.isub, 1) := by decide +kernel
theorem dX10_ask_206 : decode cX10_ask 206 = .ok (.istore 9, 2) := by decide +kernel
theorem dX10_ask_208 : decode cX10_ask 208 = .ok (.aload_n 0, 1) := by decide +kernel
theorem dX10_ask_209 : decode cX10_ask 209 = .ok (.getfield 55, 3) := by decide +kernel
theorem dX10_ask_212 : decode cX10_ask 212 = .ok (.iload 6, 2) := by decide +kernel
theorem dX10_ask_214 : decode cX10_ask 214 = .ok (.invokestatic 47, 3) := by decide +kernel
theorem dX10_ask_217 : decode cX10_ask 217 = .ok (.ifCond .eq 19, 3) := by decide +kernel
theorem dX10_ask_220 : decode cX10_ask 220 = .ok (.iload 8, 2) := by decide +kernel
theorem dX10_ask_222 : decode cX10_ask 222 = .ok (.ifCond .le 14, 3) := by decide +kernel
theorem dX10_ask_225 : decode cX10_ask 225 = .ok (.iload 9, 2) := by decide +kernel
theorem dX10_ask_227 : decode cX10_ask 227 = .ok (.iload 5, 2) := by decide +kernel
theorem dX10_ask_229 : decode cX10_ask 229 = .ok (.if_icmp .ge 7, 3) := by decide +kernel
theorem dX10_ask_232 : decode cX10_ask 232 = .ok (.iconst 1, 1) := by decide +kernel
theorem dX10_ask_233 : decode cX10_ask 233 = .ok (.goto 4, 3) := by decide +kernel
theorem dX10_ask_236 : decode cX10_ask 236 = .ok (.iconst 0, 1) := by decide +kernel
theorem dX10_ask_237 : decode cX10_ask 237 = .ok (.istore 10, 2) := by decide +kernel
theorem dX10_ask_239 : decode cX10_ask 239 = .ok (.iload 10, 2) := by decide +kernel
theorem dX10_ask_241 : decode cX10_ask 241 = .ok (.ifCond .eq 8, 3) := by decide +kernel
theorem dX10_ask_244 : decode cX10_ask 244 = .ok (.iload 6, 2) := by decide +kernel
theorem dX10_ask_246 : decode cX10_ask 246 = .ok (.goto 5, 3) := by decide +kernel
theorem dX10_ask_249 : decode cX10_ask 249 = .ok (.iload 4, 2) := by decide +kernel
theorem dX10_ask_251 : decode cX10_ask 251 = .ok (.istore 4, 2) := by decide +kernel
theorem dX10_ask_253 : decode cX10_ask 253 = .ok (.iload 10, 2) := by decide +kernel
theorem dX10_ask_255 : decode cX10_ask 255 = .ok (.ifCond .eq 8, 3) := by decide +kernel
theorem dX10_ask_258 : decode cX10_ask 258 = .ok (.iload 9, 2) := by decide +kernel
theorem dX10_ask_260 : decode cX10_ask 260 = .ok (.goto 5, 3) := by decide +kernel
theorem dX10_ask_263 : decode cX10_ask 263 = .ok (.iload 5, 2) := by decide +kernel
theorem dX10_ask_265 : decode cX10_ask 265 = .ok (.istore 5, 2) := by decide +kernel
theorem dX10_ask_267 : decode cX10_ask 267 = .ok (.iinc 6 1, 3) := by decide +kernel
theorem dX10_ask_270 : decode cX10_ask 270 = .ok (.goto (-228), 3) := by decide +kernel
theorem dX10_ask_273 : decode cX10_ask 273 = .ok (.iload 4, 2) := by decide +kernel
theorem dX10_ask_275 : decode cX10_ask 275 = .ok (.ifCond .lt 7, 3) := by decide +kernel
theorem dX10_ask_278 : decode cX10_ask 278 = .ok (.iload_n 3, 1) := by decide +kernel
theorem dX10_ask_279 : decode cX10_ask 279 = .ok (.ifCond .ne 8, 3) := by decide +kernel
theorem dX10_ask_282 : decode cX10_ask 282 = .ok (.iload 4, 2) := by decide +kernel
theorem dX10_ask_284 : decode cX10_ask 284 = .ok (.goto 5, 3) := by decide +kernel
theorem dX10_ask_287 : decode cX10_ask 287 = .ok (.iload 5, 2) := by decide +kernel
theorem dX10_ask_289 : decode cX10_ask 289 = .ok (.ireturn, 1) := by decide +kernel
set_option maxRecDepth 20000 in
theorem ggX10_bees_X10_in : GoodIn wsX10_bees wsX10_in := goodIn_r _ [11] (by decide +kernel) (by decide +kernel)
set_option maxRecDepth 20000 in
theorem gX10_bees_X10_in : GoodIn wsX10_bees (va_wsS RX10 43 yX10_in wsX10_in) := goodIn_app (goodIn_of _ (by decide +kernel)) ggX10_bees_X10_in
set_option maxRecDepth 20000 in
theorem ggX10_bees_X10_asNow : GoodIn wsX10_bees wsX10_asNow := goodIn_r _ [15, 2, 16, 17, 5, 25, 26, 27, 28, 29, 30, 31, 32, 33, 34, 35, 36, 37, 38, 39, 40, 41, 42, 43] (by decide +kernel) (by decide +kernel)
set_option maxRecDepth 20000 in
theorem gX10_bees_X10_asNow : GoodIn wsX10_bees (wsV RX10 83 RX10 yX10_asNow wsX10_asNow) := goodIn_app (goodIn_of _ (by decide +kernel)) ggX10_bees_X10_asNow
set_option maxRecDepth 20000 in
theorem ggX10_bees_X10_first : GoodIn wsX10_bees wsX10_first := goodIn_r _ [21, 16, 17, 22, 23, 10, 24, 25, 26, 27, 28, 29, 30, 31, 32, 33, 34, 35, 36, 37, 38, 39, 40, 41, 42, 43] (by decide +kernel) (by decide +kernel)
set_option maxRecDepth 20000 in
theorem gX10_bees_X10_first : GoodIn wsX10_bees (wsV RX10 124 RX10 yX10_first wsX10_first) := goodIn_app (goodIn_of _ (by decide +kernel)) ggX10_bees_X10_first
set_option maxRecDepth 20000 in
theorem ggX10_bees_X10_has : GoodIn wsX10_bees wsX10_has := goodIn_r _ [24] (by decide +kernel) (by decide +kernel)
set_option maxRecDepth 20000 in
theorem gX10_bees_X10_has : GoodIn wsX10_bees (va_wsS RX10 47 yX10_has wsX10_has) := goodIn_app (goodIn_of _ (by decide +kernel)) ggX10_bees_X10_has
theorem dX10_bees_0 : decode cX10_bees 0 = .ok (.iload_n 1, 1) := by decide +kernel
theorem dX10_bees_1 : decode cX10_bees 1 = .ok (.iconst 0, 1) := by decide +kernel
theorem dX10_bees_2 : decode cX10_bees 2 = .ok (.bipush 10, 2) := by decide +kernel
theorem dX10_bees_4 : decode cX10_bees 4 = .ok (.invokestatic 43, 3) := by decide +kernel
theorem dX10_bees_7 : decode cX10_bees 7 = .ok (.ifCond .eq 32, 3) := by decide +kernel
theorem dX10_bees_10 : decode cX10_bees 10 = .ok (.iload_n 2, 1) := by decide +kernel
theorem dX10_bees_11 : decode cX10_bees 11 = .ok (.iconst 0, 1) := by decide +kernel
theorem dX10_bees_12 : decode cX10_bees 12 = .ok (.bipush 10, 2) := by decide +kernel
theorem dX10_bees_14 : decode cX10_bees 14 = .ok (.invokestatic 43, 3) := by decide +kernel
theorem dX10_bees_17 : decode cX10_bees 17 = .ok (.ifCond .eq 22, 3) := by decide +kernel
theorem dX10_bees_20 : decode cX10_bees 20 = .ok (.iload_n 3, 1) := by decide +kernel
theorem dX10_bees_21 : decode cX10_bees 21 = .ok (.iconst 0, 1) := by decide +kernel
theorem dX10_bees_22 : decode cX10_bees 22 = .ok (.iconst 1, 1) := by decide +kernel
theorem dX10_bees_23 : decode cX10_bees 23 = .ok (.invokestatic 43, 3) := by decide +kernel
theorem dX10_bees_26 : decode cX10_bees 26 = .ok (.ifCond .eq 13, 3) := by decide +kernel
theorem dX10_bees_29 : decode cX10_bees 29 = .ok (.iload 4, 2) := by decide +kernel
theorem dX10_bees_31 : decode cX10_bees 31 = .ok (.iconst 0, 1) := by decide +kernel
theorem dX10_bees_32 : decode cX10_bees 32 = .ok (.iconst 1, 1) := by decide +kernel
theorem dX10_bees_33 : decode cX10_bees 33 = .ok (.invokestatic 43, 3) := by decide +kernel
theorem dX10_bees_36 : decode cX10_bees 36 = .ok (.ifCond .ne 7, 3) := by decide +kernel
theorem dX10_bees_39 : decode cX10_bees 39 = .ok (.ldc2_w 168, 3) := by decide +kernel
theorem dX10_bees_42 : decode cX10_bees 42 = .ok (.lreturn, 1) := by decide +kernel
theorem dX10_bees_43 : decode cX10_bees 43 = .ok (.aload_n 0, 1) := by decide +kernel
theorem dX10_bees_44 : decode cX10_bees 44 = .ok (.getfield 55, 3) := by decide +kernel
theorem dX10_bees_47 : decode cX10_bees 47 = .ok (.ifCond .ne 7, 3) := by decide +kernel
theorem dX10_bees_50 : decode cX10_bees 50 = .ok (.ldc2_w 170, 3) := by decide +kernel
theorem dX10_bees_53 : decode cX10_bees 53 = .ok (.lreturn, 1) := by decide +kernel
theorem dX10_bees_54 : decode cX10_bees 54 = .ok (.aload_n 0, 1) := by decide +kernel
theorem dX10_bees_55 : decode cX10_bees 55 = .ok (.invokevirtual 83, 3) := by decide +kernel
theorem dX10_bees_58 : decode cX10_bees 58 = .ok (.aload_n 0, 1) := by decide +kernel
theorem dX10_bees_59 : decode cX10_bees 59 = .ok (.invokevirtual 124, 3) := by decide +kernel
theorem dX10_bees_62 : decode cX10_bees 62 = .ok (.istore 5, 2) := by decide +kernel
theorem dX10_bees_64 : decode cX10_bees 64 = .ok (.lconst 0, 1) := by decide +kernel
theorem dX10_bees_65 : decode cX10_bees 65 = .ok (.lstore 6, 2) := by decide +kernel
theorem dX10_bees_67 : decode cX10_bees 67 = .ok (.lconst 1, 1) := by decide +kernel
theorem dX10_bees_68 : decode cX10_bees 68 = .ok (.lstore 8, 2) := by decide +kernel
theorem dX10_bees_70 : decode cX10_bees 70 = .ok (.iconst 0, 1) := by decide +kernel
theorem dX10_bees_71 : decode cX10_bees 71 = .ok (.istore 10, 2) := by decide +kernel
theorem dX10_bees_73 : decode cX10_bees 73 = .ok (.iload 10, 2) := by decide +kernel
theorem dX10_bees_75 : decode cX10_bees 75 = .ok (.iload_n 1, 1) := by decide +kernel
theorem dX10_bees_76 : decode cX10_bees 76 = .ok (.if_icmp .ge 17, 3) := by decide +kernel
theorem dX10_bees_79 : decode cX10_bees 79 = .ok (.lload 8, 2) := by decide +kernel
theorem dX10_bees_81 : decode cX10_bees 81 = .ok (.ldc2_w 172, 3) := by decide +kernel
theorem dX10_bees_84 : decode cX10_bees 84 = .ok (.lmul, 1) := by decide +kernel
theorem dX10_bees_85 : decode cX10_bees 85 = .ok (.lstore 8, 2) := by decide +kernel
theorem dX10_bees_87 : decode cX10_bees 87 = .ok (.iinc 10 1, 3) := by decide +kernel
theorem dX10_bees_90 : decode cX10_bees 90 = .ok (.goto (-17), 3) := by decide +kernel
theorem dX10_bees_93 : decode cX10_bees 93 = .ok (.iconst 0, 1) := by decide +kernel
theorem dX10_bees_94 : decode cX10_bees 94 = .ok (.istore 10, 2) := by decide +kernel
theorem dX10_bees_96 : decode cX10_bees 96 = .ok (.iload 10, 2) := by decide +kernel
theorem dX10_bees_98 : decode cX10_bees 98 = .ok (.iconst 1, 1) := by decide +kernel
theorem dX10_bees_99 : decode cX10_bees 99 = .ok (.iload_n 1, 1) := by decide +kernel
theorem dX10_bees_100 : decode cX10_bees 100 = .ok (.ishl, 1) := by decide +kernel
theorem dX10_bees_101 : decode cX10_bees 101 = .ok (.if_icmp .ge 135, 3) := by decide +kernel
theorem dX10_bees_104 : decode cX10_bees 104 = .ok (.lconst 1, 1) := by decide +kernel
theorem dX10_bees_105 : decode cX10_bees 105 = .ok (.lstore 11, 2) := by decide +kernel
theorem dX10_bees_107 : decode cX10_bees 107 = .ok (.aload_n 0, 1) := by decide +kernel
theorem dX10_bees_108 : decode cX10_bees 108 = .ok (.getfield 7, 3) := by decide +kernel
theorem dX10_bees_111 : decode cX10_bees 111 = .ok (.iload 5, 2) := by decide +kernel
theorem dX10_bees_113 : decode cX10_bees 113 = .ok (.iaload, 1) := by decide +kernel
theorem dX10_bees_114 : decode cX10_bees 114 = .ok (.istore 13, 2) := by decide +kernel
theorem dX10_bees_116 : decode cX10_bees 116 = .ok (.iconst 0, 1) := by decide +kernel
theorem dX10_bees_117 : decode cX10_bees 117 = .ok (.istore 14, 2) := by decide +kernel
theorem dX10_bees_119 : decode cX10_bees 119 = .ok (.iload 14, 2) := by decide +kernel
theorem dX10_bees_121 : decode cX10_bees 121 = .ok (.iload_n 1, 1) := by decide +kernel
theorem dX10_bees_122 : decode cX10_bees 122 = .ok (.if_icmp .ge 79, 3) := by decide +kernel
theorem dX10_bees_125 : decode cX10_bees 125 = .ok (.lload 11, 2) := by decide +kernel
theorem dX10_bees_127 : decode cX10_bees 127 = .ok (.iload 10, 2) := by decide +kernel
theorem dX10_bees_129 : decode cX10_bees 129 = .ok (.iload 14, 2) := by decide +kernel
theorem dX10_bees_131 : decode cX10_bees 131 = .ok (.invokestatic 47, 3) := by decide +kernel
theorem dX10_bees_134 : decode cX10_bees 134 = .ok (.ifCond .eq 8, 3) := by decide +kernel
theorem dX10_bees_137 : decode cX10_bees 137 = .ok (.iload_n 2, 1) := by decide +kernel
theorem dX10_bees_138 : decode cX10_bees 138 = .ok (.i2l, 1) := by decide +kernel
theorem dX10_bees_139 : decode cX10_bees 139 = .ok (.goto 8, 3) := by decide +kernel
theorem dX10_bees_142 : decode cX10_bees 142 = .ok (.bipush 10, 2) := by decide +kernel
theorem dX10_bees_144 : decode cX10_bees 144 = .ok (.iload_n 2, 1) := by decide +kernel
theorem dX10_bees_145 : decode cX10_bees 145 = .ok (.isub, 1) := by decide +kernel
theorem dX10_bees_146 : decode cX10_bees 146 = .ok (.i2l, 1) := by decide +kernel
theorem dX10_bees_147 : decode cX10_bees 147 = .ok (.lmul, 1) := by decide +kernel
theorem dX10_bees_148 : decode cX10_bees 148 = .ok (.lstore 11, 2) := by decide +kernel
theorem dX10_bees_150 : decode cX10_bees 150 = .ok (.iload 10, 2) := by decide +kernel
theorem dX10_bees_152 : decode cX10_bees 152 = .ok (.iload 14, 2) := by decide +kernel
theorem dX10_bees_154 : decode cX10_bees 154 = .ok (.invokestatic 47, 3) := by decide +kernel
theorem dX10_bees_157 : decode cX10_bees 157 = .ok (.ifCond .eq 10, 3) := by decide +kernel
theorem dX10_bees_160 : decode cX10_bees 160 = .ok (.aload_n 0, 1) := by decide +kernel
theorem dX10_bees_161 : decode cX10_bees 161 = .ok (.getfield 17, 3) := by decide +kernel
theorem dX10_bees_164 : decode cX10_bees 164 = .ok (.goto 29, 3) := by decide +kernel
theorem dX10_bees_167 : decode cX10_bees 167 = .ok (.iload 13, 2) := by decide +kernel
theorem dX10_bees_169 : decode cX10_bees 169 = .ok (.aload_n 0, 1) := by decide +kernel
theorem dX10_bees_170 : decode cX10_bees 170 = .ok (.getfield 13, 3) := by decide +kernel
theorem dX10_bees_173 : decode cX10_bees 173 = .ok (.iload 5, 2) := by decide +kernel
theorem dX10_bees_175 : decode cX10_bees 175 = .ok (.iaload, 1) := by decide +kernel
theorem dX10_bees_176 : decode cX10_bees 176 = .ok (.if_icmp .le 16, 3) := by decide +kernel
theorem dX10_bees_179 : decode cX10_bees 179 = .ok (.iload 13, 2) := by decide +kernel
theorem dX10_bees_181 : decode cX10_bees 181 = .ok (.aload_n 0, 1) := by decide +kernel
theorem dX10_bees_182 : decode cX10_bees 182 = .ok (.getfield 13, 3) := by decide +kernel
theorem dX10_bees_185 : decode cX10_bees 185 = .ok (.iload 5, 2) := by decide +kernel
theorem dX10_bees_187 : decode cX10_bees 187 = .ok (.iaload, 1) := by decide +kernel
theorem dX10_bees_188 : decode cX10_bees 188 = .ok (.isub, 1) := by decide +kernel
theorem dX10_bees_189 : decode cX10_bees 189 = .ok (.goto 4, 3) := by decide +kernel
theorem dX10_bees_192 : decode cX10_bees 192 = .ok (.iconst 0, 1) := by decide +kernel
theorem dX10_bees_193 : decode cX10_bees 193 = .ok (.istore 13, 2) := by decide +kernel
theorem dX10_bees_195 : decode cX10_bees 195 = .ok (.iinc 14 1, 3) := by decide +kernel
theorem dX10_bees_198 : decode cX10_bees 198 = .ok (.goto (-79), 3) := by decide +kernel
theorem dX10_bees_201 : decode cX10_bees 201 = .ok (.lload 6, 2) := by decide +kernel
theorem dX10_bees_203 : decode cX10_bees 203 = .ok (.iload_n 3, 1) := by decide +kernel
theorem dX10_bees_204 : decode cX10_bees 204 = .ok (.ifCond .ne 12, 3) := by decide +kernel
theorem dX10_bees_207 : decode cX10_bees 207 = .ok (.lload 11, 2) := by decide +kernel
theorem dX10_bees_209 : decode cX10_bees 209 = .ok (.iload 13, 2) := by decide +kernel
theorem dX10_bees_211 : decode cX10_bees 211 = .ok (.i2l, 1) := by decide +kernel
theorem dX10_bees_212 : decode cX10_bees 212 = .ok (.lmul, 1) := by decide +kernel
theorem dX10_bees_213 : decode cX10_bees 213 = .ok (.goto 14, 3) := by decide +kernel
theorem dX10_bees_216 : decode cX10_bees 216 = .ok (.iload 13, 2) := by decide +kernel
theorem dX10_bees_218 : decode cX10_bees 218 = .ok (.ifCond .ne 8, 3) := by decide +kernel
theorem dX10_bees_221 : decode cX10_bees 221 = .ok (.lload 11, 2) := by decide +kernel
theorem dX10_bees_223 : decode cX10_bees 223 = .ok (.goto 4, 3) := by decide +kernel
theorem dX10_bees_226 : decode cX10_bees 226 = .ok (.lconst 0, 1) := by decide +kernel
theorem dX10_bees_227 : decode cX10_bees 227 = .ok (.ladd, 1) := by decide +kernel
theorem dX10_bees_228 : decode cX10_bees 228 = .ok (.lstore 6, 2) := by decide +kernel
theorem dX10_bees_230 : decode cX10_bees 230 = .ok (.iinc 10 1, 3) := by decide +kernel
theorem dX10_bees_233 : decode cX10_bees 233 = .ok (.goto (-137), 3) := by decide +kernel
theorem dX10_bees_236 : decode cX10_bees 236 = .ok (.lload 6, 2) := by decide +kernel
theorem dX10_bees_238 : decode cX10_bees 238 = .ok (.lstore 10, 2) := by decide +kernel
theorem dX10_bees_240 : decode cX10_bees 240 = .ok (.lload 8, 2) := by decide +kernel
theorem dX10_bees_242 : decode cX10_bees 242 = .ok (.lstore 12, 2) := by decide +kernel
theorem dX10_bees_244 : decode cX10_bees 244 = .ok (.lload 12, 2) := by decide +kernel
theorem dX10_bees_246 : decode cX10_bees 246 = .ok (.lconst 0, 1) := by decide +kernel
theorem dX10_bees_247 : decode cX10_bees 247 = .ok (.lcmp, 1) := by decide +kernel
theorem dX10_bees_248 : decode cX10_bees 248 = .ok (.ifCond .eq 21, 3) := by decide +kernel
theorem dX10_bees_251 : decode cX10_bees 251 = .ok (.lload 10, 2) := by decide +kernel
theorem dX10_bees_253 : decode cX10_bees 253 = .ok (.lload 12, 2) := by decide +kernel
theorem dX10_bees_255 : decode cX10_bees 255 = .ok (.lrem, 1) := by decide +kernel
theorem dX10_bees_256 : decode cX10_bees 256 = .ok (.lstore 14, 2) := by decide +kernel
theorem dX10_bees_258 : decode cX10_bees 258 = .ok (.lload 12, 2) := by decide +kernel
theorem dX10_bees_260 : decode cX10_bees 260 = .ok (.lstore 10, 2) := by decide +kernel
theorem dX10_bees_262 : decode cX10_bees 262 = .ok (.lload 14, 2) := by decide +kernel
theorem dX10_bees_264 : decode cX10_bees 264 = .ok (.lstore 12, 2) := by decide +kernel
theorem dX10_bees_266 : decode cX10_bees 266 = .ok (.goto (-22), 3) := by decide +kernel
theorem dX10_bees_269 : decode cX10_bees 269 = .ok (.iload 4, 2) := by decide +kernel
theorem dX10_bees_271 : decode cX10_bees 271 = .ok (.ifCond .ne 11, 3) := by decide +kernel
theorem dX10_bees_274 : decode cX10_bees 274 = .ok (.lload 6, 2) := by decide +kernel
theorem dX10_bees_276 : decode cX10_bees 276 = .ok (.lload 10, 2) := by decide +kernel
theorem dX10_bees_278 : decode cX10_bees 278 = .ok (.ldiv, 1) := by decide +kernel
theorem dX10_bees_279 : decode cX10_bees 279 = .ok (.goto 8, 3) := by decide +kernel
theorem dX10_bees_282 : decode cX10_bees 282 = .ok (.lload 8, 2) := by decide +kernel
theorem dX10_bees_284 : decode cX10_bees 284 = .ok (.lload 10, 2) := by decide +kernel
theorem dX10_bees_286 : decode cX10_bees 286 = .ok (.ldiv, 1) := by decide +kernel
theorem dX10_bees_287 : decode cX10_bees 287 = .ok (.lreturn, 1) := by decide +kernel
set_option maxRecDepth 20000 in
theorem ggX10_turn_X10_whyNotSleep : GoodIn wsX10_turn wsX10_whyNotSleep := goodIn_r _ [8, 1, 9, 10, 11, 7, 12, 13, 14, 15, 16, 17, 18, 19, 54, 55, 56, 57, 58, 59, 60, 61, 62, 63, 64, 65, 66, 67, 68, 69, 70, 71, 72] (by decide +kernel) (by decide +kernel)
set_option maxRecDepth 20000 in
theorem gX10_turn_X10_whyNotSleep : GoodIn wsX10_turn (wsV RX10 105 RX10 yX10_whyNotSleep wsX10_whyNotSleep) := goodIn_app (goodIn_of _ (by decide +kernel)) ggX10_turn_X10_whyNotSleep
set_option maxRecDepth 20000 in
theorem ggX10_turn_X10_sleep : GoodIn wsX10_turn wsX10_sleep := goodIn_r _ [23, 2, 1, 54, 55, 56, 57, 58, 59, 60, 61, 62, 63, 64, 65, 66, 67, 68, 69, 70, 71, 72] (by decide +kernel) (by decide +kernel)
set_option maxRecDepth 20000 in
theorem gX10_turn_X10_sleep : GoodIn wsX10_turn (wsV RX10 112 RX10 yX10_sleep wsX10_sleep) := goodIn_app (goodIn_of _ (by decide +kernel)) ggX10_turn_X10_sleep
set_option maxRecDepth 20000 in
theorem ggX10_turn_X10_whyNot : GoodIn wsX10_turn wsX10_whyNot := goodIn_r _ [27, 1, 9, 10, 11, 7, 12, 13, 14, 15, 16, 17, 18, 19, 54, 55, 56, 57, 58, 59, 60, 61, 62, 63, 64, 65, 66, 67, 68, 69, 70, 71, 72] (by decide +kernel) (by decide +kernel)
set_option maxRecDepth 20000 in
theorem gX10_turn_X10_whyNot : GoodIn wsX10_turn (wsV RX10 109 RX10 yX10_whyNot wsX10_whyNot) := goodIn_app (goodIn_of _ (by decide +kernel)) ggX10_turn_X10_whyNot
set_option maxRecDepth 20000 in
theorem ggX10_turn_X10_act : GoodIn wsX10_turn wsX10_act := goodIn_r _ [31, 1, 2, 32, 33, 34, 7, 35, 3, 36, 37, 38, 39, 40, 17, 18, 19, 54, 55, 56, 57, 58, 59, 60, 61, 62, 63, 64, 65, 66, 67, 68, 69, 70, 71, 72] (by decide +kernel) (by decide +kernel)
set_option maxRecDepth 20000 in
theorem gX10_turn_X10_act : GoodIn wsX10_turn (wsV RX10 115 RX10 yX10_act wsX10_act) := goodIn_app (goodIn_of _ (by decide +kernel)) ggX10_turn_X10_act
set_option maxRecDepth 20000 in
theorem ggX10_turn_X10_bell : GoodIn wsX10_turn wsX10_bell := goodIn_r _ [44, 1, 17, 18, 7, 19, 32, 33, 34, 35, 2, 3, 54, 55, 56, 57, 58, 59, 60, 61, 62, 63, 64, 65, 66, 67, 68, 69, 70, 71, 72] (by decide +kernel) (by decide +kernel)
set_option maxRecDepth 20000 in
theorem gX10_turn_X10_bell : GoodIn wsX10_turn (wsV RX10 121 RX10 yX10_bell wsX10_bell) := goodIn_app (goodIn_of _ (by decide +kernel)) ggX10_turn_X10_bell
set_option maxRecDepth 20000 in
theorem ggX10_turn_X10_first : GoodIn wsX10_turn wsX10_first := goodIn_r _ [48, 1, 2, 17, 18, 7, 19, 54, 55, 56, 57, 58, 59, 60, 61, 62, 63, 64, 65, 66, 67, 68, 69, 70, 71, 72] (by decide +kernel) (by decide +kernel)
set_option maxRecDepth 20000 in
theorem gX10_turn_X10_first : GoodIn wsX10_turn (wsV RX10 124 RX10 yX10_first wsX10_first) := goodIn_app (goodIn_of _ (by decide +kernel)) ggX10_turn_X10_first
set_option maxRecDepth 20000 in
theorem ggX10_turn_X10_breath : GoodIn wsX10_turn wsX10_breath := goodIn_r _ [52, 1, 2, 53, 17, 18, 7, 19, 54, 55, 56, 57, 58, 59, 60, 61, 62, 63, 64, 65, 66, 67, 68, 69, 70, 71, 72] (by decide +kernel) (by decide +kernel)
set_option maxRecDepth 20000 in
theorem gX10_turn_X10_breath : GoodIn wsX10_turn (wsV RX10 118 RX10 yX10_breath wsX10_breath) := goodIn_app (goodIn_of _ (by decide +kernel)) ggX10_turn_X10_breath
theorem dX10_turn_0 : decode cX10_turn 0 = .ok (.iload_n 1, 1) := by decide +kernel
theorem dX10_turn_1 : decode cX10_turn 1 = .ok (.bipush 8, 2) := by decide +kernel
theorem dX10_turn_3 : decode cX10_turn 3 = .ok (.irem, 1) := by decide +kernel
theorem dX10_turn_4 : decode cX10_turn 4 = .ok (.istore_n 2, 1) := by decide +kernel
theorem dX10_turn_5 : decode cX10_turn 5 = .ok (.iload_n 1, 1) := by decide +kernel
theorem dX10_turn_6 : decode cX10_turn 6 = .ok (.bipush 8, 2) := by decide +kernel
theorem dX10_turn_8 : decode cX10_turn 8 = .ok (.idiv, 1) := by decide +kernel
theorem dX10_turn_9 : decode cX10_turn 9 = .ok (.bipush 8, 2) := by decide +kernel
theorem dX10_turn_11 : decode cX10_turn 11 = .ok (.irem, 1) := by decide +kernel
theorem dX10_turn_12 : decode cX10_turn 12 = .ok (.istore_n 3, 1) := by decide +kernel
theorem dX10_turn_13 : decode cX10_turn 13 = .ok (.iload_n 1, 1) := by decide +kernel
theorem dX10_turn_14 : decode cX10_turn 14 = .ok (.bipush 64, 2) := by decide +kernel
theorem dX10_turn_16 : decode cX10_turn 16 = .ok (.idiv, 1) := by decide +kernel
theorem dX10_turn_17 : decode cX10_turn 17 = .ok (.bipush 8, 2) := by decide +kernel
theorem dX10_turn_19 : decode cX10_turn 19 = .ok (.irem, 1) := by decide +kernel
theorem dX10_turn_20 : decode cX10_turn 20 = .ok (.istore 4, 2) := by decide +kernel
theorem dX10_turn_22 : decode cX10_turn 22 = .ok (.iload_n 2, 1) := by decide +kernel
theorem dX10_turn_23 : decode cX10_turn 23 = .ok (.iconst 4, 1) := by decide +kernel
theorem dX10_turn_24 : decode cX10_turn 24 = .ok (.if_icmp .ne 23, 3) := by decide +kernel
theorem dX10_turn_27 : decode cX10_turn 27 = .ok (.aload_n 0, 1) := by decide +kernel
theorem dX10_turn_28 : decode cX10_turn 28 = .ok (.iload_n 3, 1) := by decide +kernel
theorem dX10_turn_29 : decode cX10_turn 29 = .ok (.iload 4, 2) := by decide +kernel
theorem dX10_turn_31 : decode cX10_turn 31 = .ok (.invokevirtual 105, 3) := by decide +kernel
theorem dX10_turn_34 : decode cX10_turn 34 = .ok (.ifCond .ne 131, 3) := by decide +kernel
theorem dX10_turn_37 : decode cX10_turn 37 = .ok (.aload_n 0, 1) := by decide +kernel
theorem dX10_turn_38 : decode cX10_turn 38 = .ok (.iload_n 3, 1) := by decide +kernel
theorem dX10_turn_39 : decode cX10_turn 39 = .ok (.iload 4, 2) := by decide +kernel
theorem dX10_turn_41 : decode cX10_turn 41 = .ok (.invokevirtual 112, 3) := by decide +kernel
theorem dX10_turn_44 : decode cX10_turn 44 = .ok (.goto 121, 3) := by decide +kernel
theorem dX10_turn_47 : decode cX10_turn 47 = .ok (.iload_n 2, 1) := by decide +kernel
theorem dX10_turn_48 : decode cX10_turn 48 = .ok (.iconst 2, 1) := by decide +kernel
theorem dX10_turn_49 : decode cX10_turn 49 = .ok (.if_icmp .eq 13, 3) := by decide +kernel
theorem dX10_turn_52 : decode cX10_turn 52 = .ok (.iload_n 2, 1) := by decide +kernel
theorem dX10_turn_53 : decode cX10_turn 53 = .ok (.iconst 3, 1) := by decide +kernel
theorem dX10_turn_54 : decode cX10_turn 54 = .ok (.if_icmp .eq 8, 3) := by decide +kernel
theorem dX10_turn_57 : decode cX10_turn 57 = .ok (.iload_n 2, 1) := by decide +kernel
theorem dX10_turn_58 : decode cX10_turn 58 = .ok (.iconst 5, 1) := by decide +kernel
theorem dX10_turn_59 : decode cX10_turn 59 = .ok (.if_icmp .ne 47, 3) := by decide +kernel
theorem dX10_turn_62 : decode cX10_turn 62 = .ok (.iload_n 2, 1) := by decide +kernel
theorem dX10_turn_63 : decode cX10_turn 63 = .ok (.iconst 2, 1) := by decide +kernel
theorem dX10_turn_64 : decode cX10_turn 64 = .ok (.if_icmp .ne 8, 3) := by decide +kernel
theorem dX10_turn_67 : decode cX10_turn 67 = .ok (.bipush 107, 2) := by decide +kernel
theorem dX10_turn_69 : decode cX10_turn 69 = .ok (.goto 15, 3) := by decide +kernel
theorem dX10_turn_72 : decode cX10_turn 72 = .ok (.iload_n 2, 1) := by decide +kernel
theorem dX10_turn_73 : decode cX10_turn 73 = .ok (.iconst 3, 1) := by decide +kernel
theorem dX10_turn_74 : decode cX10_turn 74 = .ok (.if_icmp .ne 8, 3) := by decide +kernel
theorem dX10_turn_77 : decode cX10_turn 77 = .ok (.bipush 101, 2) := by decide +kernel
theorem dX10_turn_79 : decode cX10_turn 79 = .ok (.goto 5, 3) := by decide +kernel
theorem dX10_turn_82 : decode cX10_turn 82 = .ok (.bipush 119, 2) := by decide +kernel
theorem dX10_turn_84 : decode cX10_turn 84 = .ok (.istore 5, 2) := by decide +kernel
theorem dX10_turn_86 : decode cX10_turn 86 = .ok (.aload_n 0, 1) := by decide +kernel
theorem dX10_turn_87 : decode cX10_turn 87 = .ok (.iload_n 3, 1) := by decide +kernel
theorem dX10_turn_88 : decode cX10_turn 88 = .ok (.iload 5, 2) := by decide +kernel
theorem dX10_turn_90 : decode cX10_turn 90 = .ok (.invokevirtual 109, 3) := by decide +kernel
theorem dX10_turn_93 : decode cX10_turn 93 = .ok (.ifCond .ne 10, 3) := by decide +kernel
theorem dX10_turn_96 : decode cX10_turn 96 = .ok (.aload_n 0, 1) := by decide +kernel
theorem dX10_turn_97 : decode cX10_turn 97 = .ok (.iload_n 3, 1) := by decide +kernel
theorem dX10_turn_98 : decode cX10_turn 98 = .ok (.iload 5, 2) := by decide +kernel
theorem dX10_turn_100 : decode cX10_turn 100 = .ok (.invokevirtual 115, 3) := by decide +kernel
theorem dX10_turn_103 : decode cX10_turn 103 = .ok (.goto 62, 3) := by decide +kernel
theorem dX10_turn_106 : decode cX10_turn 106 = .ok (.aload_n 0, 1) := by decide +kernel
theorem dX10_turn_107 : decode cX10_turn 107 = .ok (.getfield 72, 3) := by decide +kernel
theorem dX10_turn_110 : decode cX10_turn 110 = .ok (.ifCond .eq 55, 3) := by decide +kernel
theorem dX10_turn_113 : decode cX10_turn 113 = .ok (.iload_n 2, 1) := by decide +kernel
theorem dX10_turn_114 : decode cX10_turn 114 = .ok (.ifCond .ne 10, 3) := by decide +kernel
theorem dX10_turn_117 : decode cX10_turn 117 = .ok (.aload_n 0, 1) := by decide +kernel
theorem dX10_turn_118 : decode cX10_turn 118 = .ok (.invokevirtual 121, 3) := by decide +kernel
theorem dX10_turn_121 : decode cX10_turn 121 = .ok (.goto 44, 3) := by decide +kernel
theorem dX10_turn_124 : decode cX10_turn 124 = .ok (.iload_n 2, 1) := by decide +kernel
theorem dX10_turn_125 : decode cX10_turn 125 = .ok (.iconst 1, 1) := by decide +kernel
theorem dX10_turn_126 : decode cX10_turn 126 = .ok (.if_icmp .ne 19, 3) := by decide +kernel
theorem dX10_turn_129 : decode cX10_turn 129 = .ok (.aload_n 0, 1) := by decide +kernel
theorem dX10_turn_130 : decode cX10_turn 130 = .ok (.getfield 30, 3) := by decide +kernel
theorem dX10_turn_133 : decode cX10_turn 133 = .ok (.aload_n 0, 1) := by decide +kernel
theorem dX10_turn_134 : decode cX10_turn 134 = .ok (.invokevirtual 124, 3) := by decide +kernel
theorem dX10_turn_137 : decode cX10_turn 137 = .ok (.aload_n 0, 1) := by decide +kernel
theorem dX10_turn_138 : decode cX10_turn 138 = .ok (.getfield 17, 3) := by decide +kernel
theorem dX10_turn_141 : decode cX10_turn 141 = .ok (.iastore, 1) := by decide +kernel
theorem dX10_turn_142 : decode cX10_turn 142 = .ok (.goto 23, 3) := by decide +kernel
theorem dX10_turn_145 : decode cX10_turn 145 = .ok (.iconst 0, 1) := by decide +kernel
theorem dX10_turn_146 : decode cX10_turn 146 = .ok (.istore 5, 2) := by decide +kernel
theorem dX10_turn_148 : decode cX10_turn 148 = .ok (.iload 5, 2) := by decide +kernel
theorem dX10_turn_150 : decode cX10_turn 150 = .ok (.bipush 10, 2) := by decide +kernel
theorem dX10_turn_152 : decode cX10_turn 152 = .ok (.if_icmp .ge 13, 3) := by decide +kernel
theorem dX10_turn_155 : decode cX10_turn 155 = .ok (.aload_n 0, 1) := by decide +kernel
theorem dX10_turn_156 : decode cX10_turn 156 = .ok (.invokevirtual 118, 3) := by decide +kernel
theorem dX10_turn_159 : decode cX10_turn 159 = .ok (.iinc 5 1, 3) := by decide +kernel
theorem dX10_turn_162 : decode cX10_turn 162 = .ok (.goto (-14), 3) := by decide +kernel
theorem dX10_turn_165 : decode cX10_turn 165 = .ok (.return_, 1) := by decide +kernel
set_option maxRecDepth 20000 in
theorem ggX10_year_X10_in : GoodIn wsX10_year wsX10_in := goodIn_r _ [8] (by decide +kernel) (by decide +kernel)
set_option maxRecDepth 20000 in
theorem gX10_year_X10_in : GoodIn wsX10_year (va_wsS RX10 43 yX10_in wsX10_in) := goodIn_app (goodIn_of _ (by decide +kernel)) ggX10_year_X10_in
set_option maxRecDepth 20000 in
theorem ggX10_year_X10_asNow : GoodIn wsX10_year wsX10_asNow := goodIn_r _ [12, 13, 4, 2, 14, 68, 69, 70, 71, 72, 73, 74, 75, 76, 77, 78, 79, 80, 81, 82, 83, 84, 85, 86] (by decide +kernel) (by decide +kernel)
set_option maxRecDepth 20000 in
theorem gX10_year_X10_asNow : GoodIn wsX10_year (wsV RX10 83 RX10 yX10_asNow wsX10_asNow) := goodIn_app (goodIn_of _ (by decide +kernel)) ggX10_year_X10_asNow
set_option maxRecDepth 20000 in
theorem ggX10_year_X10_turn : GoodIn wsX10_year wsX10_turn := goodIn_r _ [18, 4, 2, 19, 20, 21, 22, 7, 23, 24, 25, 26, 27, 3, 5, 6, 8, 28, 29, 30, 31, 32, 33, 34, 35, 36, 37, 38, 39, 40, 41, 42, 43, 44, 45, 46, 47, 48, 49, 50, 51, 52, 53, 54, 55, 56, 57, 58, 59, 60, 61, 62, 63, 64, 68, 69, 70, 71, 72, 73, 74, 75, 76, 77, 78, 79, 80, 81, 82, 83, 84, 85, 86] (by decide +kernel) (by decide +kernel)
set_option maxRecDepth 20000 in
theorem gX10_year_X10_turn : GoodIn wsX10_year (wsV RX10 175 RX10 yX10_turn wsX10_turn) := goodIn_app (goodIn_of _ (by decide +kernel)) ggX10_year_X10_turn
set_option maxRecDepth 20000 in
theorem ggX10_year_X10_has : GoodIn wsX10_year wsX10_has := goodIn_r _ [30] (by decide +kernel) (by decide +kernel)
set_option maxRecDepth 20000 in
theorem gX10_year_X10_has : GoodIn wsX10_year (va_wsS RX10 47 yX10_has wsX10_has) := goodIn_app (goodIn_of _ (by decide +kernel)) ggX10_year_X10_has
set_option maxRecDepth 20000 in
theorem ggX10_year_X10_bits : GoodIn wsX10_year wsX10_bits := goodIn_r _ [67] (by decide +kernel) (by decide +kernel)
set_option maxRecDepth 20000 in
theorem gX10_year_X10_bits : GoodIn wsX10_year (va_wsS RX10 58 yX10_bits wsX10_bits) := goodIn_app (goodIn_of _ (by decide +kernel)) ggX10_year_X10_bits
theorem dX10_year_0 : decode cX10_year 0 = .ok (.iload_n 1, 1) := by decide +kernel
theorem dX10_year_1 : decode cX10_year 1 = .ok (.iconst 0, 1) := by decide +kernel
theorem dX10_year_2 : decode cX10_year 2 = .ok (.sipush 9999, 3) := by decide +kernel
theorem dX10_year_5 : decode cX10_year 5 = .ok (.invokestatic 43, 3) := by decide +kernel
theorem dX10_year_8 : decode cX10_year 8 = .ok (.ifCond .eq 22, 3) := by decide +kernel
theorem dX10_year_11 : decode cX10_year 11 = .ok (.iload_n 2, 1) := by decide +kernel
theorem dX10_year_12 : decode cX10_year 12 = .ok (.iconst 1, 1) := by decide +kernel
theorem dX10_year_13 : decode cX10_year 13 = .ok (.bipush 99, 2) := by decide +kernel
theorem dX10_year_15 : decode cX10_year 15 = .ok (.invokestatic 43, 3) := by decide +kernel
theorem dX10_year_18 : decode cX10_year 18 = .ok (.ifCond .eq 12, 3) := by decide +kernel
theorem dX10_year_21 : decode cX10_year 21 = .ok (.iload_n 3, 1) := by decide +kernel
theorem dX10_year_22 : decode cX10_year 22 = .ok (.iconst 0, 1) := by decide +kernel
theorem dX10_year_23 : decode cX10_year 23 = .ok (.iconst 2, 1) := by decide +kernel
theorem dX10_year_24 : decode cX10_year 24 = .ok (.invokestatic 43, 3) := by decide +kernel
theorem dX10_year_27 : decode cX10_year 27 = .ok (.ifCond .ne 6, 3) := by decide +kernel
theorem dX10_year_30 : decode cX10_year 30 = .ok (.bipush (-2), 2) := by decide +kernel
theorem dX10_year_32 : decode cX10_year 32 = .ok (.ireturn, 1) := by decide +kernel
theorem dX10_year_33 : decode cX10_year 33 = .ok (.aload_n 0, 1) := by decide +kernel
theorem dX10_year_34 : decode cX10_year 34 = .ok (.invokevirtual 83, 3) := by decide +kernel
theorem dX10_year_37 : decode cX10_year 37 = .ok (.iload_n 1, 1) := by decide +kernel
theorem dX10_year_38 : decode cX10_year 38 = .ok (.istore 4, 2) := by decide +kernel
theorem dX10_year_40 : decode cX10_year 40 = .ok (.iconst 0, 1) := by decide +kernel
theorem dX10_year_41 : decode cX10_year 41 = .ok (.istore 5, 2) := by decide +kernel
theorem dX10_year_43 : decode cX10_year 43 = .ok (.iconst 0, 1) := by decide +kernel
theorem dX10_year_44 : decode cX10_year 44 = .ok (.istore 6, 2) := by decide +kernel
theorem dX10_year_46 : decode cX10_year 46 = .ok (.iload 6, 2) := by decide +kernel
theorem dX10_year_48 : decode cX10_year 48 = .ok (.iload_n 2, 1) := by decide +kernel
theorem dX10_year_49 : decode cX10_year 49 = .ok (.if_icmp .ge 149, 3) := by decide +kernel
theorem dX10_year_52 : decode cX10_year 52 = .ok (.bipush 75, 2) := by decide +kernel
theorem dX10_year_54 : decode cX10_year 54 = .ok (.iload 4, 2) := by decide +kernel
theorem dX10_year_56 : decode cX10_year 56 = .ok (.imul, 1) := by decide +kernel
theorem dX10_year_57 : decode cX10_year 57 = .ok (.bipush 74, 2) := by decide +kernel
theorem dX10_year_59 : decode cX10_year 59 = .ok (.iadd, 1) := by decide +kernel
theorem dX10_year_60 : decode cX10_year 60 = .ok (.ldc 174, 2) := by decide +kernel
theorem dX10_year_62 : decode cX10_year 62 = .ok (.irem, 1) := by decide +kernel
theorem dX10_year_63 : decode cX10_year 63 = .ok (.istore 4, 2) := by decide +kernel
theorem dX10_year_65 : decode cX10_year 65 = .ok (.iconst 0, 1) := by decide +kernel
theorem dX10_year_66 : decode cX10_year 66 = .ok (.istore 7, 2) := by decide +kernel
theorem dX10_year_68 : decode cX10_year 68 = .ok (.iconst 0, 1) := by decide +kernel
theorem dX10_year_69 : decode cX10_year 69 = .ok (.istore 8, 2) := by decide +kernel
theorem dX10_year_71 : decode cX10_year 71 = .ok (.iconst 0, 1) := by decide +kernel
theorem dX10_year_72 : decode cX10_year 72 = .ok (.istore 9, 2) := by decide +kernel
theorem dX10_year_74 : decode cX10_year 74 = .ok (.iload 9, 2) := by decide +kernel
theorem dX10_year_76 : decode cX10_year 76 = .ok (.bipush 8, 2) := by decide +kernel
theorem dX10_year_78 : decode cX10_year 78 = .ok (.if_icmp .ge 32, 3) := by decide +kernel
theorem dX10_year_81 : decode cX10_year 81 = .ok (.iload 7, 2) := by decide +kernel
theorem dX10_year_83 : decode cX10_year 83 = .ok (.aload_n 0, 1) := by decide +kernel
theorem dX10_year_84 : decode cX10_year 84 = .ok (.getfield 30, 3) := by decide +kernel
theorem dX10_year_87 : decode cX10_year 87 = .ok (.iload 9, 2) := by decide +kernel
theorem dX10_year_89 : decode cX10_year 89 = .ok (.iaload, 1) := by decide +kernel
theorem dX10_year_90 : decode cX10_year 90 = .ok (.ifCond .ne 10, 3) := by decide +kernel
theorem dX10_year_93 : decode cX10_year 93 = .ok (.iconst 1, 1) := by decide +kernel
theorem dX10_year_94 : decode cX10_year 94 = .ok (.iload 9, 2) := by decide +kernel
theorem dX10_year_96 : decode cX10_year 96 = .ok (.ishl, 1) := by decide +kernel
theorem dX10_year_97 : decode cX10_year 97 = .ok (.goto 4, 3) := by decide +kernel
theorem dX10_year_100 : decode cX10_year 100 = .ok (.iconst 0, 1) := by decide +kernel
theorem dX10_year_101 : decode cX10_year 101 = .ok (.ior, 1) := by decide +kernel
theorem dX10_year_102 : decode cX10_year 102 = .ok (.istore 7, 2) := by decide +kernel
theorem dX10_year_104 : decode cX10_year 104 = .ok (.iinc 9 1, 3) := by decide +kernel
theorem dX10_year_107 : decode cX10_year 107 = .ok (.goto (-33), 3) := by decide +kernel
theorem dX10_year_110 : decode cX10_year 110 = .ok (.aload_n 0, 1) := by decide +kernel
theorem dX10_year_111 : decode cX10_year 111 = .ok (.iload 4, 2) := by decide +kernel
theorem dX10_year_113 : decode cX10_year 113 = .ok (.invokevirtual 175, 3) := by decide +kernel
theorem dX10_year_116 : decode cX10_year 116 = .ok (.iconst 0, 1) := by decide +kernel
theorem dX10_year_117 : decode cX10_year 117 = .ok (.istore 9, 2) := by decide +kernel
theorem dX10_year_119 : decode cX10_year 119 = .ok (.iload 9, 2) := by decide +kernel
theorem dX10_year_121 : decode cX10_year 121 = .ok (.bipush 8, 2) := by decide +kernel
theorem dX10_year_123 : decode cX10_year 123 = .ok (.if_icmp .ge 54, 3) := by decide +kernel
theorem dX10_year_126 : decode cX10_year 126 = .ok (.iload 8, 2) := by decide +kernel
theorem dX10_year_128 : decode cX10_year 128 = .ok (.aload_n 0, 1) := by decide +kernel
theorem dX10_year_129 : decode cX10_year 129 = .ok (.getfield 40, 3) := by decide +kernel
theorem dX10_year_132 : decode cX10_year 132 = .ok (.iload 9, 2) := by decide +kernel
theorem dX10_year_134 : decode cX10_year 134 = .ok (.invokestatic 47, 3) := by decide +kernel
theorem dX10_year_137 : decode cX10_year 137 = .ok (.ifCond .eq 30, 3) := by decide +kernel
theorem dX10_year_140 : decode cX10_year 140 = .ok (.aload_n 0, 1) := by decide +kernel
theorem dX10_year_141 : decode cX10_year 141 = .ok (.getfield 30, 3) := by decide +kernel
theorem dX10_year_144 : decode cX10_year 144 = .ok (.iload 9, 2) := by decide +kernel
theorem dX10_year_146 : decode cX10_year 146 = .ok (.iaload, 1) := by decide +kernel
theorem dX10_year_147 : decode cX10_year 147 = .ok (.ifCond .ne 20, 3) := by decide +kernel
theorem dX10_year_150 : decode cX10_year 150 = .ok (.iload 7, 2) := by decide +kernel
theorem dX10_year_152 : decode cX10_year 152 = .ok (.iload 9, 2) := by decide +kernel
theorem dX10_year_154 : decode cX10_year 154 = .ok (.invokestatic 47, 3) := by decide +kernel
theorem dX10_year_157 : decode cX10_year 157 = .ok (.ifCond .ne 10, 3) := by decide +kernel
theorem dX10_year_160 : decode cX10_year 160 = .ok (.iconst 1, 1) := by decide +kernel
theorem dX10_year_161 : decode cX10_year 161 = .ok (.iload 9, 2) := by decide +kernel
theorem dX10_year_163 : decode cX10_year 163 = .ok (.ishl, 1) := by decide +kernel
theorem dX10_year_164 : decode cX10_year 164 = .ok (.goto 4, 3) := by decide +kernel
theorem dX10_year_167 : decode cX10_year 167 = .ok (.iconst 0, 1) := by decide +kernel
theorem dX10_year_168 : decode cX10_year 168 = .ok (.ior, 1) := by decide +kernel
theorem dX10_year_169 : decode cX10_year 169 = .ok (.istore 8, 2) := by decide +kernel
theorem dX10_year_171 : decode cX10_year 171 = .ok (.iinc 9 1, 3) := by decide +kernel
theorem dX10_year_174 : decode cX10_year 174 = .ok (.goto (-55), 3) := by decide +kernel
theorem dX10_year_177 : decode cX10_year 177 = .ok (.iload 5, 2) := by decide +kernel
theorem dX10_year_179 : decode cX10_year 179 = .ok (.iload 8, 2) := by decide +kernel
theorem dX10_year_181 : decode cX10_year 181 = .ok (.ifCond .eq 7, 3) := by decide +kernel
theorem dX10_year_184 : decode cX10_year 184 = .ok (.iconst 1, 1) := by decide +kernel
theorem dX10_year_185 : decode cX10_year 185 = .ok (.goto 4, 3) := by decide +kernel
theorem dX10_year_188 : decode cX10_year 188 = .ok (.iconst 0, 1) := by decide +kernel
theorem dX10_year_189 : decode cX10_year 189 = .ok (.iadd, 1) := by decide +kernel
theorem dX10_year_190 : decode cX10_year 190 = .ok (.istore 5, 2) := by decide +kernel
theorem dX10_year_192 : decode cX10_year 192 = .ok (.iinc 6 1, 3) := by decide +kernel
theorem dX10_year_195 : decode cX10_year 195 = .ok (.goto (-149), 3) := by decide +kernel
theorem dX10_year_198 : decode cX10_year 198 = .ok (.iconst 0, 1) := by decide +kernel
theorem dX10_year_199 : decode cX10_year 199 = .ok (.istore 6, 2) := by decide +kernel
theorem dX10_year_201 : decode cX10_year 201 = .ok (.iconst 0, 1) := by decide +kernel
theorem dX10_year_202 : decode cX10_year 202 = .ok (.istore 7, 2) := by decide +kernel
theorem dX10_year_204 : decode cX10_year 204 = .ok (.iload 7, 2) := by decide +kernel
theorem dX10_year_206 : decode cX10_year 206 = .ok (.bipush 8, 2) := by decide +kernel
theorem dX10_year_208 : decode cX10_year 208 = .ok (.if_icmp .ge 37, 3) := by decide +kernel
theorem dX10_year_211 : decode cX10_year 211 = .ok (.iload 6, 2) := by decide +kernel
theorem dX10_year_213 : decode cX10_year 213 = .ok (.aload_n 0, 1) := by decide +kernel
theorem dX10_year_214 : decode cX10_year 214 = .ok (.getfield 40, 3) := by decide +kernel
theorem dX10_year_217 : decode cX10_year 217 = .ok (.iload 7, 2) := by decide +kernel
theorem dX10_year_219 : decode cX10_year 219 = .ok (.invokestatic 47, 3) := by decide +kernel
theorem dX10_year_222 : decode cX10_year 222 = .ok (.ifCond .eq 13, 3) := by decide +kernel
theorem dX10_year_225 : decode cX10_year 225 = .ok (.aload_n 0, 1) := by decide +kernel
theorem dX10_year_226 : decode cX10_year 226 = .ok (.getfield 30, 3) := by decide +kernel
theorem dX10_year_229 : decode cX10_year 229 = .ok (.iload 7, 2) := by decide +kernel
theorem dX10_year_231 : decode cX10_year 231 = .ok (.iaload, 1) := by decide +kernel
theorem dX10_year_232 : decode cX10_year 232 = .ok (.goto 4, 3) := by decide +kernel
theorem dX10_year_235 : decode cX10_year 235 = .ok (.iconst 0, 1) := by decide +kernel
theorem dX10_year_236 : decode cX10_year 236 = .ok (.iadd, 1) := by decide +kernel
theorem dX10_year_237 : decode cX10_year 237 = .ok (.istore 6, 2) := by decide +kernel
theorem dX10_year_239 : decode cX10_year 239 = .ok (.iinc 7 1, 3) := by decide +kernel
theorem dX10_year_242 : decode cX10_year 242 = .ok (.goto (-38), 3) := by decide +kernel
theorem dX10_year_245 : decode cX10_year 245 = .ok (.iload_n 3, 1) := by decide +kernel
theorem dX10_year_246 : decode cX10_year 246 = .ok (.ifCond .ne 8, 3) := by decide +kernel
theorem dX10_year_249 : decode cX10_year 249 = .ok (.iload 6, 2) := by decide +kernel
theorem dX10_year_251 : decode cX10_year 251 = .ok (.goto 20, 3) := by decide +kernel
theorem dX10_year_254 : decode cX10_year 254 = .ok (.iload_n 3, 1) := by decide +kernel
theorem dX10_year_255 : decode cX10_year 255 = .ok (.iconst 1, 1) := by decide +kernel
theorem dX10_year_256 : decode cX10_year 256 = .ok (.if_icmp .ne 13, 3) := by decide +kernel
theorem dX10_year_259 : decode cX10_year 259 = .ok (.aload_n 0, 1) := by decide +kernel
theorem dX10_year_260 : decode cX10_year 260 = .ok (.getfield 72, 3) := by decide +kernel
theorem dX10_year_263 : decode cX10_year 263 = .ok (.invokestatic 58, 3) := by decide +kernel
theorem dX10_year_266 : decode cX10_year 266 = .ok (.goto 5, 3) := by decide +kernel
theorem dX10_year_269 : decode cX10_year 269 = .ok (.iload 5, 2) := by decide +kernel
theorem dX10_year_271 : decode cX10_year 271 = .ok (.ireturn, 1) := by decide +kernel
set_option maxRecDepth 20000 in
theorem ggX10_image_X10_in : GoodIn wsX10_image wsX10_in := goodIn_r _ [14] (by decide +kernel) (by decide +kernel)
set_option maxRecDepth 20000 in
theorem gX10_image_X10_in : GoodIn wsX10_image (va_wsS RX10 43 yX10_in wsX10_in) := goodIn_app (goodIn_of _ (by decide +kernel)) ggX10_image_X10_in
theorem dX10_image_0 : decode cX10_image 0 = .ok (.iload_n 1, 1) := by decide +kernel
theorem dX10_image_1 : decode cX10_image 1 = .ok (.iconst 0, 1) := by decide +kernel
theorem dX10_image_2 : decode cX10_image 2 = .ok (.iconst 1, 1) := by decide +kernel
theorem dX10_image_3 : decode cX10_image 3 = .ok (.invokestatic 43, 3) := by decide +kernel
theorem dX10_image_6 : decode cX10_image 6 = .ok (.ifCond .ne 6, 3) := by decide +kernel
theorem dX10_image_9 : decode cX10_image 9 = .ok (.bipush (-2), 2) := by decide +kernel
theorem dX10_image_11 : decode cX10_image 11 = .ok (.ireturn, 1) := by decide +kernel
theorem dX10_image_12 : decode cX10_image 12 = .ok (.bipush 60, 2) := by decide +kernel
theorem dX10_image_14 : decode cX10_image 14 = .ok (.iload_n 1, 1) := by decide +kernel
theorem dX10_image_15 : decode cX10_image 15 = .ok (.imul, 1) := by decide +kernel
theorem dX10_image_16 : decode cX10_image 16 = .ok (.istore_n 2, 1) := by decide +kernel
theorem dX10_image_17 : decode cX10_image 17 = .ok (.iconst 0, 1) := by decide +kernel
theorem dX10_image_18 : decode cX10_image 18 = .ok (.istore_n 3, 1) := by decide +kernel
theorem dX10_image_19 : decode cX10_image 19 = .ok (.iload_n 3, 1) := by decide +kernel
theorem dX10_image_20 : decode cX10_image 20 = .ok (.bipush 8, 2) := by decide +kernel
theorem dX10_image_22 : decode cX10_image 22 = .ok (.if_icmp .ge 40, 3) := by decide +kernel
theorem dX10_image_25 : decode cX10_image 25 = .ok (.aload_n 0, 1) := by decide +kernel
theorem dX10_image_26 : decode cX10_image 26 = .ok (.getfield 33, 3) := by decide +kernel
theorem dX10_image_29 : decode cX10_image 29 = .ok (.iload_n 2, 1) := by decide +kernel
theorem dX10_image_30 : decode cX10_image 30 = .ok (.iload_n 3, 1) := by decide +kernel
theorem dX10_image_31 : decode cX10_image 31 = .ok (.iadd, 1) := by decide +kernel
theorem dX10_image_32 : decode cX10_image 32 = .ok (.aload_n 0, 1) := by decide +kernel
theorem dX10_image_33 : decode cX10_image 33 = .ok (.getfield 7, 3) := by decide +kernel
theorem dX10_image_36 : decode cX10_image 36 = .ok (.iload_n 3, 1) := by decide +kernel
theorem dX10_image_37 : decode cX10_image 37 = .ok (.iaload, 1) := by decide +kernel
theorem dX10_image_38 : decode cX10_image 38 = .ok (.iastore, 1) := by decide +kernel
theorem dX10_image_39 : decode cX10_image 39 = .ok (.aload_n 0, 1) := by decide +kernel
theorem dX10_image_40 : decode cX10_image 40 = .ok (.getfield 33, 3) := by decide +kernel
theorem dX10_image_43 : decode cX10_image 43 = .ok (.iload_n 2, 1) := by decide +kernel
theorem dX10_image_44 : decode cX10_image 44 = .ok (.bipush 8, 2) := by decide +kernel
theorem dX10_image_46 : decode cX10_image 46 = .ok (.iadd, 1) := by decide +kernel
theorem dX10_image_47 : decode cX10_image 47 = .ok (.iload_n 3, 1) := by decide +kernel
theorem dX10_image_48 : decode cX10_image 48 = .ok (.iadd, 1) := by decide +kernel
theorem dX10_image_49 : decode cX10_image 49 = .ok (.aload_n 0, 1) := by decide +kernel
theorem dX10_image_50 : decode cX10_image 50 = .ok (.getfield 13, 3) := by decide +kernel
theorem dX10_image_53 : decode cX10_image 53 = .ok (.iload_n 3, 1) := by decide +kernel
theorem dX10_image_54 : decode cX10_image 54 = .ok (.iaload, 1) := by decide +kernel
theorem dX10_image_55 : decode cX10_image 55 = .ok (.iastore, 1) := by decide +kernel
theorem dX10_image_56 : decode cX10_image 56 = .ok (.iinc 3 1, 3) := by decide +kernel
theorem dX10_image_59 : decode cX10_image 59 = .ok (.goto (-40), 3) := by decide +kernel
theorem dX10_image_62 : decode cX10_image 62 = .ok (.iconst 0, 1) := by decide +kernel
theorem dX10_image_63 : decode cX10_image 63 = .ok (.istore_n 3, 1) := by decide +kernel
theorem dX10_image_64 : decode cX10_image 64 = .ok (.iload_n 3, 1) := by decide +kernel
theorem dX10_image_65 : decode cX10_image 65 = .ok (.bipush 24, 2) := by decide +kernel
theorem dX10_image_67 : decode cX10_image 67 = .ok (.if_icmp .ge 26, 3) := by decide +kernel
theorem dX10_image_70 : decode cX10_image 70 = .ok (.aload_n 0, 1) := by decide +kernel
theorem dX10_image_71 : decode cX10_image 71 = .ok (.getfield 33, 3) := by decide +kernel
theorem dX10_image_74 : decode cX10_image 74 = .ok (.iload_n 2, 1) := by decide +kernel
theorem dX10_image_75 : decode cX10_image 75 = .ok (.bipush 16, 2) := by decide +kernel
theorem dX10_image_77 : decode cX10_image 77 = .ok (.iadd, 1) := by decide +kernel
theorem dX10_image_78 : decode cX10_image 78 = .ok (.iload_n 3, 1) := by decide +kernel
theorem dX10_image_79 : decode cX10_image 79 = .ok (.iadd, 1) := by decide +kernel
theorem dX10_image_80 : decode cX10_image 80 = .ok (.aload_n 0, 1) := by decide +kernel
theorem dX10_image_81 : decode cX10_image 81 = .ok (.getfield 24, 3) := by decide +kernel
theorem dX10_image_84 : decode cX10_image 84 = .ok (.iload_n 3, 1) := by decide +kernel
theorem dX10_image_85 : decode cX10_image 85 = .ok (.iaload, 1) := by decide +kernel
theorem dX10_image_86 : decode cX10_image 86 = .ok (.iastore, 1) := by decide +kernel
theorem dX10_image_87 : decode cX10_image 87 = .ok (.iinc 3 1, 3) := by decide +kernel
theorem dX10_image_90 : decode cX10_image 90 = .ok (.goto (-26), 3) := by decide +kernel
theorem dX10_image_93 : decode cX10_image 93 = .ok (.aload_n 0, 1) := by decide +kernel
theorem dX10_image_94 : decode cX10_image 94 = .ok (.getfield 33, 3) := by decide +kernel
theorem dX10_image_97 : decode cX10_image 97 = .ok (.iload_n 2, 1) := by decide +kernel
theorem dX10_image_98 : decode cX10_image 98 = .ok (.bipush 50, 2) := by decide +kernel
theorem dX10_image_100 : decode cX10_image 100 = .ok (.iadd, 1) := by decide +kernel
theorem dX10_image_101 : decode cX10_image 101 = .ok (.aload_n 0, 1) := by decide +kernel
theorem dX10_image_102 : decode cX10_image 102 = .ok (.getfield 40, 3) := by decide +kernel
theorem dX10_image_105 : decode cX10_image 105 = .ok (.iastore, 1) := by decide +kernel
theorem dX10_image_106 : decode cX10_image 106 = .ok (.aload_n 0, 1) := by decide +kernel
theorem dX10_image_107 : decode cX10_image 107 = .ok (.getfield 33, 3) := by decide +kernel
theorem dX10_image_110 : decode cX10_image 110 = .ok (.iload_n 2, 1) := by decide +kernel
theorem dX10_image_111 : decode cX10_image 111 = .ok (.bipush 51, 2) := by decide +kernel
theorem dX10_image_113 : decode cX10_image 113 = .ok (.iadd, 1) := by decide +kernel
theorem dX10_image_114 : decode cX10_image 114 = .ok (.aload_n 0, 1) := by decide +kernel
theorem dX10_image_115 : decode cX10_image 115 = .ok (.getfield 55, 3) := by decide +kernel
theorem dX10_image_118 : decode cX10_image 118 = .ok (.iastore, 1) := by decide +kernel
theorem dX10_image_119 : decode cX10_image 119 = .ok (.aload_n 0, 1) := by decide +kernel
theorem dX10_image_120 : decode cX10_image 120 = .ok (.getfield 33, 3) := by decide +kernel
theorem dX10_image_123 : decode cX10_image 123 = .ok (.iload_n 2, 1) := by decide +kernel
theorem dX10_image_124 : decode cX10_image 124 = .ok (.bipush 52, 2) := by decide +kernel
theorem dX10_image_126 : decode cX10_image 126 = .ok (.iadd, 1) := by decide +kernel
theorem dX10_image_127 : decode cX10_image 127 = .ok (.aload_n 0, 1) := by decide +kernel
theorem dX10_image_128 : decode cX10_image 128 = .ok (.getfield 17, 3) := by decide +kernel
theorem dX10_image_131 : decode cX10_image 131 = .ok (.iastore, 1) := by decide +kernel
theorem dX10_image_132 : decode cX10_image 132 = .ok (.aload_n 0, 1) := by decide +kernel
theorem dX10_image_133 : decode cX10_image 133 = .ok (.getfield 33, 3) := by decide +kernel
theorem dX10_image_136 : decode cX10_image 136 = .ok (.iload_n 2, 1) := by decide +kernel
theorem dX10_image_137 : decode cX10_image 137 = .ok (.bipush 53, 2) := by decide +kernel
theorem dX10_image_139 : decode cX10_image 139 = .ok (.iadd, 1) := by decide +kernel
theorem dX10_image_140 : decode cX10_image 140 = .ok (.aload_n 0, 1) := by decide +kernel
theorem dX10_image_141 : decode cX10_image 141 = .ok (.getfield 21, 3) := by decide +kernel
theorem dX10_image_144 : decode cX10_image 144 = .ok (.iastore, 1) := by decide +kernel
theorem dX10_image_145 : decode cX10_image 145 = .ok (.aload_n 0, 1) := by decide +kernel
theorem dX10_image_146 : decode cX10_image 146 = .ok (.getfield 33, 3) := by decide +kernel
theorem dX10_image_149 : decode cX10_image 149 = .ok (.iload_n 2, 1) := by decide +kernel
theorem dX10_image_150 : decode cX10_image 150 = .ok (.bipush 54, 2) := by decide +kernel
theorem dX10_image_152 : decode cX10_image 152 = .ok (.iadd, 1) := by decide +kernel
theorem dX10_image_153 : decode cX10_image 153 = .ok (.aload_n 0, 1) := by decide +kernel
theorem dX10_image_154 : decode cX10_image 154 = .ok (.getfield 158, 3) := by decide +kernel
theorem dX10_image_157 : decode cX10_image 157 = .ok (.iastore, 1) := by decide +kernel
theorem dX10_image_158 : decode cX10_image 158 = .ok (.aload_n 0, 1) := by decide +kernel
theorem dX10_image_159 : decode cX10_image 159 = .ok (.getfield 36, 3) := by decide +kernel
theorem dX10_image_162 : decode cX10_image 162 = .ok (.iload_n 1, 1) := by decide +kernel
theorem dX10_image_163 : decode cX10_image 163 = .ok (.iconst 1, 1) := by decide +kernel
theorem dX10_image_164 : decode cX10_image 164 = .ok (.bastore, 1) := by decide +kernel
theorem dX10_image_165 : decode cX10_image 165 = .ok (.iconst 1, 1) := by decide +kernel
theorem dX10_image_166 : decode cX10_image 166 = .ok (.ireturn, 1) := by decide +kernel
set_option maxRecDepth 20000 in
theorem ggX10_restore_X10_in : GoodIn wsX10_restore wsX10_in := goodIn_r _ [14] (by decide +kernel) (by decide +kernel)
set_option maxRecDepth 20000 in
theorem gX10_restore_X10_in : GoodIn wsX10_restore (va_wsS RX10 43 yX10_in wsX10_in) := goodIn_app (goodIn_of _ (by decide +kernel)) ggX10_restore_X10_in
theorem dX10_restore_0 : decode cX10_restore 0 = .ok (.iload_n 1, 1) := by decide +kernel
theorem dX10_restore_1 : decode cX10_restore 1 = .ok (.iconst 0, 1) := by decide +kernel
theorem dX10_restore_2 : decode cX10_restore 2 = .ok (.iconst 1, 1) := by decide +kernel
theorem dX10_restore_3 : decode cX10_restore 3 = .ok (.invokestatic 43, 3) := by decide +kernel
theorem dX10_restore_6 : decode cX10_restore 6 = .ok (.ifCond .ne 6, 3) := by decide +kernel
theorem dX10_restore_9 : decode cX10_restore 9 = .ok (.bipush (-2), 2) := by decide +kernel
theorem dX10_restore_11 : decode cX10_restore 11 = .ok (.ireturn, 1) := by decide +kernel
theorem dX10_restore_12 : decode cX10_restore 12 = .ok (.aload_n 0, 1) := by decide +kernel
theorem dX10_restore_13 : decode cX10_restore 13 = .ok (.getfield 36, 3) := by decide +kernel
theorem dX10_restore_16 : decode cX10_restore 16 = .ok (.iload_n 1, 1) := by decide +kernel
theorem dX10_restore_17 : decode cX10_restore 17 = .ok (.baload, 1) := by decide +kernel
theorem dX10_restore_18 : decode cX10_restore 18 = .ok (.ifCond .ne 6, 3) := by decide +kernel
theorem dX10_restore_21 : decode cX10_restore 21 = .ok (.bipush (-3), 2) := by decide +kernel
theorem dX10_restore_23 : decode cX10_restore 23 = .ok (.ireturn, 1) := by decide +kernel
theorem dX10_restore_24 : decode cX10_restore 24 = .ok (.bipush 60, 2) := by decide +kernel
theorem dX10_restore_26 : decode cX10_restore 26 = .ok (.iload_n 1, 1) := by decide +kernel
theorem dX10_restore_27 : decode cX10_restore 27 = .ok (.imul, 1) := by decide +kernel
theorem dX10_restore_28 : decode cX10_restore 28 = .ok (.istore_n 2, 1) := by decide +kernel
theorem dX10_restore_29 : decode cX10_restore 29 = .ok (.iconst 0, 1) := by decide +kernel
theorem dX10_restore_30 : decode cX10_restore 30 = .ok (.istore_n 3, 1) := by decide +kernel
theorem dX10_restore_31 : decode cX10_restore 31 = .ok (.iload_n 3, 1) := by decide +kernel
theorem dX10_restore_32 : decode cX10_restore 32 = .ok (.bipush 8, 2) := by decide +kernel
theorem dX10_restore_34 : decode cX10_restore 34 = .ok (.if_icmp .ge 40, 3) := by decide +kernel
theorem dX10_restore_37 : decode cX10_restore 37 = .ok (.aload_n 0, 1) := by decide +kernel
theorem dX10_restore_38 : decode cX10_restore 38 = .ok (.getfield 7, 3) := by decide +kernel
theorem dX10_restore_41 : decode cX10_restore 41 = .ok (.iload_n 3, 1) := by decide +kernel
theorem dX10_restore_42 : decode cX10_restore 42 = .ok (.aload_n 0, 1) := by decide +kernel
theorem dX10_restore_43 : decode cX10_restore 43 = .ok (.getfield 33, 3) := by decide +kernel
theorem dX10_restore_46 : decode cX10_restore 46 = .ok (.iload_n 2, 1) := by decide +kernel
theorem dX10_restore_47 : decode cX10_restore 47 = .ok (.iload_n 3, 1) := by decide +kernel
theorem dX10_restore_48 : decode cX10_restore 48 = .ok (.iadd, 1) := by decide +kernel
theorem dX10_restore_49 : decode cX10_restore 49 = .ok (.iaload, 1) := by decide +kernel
theorem dX10_restore_50 : decode cX10_restore 50 = .ok (.iastore, 1) := by decide +kernel
theorem dX10_restore_51 : decode cX10_restore 51 = .ok (.aload_n 0, 1) := by decide +kernel
theorem dX10_restore_52 : decode cX10_restore 52 = .ok (.getfield 13, 3) := by decide +kernel
theorem dX10_restore_55 : decode cX10_restore 55 = .ok (.iload_n 3, 1) := by decide +kernel
theorem dX10_restore_56 : decode cX10_restore 56 = .ok (.aload_n 0, 1) := by decide +kernel
theorem dX10_restore_57 : decode cX10_restore 57 = .ok (.getfield 33, 3) := by decide +kernel
theorem dX10_restore_60 : decode cX10_restore 60 = .ok (.iload_n 2, 1) := by decide +kernel
theorem dX10_restore_61 : decode cX10_restore 61 = .ok (.bipush 8, 2) := by decide +kernel
theorem dX10_restore_63 : decode cX10_restore 63 = .ok (.iadd, 1) := by decide +kernel
theorem dX10_restore_64 : decode cX10_restore 64 = .ok (.iload_n 3, 1) := by decide +kernel
theorem dX10_restore_65 : decode cX10_restore 65 = .ok (.iadd, 1) := by decide +kernel
theorem dX10_restore_66 : decode cX10_restore 66 = .ok (.iaload, 1) := by decide +kernel
theorem dX10_restore_67 : decode cX10_restore 67 = .ok (.iastore, 1) := by decide +kernel
theorem dX10_restore_68 : decode cX10_restore 68 = .ok (.iinc 3 1, 3) := by decide +kernel
theorem dX10_restore_71 : decode cX10_restore 71 = .ok (.goto (-40), 3) := by decide +kernel
theorem dX10_restore_74 : decode cX10_restore 74 = .ok (.iconst 0, 1) := by decide +kernel
theorem dX10_restore_75 : decode cX10_restore 75 = .ok (.istore_n 3, 1) := by decide +kernel
theorem dX10_restore_76 : decode cX10_restore 76 = .ok (.iload_n 3, 1) := by decide +kernel
theorem dX10_restore_77 : decode cX10_restore 77 = .ok (.bipush 24, 2) := by decide +kernel
theorem dX10_restore_79 : decode cX10_restore 79 = .ok (.if_icmp .ge 26, 3) := by decide +kernel
theorem dX10_restore_82 : decode cX10_restore 82 = .ok (.aload_n 0, 1) := by decide +kernel
theorem dX10_restore_83 : decode cX10_restore 83 = .ok (.getfield 24, 3) := by decide +kernel
theorem dX10_restore_86 : decode cX10_restore 86 = .ok (.iload_n 3, 1) := by decide +kernel
theorem dX10_restore_87 : decode cX10_restore 87 = .ok (.aload_n 0, 1) := by decide +kernel
theorem dX10_restore_88 : decode cX10_restore 88 = .ok (.getfield 33, 3) := by decide +kernel
theorem dX10_restore_91 : decode cX10_restore 91 = .ok (.iload_n 2, 1) := by decide +kernel
theorem dX10_restore_92 : decode cX10_restore 92 = .ok (.bipush 16, 2) := by decide +kernel
theorem dX10_restore_94 : decode cX10_restore 94 = .ok (.iadd, 1) := by decide +kernel
theorem dX10_restore_95 : decode cX10_restore 95 = .ok (.iload_n 3, 1) := by decide +kernel
theorem dX10_restore_96 : decode cX10_restore 96 = .ok (.iadd, 1) := by decide +kernel
theorem dX10_restore_97 : decode cX10_restore 97 = .ok (.iaload, 1) := by decide +kernel
theorem dX10_restore_98 : decode cX10_restore 98 = .ok (.iastore, 1) := by decide +kernel
theorem dX10_restore_99 : decode cX10_restore 99 = .ok (.iinc 3 1, 3) := by decide +kernel
theorem dX10_restore_102 : decode cX10_restore 102 = .ok (.goto (-26), 3) := by decide +kernel
theorem dX10_restore_105 : decode cX10_restore 105 = .ok (.aload_n 0, 1) := by decide +kernel
theorem dX10_restore_106 : decode cX10_restore 106 = .ok (.aload_n 0, 1) := by decide +kernel
theorem dX10_restore_107 : decode cX10_restore 107 = .ok (.getfield 33, 3) := by decide +kernel
theorem dX10_restore_110 : decode cX10_restore 110 = .ok (.iload_n 2, 1) := by decide +kernel
theorem dX10_restore_111 : decode cX10_restore 111 = .ok (.bipush 50, 2) := by decide +kernel
theorem dX10_restore_113 : decode cX10_restore 113 = .ok (.iadd, 1) := by decide +kernel
theorem dX10_restore_114 : decode cX10_restore 114 = .ok (.iaload, 1) := by decide +kernel
theorem dX10_restore_115 : decode cX10_restore 115 = .ok (.putfield 40, 3) := by decide +kernel
theorem dX10_restore_118 : decode cX10_restore 118 = .ok (.aload_n 0, 1) := by decide +kernel
theorem dX10_restore_119 : decode cX10_restore 119 = .ok (.aload_n 0, 1) := by decide +kernel
theorem dX10_restore_120 : decode cX10_restore 120 = .ok (.getfield 33, 3) := by decide +kernel
theorem dX10_restore_123 : decode cX10_restore 123 = .ok (.iload_n 2, 1) := by decide +kernel
theorem dX10_restore_124 : decode cX10_restore 124 = .ok (.bipush 51, 2) := by decide +kernel
theorem dX10_restore_126 : decode cX10_restore 126 = .ok (.iadd, 1) := by decide +kernel
theorem dX10_restore_127 : decode cX10_restore 127 = .ok (.iaload, 1) := by decide +kernel
theorem dX10_restore_128 : decode cX10_restore 128 = .ok (.putfield 55, 3) := by decide +kernel
theorem dX10_restore_131 : decode cX10_restore 131 = .ok (.aload_n 0, 1) := by decide +kernel
theorem dX10_restore_132 : decode cX10_restore 132 = .ok (.aload_n 0, 1) := by decide +kernel
theorem dX10_restore_133 : decode cX10_restore 133 = .ok (.getfield 33, 3) := by decide +kernel
theorem dX10_restore_136 : decode cX10_restore 136 = .ok (.iload_n 2, 1) := by decide +kernel
theorem dX10_restore_137 : decode cX10_restore 137 = .ok (.bipush 52, 2) := by decide +kernel
theorem dX10_restore_139 : decode cX10_restore 139 = .ok (.iadd, 1) := by decide +kernel
theorem dX10_restore_140 : decode cX10_restore 140 = .ok (.iaload, 1) := by decide +kernel
theorem dX10_restore_141 : decode cX10_restore 141 = .ok (.putfield 17, 3) := by decide +kernel
theorem dX10_restore_144 : decode cX10_restore 144 = .ok (.aload_n 0, 1) := by decide +kernel
theorem dX10_restore_145 : decode cX10_restore 145 = .ok (.aload_n 0, 1) := by decide +kernel
theorem dX10_restore_146 : decode cX10_restore 146 = .ok (.getfield 33, 3) := by decide +kernel
theorem dX10_restore_149 : decode cX10_restore 149 = .ok (.iload_n 2, 1) := by decide +kernel
theorem dX10_restore_150 : decode cX10_restore 150 = .ok (.bipush 53, 2) := by decide +kernel
theorem dX10_restore_152 : decode cX10_restore 152 = .ok (.iadd, 1) := by decide +kernel
theorem dX10_restore_153 : decode cX10_restore 153 = .ok (.iaload, 1) := by decide +kernel
theorem dX10_restore_154 : decode cX10_restore 154 = .ok (.putfield 21, 3) := by decide +kernel
theorem dX10_restore_157 : decode cX10_restore 157 = .ok (.aload_n 0, 1) := by decide +kernel
theorem dX10_restore_158 : decode cX10_restore 158 = .ok (.aload_n 0, 1) := by decide +kernel
theorem dX10_restore_159 : decode cX10_restore 159 = .ok (.getfield 33, 3) := by decide +kernel
theorem dX10_restore_162 : decode cX10_restore 162 = .ok (.iload_n 2, 1) := by decide +kernel
theorem dX10_restore_163 : decode cX10_restore 163 = .ok (.bipush 54, 2) := by decide +kernel
theorem dX10_restore_165 : decode cX10_restore 165 = .ok (.iadd, 1) := by decide +kernel
theorem dX10_restore_166 : decode cX10_restore 166 = .ok (.iaload, 1) := by decide +kernel
theorem dX10_restore_167 : decode cX10_restore 167 = .ok (.putfield 158, 3) := by decide +kernel
theorem dX10_restore_170 : decode cX10_restore 170 = .ok (.iconst 1, 1) := by decide +kernel
theorem dX10_restore_171 : decode cX10_restore 171 = .ok (.ireturn, 1) := by decide +kernel
set_option maxRecDepth 20000 in
theorem ggX10_told_X10_isThere : GoodIn wsX10_told wsX10_isThere := goodIn_r _ [12, 3, 13, 14, 11, 15, 16, 17, 18, 19, 20, 21, 22, 23, 24, 25, 26, 27, 28, 29, 30, 31, 32, 33, 34, 35, 36, 37] (by decide +kernel) (by decide +kernel)
set_option maxRecDepth 20000 in
theorem gX10_told_X10_isThere : GoodIn wsX10_told (wsV RX10 51 RX10 yX10_isThere wsX10_isThere) := goodIn_app (goodIn_of _ (by decide +kernel)) ggX10_told_X10_isThere
theorem dX10_told_0 : decode cX10_told 0 = .ok (.iload_n 1, 1) := by decide +kernel
theorem dX10_told_1 : decode cX10_told 1 = .ok (.bipush 10, 2) := by decide +kernel
theorem dX10_told_3 : decode cX10_told 3 = .ok (.if_icmp .lt 29, 3) := by decide +kernel
theorem dX10_told_6 : decode cX10_told 6 = .ok (.aload_n 0, 1) := by decide +kernel
theorem dX10_told_7 : decode cX10_told 7 = .ok (.iload_n 1, 1) := by decide +kernel
theorem dX10_told_8 : decode cX10_told 8 = .ok (.bipush 10, 2) := by decide +kernel
theorem dX10_told_10 : decode cX10_told 10 = .ok (.isub, 1) := by decide +kernel
theorem dX10_told_11 : decode cX10_told 11 = .ok (.invokevirtual 51, 3) := by decide +kernel
theorem dX10_told_14 : decode cX10_told 14 = .ok (.ifCond .eq 15, 3) := by decide +kernel
theorem dX10_told_17 : decode cX10_told 17 = .ok (.aload_n 0, 1) := by decide +kernel
theorem dX10_told_18 : decode cX10_told 18 = .ok (.getfield 13, 3) := by decide +kernel
theorem dX10_told_21 : decode cX10_told 21 = .ok (.iload_n 1, 1) := by decide +kernel
theorem dX10_told_22 : decode cX10_told 22 = .ok (.bipush 10, 2) := by decide +kernel
theorem dX10_told_24 : decode cX10_told 24 = .ok (.isub, 1) := by decide +kernel
theorem dX10_told_25 : decode cX10_told 25 = .ok (.iaload, 1) := by decide +kernel
theorem dX10_told_26 : decode cX10_told 26 = .ok (.goto 5, 3) := by decide +kernel
theorem dX10_told_29 : decode cX10_told 29 = .ok (.bipush (-2), 2) := by decide +kernel
theorem dX10_told_31 : decode cX10_told 31 = .ok (.ireturn, 1) := by decide +kernel
theorem dX10_told_32 : decode cX10_told 32 = .ok (.iload_n 1, 1) := by decide +kernel
theorem dX10_told_33 : decode cX10_told 33 = .ok (.tableswitch 60 0 4 #[35, 40, 45, 50, 55], 35) := by decide +kernel
theorem dX10_told_68 : decode cX10_told 68 = .ok (.aload_n 0, 1) := by decide +kernel
theorem dX10_told_69 : decode cX10_told 69 = .ok (.getfield 62, 3) := by decide +kernel
theorem dX10_told_72 : decode cX10_told 72 = .ok (.ireturn, 1) := by decide +kernel
theorem dX10_told_73 : decode cX10_told 73 = .ok (.aload_n 0, 1) := by decide +kernel
theorem dX10_told_74 : decode cX10_told 74 = .ok (.getfield 40, 3) := by decide +kernel
theorem dX10_told_77 : decode cX10_told 77 = .ok (.ireturn, 1) := by decide +kernel
theorem dX10_told_78 : decode cX10_told 78 = .ok (.aload_n 0, 1) := by decide +kernel
theorem dX10_told_79 : decode cX10_told 79 = .ok (.getfield 55, 3) := by decide +kernel
theorem dX10_told_82 : decode cX10_told 82 = .ok (.ireturn, 1) := by decide +kernel
theorem dX10_told_83 : decode cX10_told 83 = .ok (.aload_n 0, 1) := by decide +kernel
theorem dX10_told_84 : decode cX10_told 84 = .ok (.getfield 17, 3) := by decide +kernel
theorem dX10_told_87 : decode cX10_told 87 = .ok (.ireturn, 1) := by decide +kernel
theorem dX10_told_88 : decode cX10_told 88 = .ok (.aload_n 0, 1) := by decide +kernel
theorem dX10_told_89 : decode cX10_told 89 = .ok (.getfield 21, 3) := by decide +kernel
theorem dX10_told_92 : decode cX10_told 92 = .ok (.ireturn, 1) := by decide +kernel
theorem dX10_told_93 : decode cX10_told 93 = .ok (.iload_n 1, 1) := by decide +kernel
theorem dX10_told_94 : decode cX10_told 94 = .ok (.iconst 5, 1) := by decide +kernel
theorem dX10_told_95 : decode cX10_told 95 = .ok (.if_icmp .ne 10, 3) := by decide +kernel
theorem dX10_told_98 : decode cX10_told 98 = .ok (.aload_n 0, 1) := by decide +kernel
theorem dX10_told_99 : decode cX10_told 99 = .ok (.getfield 158, 3) := by decide +kernel
theorem dX10_told_102 : decode cX10_told 102 = .ok (.goto 5, 3) := by decide +kernel
theorem dX10_told_105 : decode cX10_told 105 = .ok (.bipush (-2), 2) := by decide +kernel
theorem dX10_told_107 : decode cX10_told 107 = .ok (.ireturn, 1) := by decide +kernel
theorem dJ6_bitCount_0f7a4_0 : decode cJ6_bitCount_0f7a4 0 = .ok (.iload_n 0, 1) := by decide +kernel
theorem dJ6_bitCount_0f7a4_1 : decode cJ6_bitCount_0f7a4 1 = .ok (.iload_n 0, 1) := by decide +kernel
theorem dJ6_bitCount_0f7a4_2 : decode cJ6_bitCount_0f7a4 2 = .ok (.iconst 1, 1) := by decide +kernel
theorem dJ6_bitCount_0f7a4_3 : decode cJ6_bitCount_0f7a4 3 = .ok (.iushr, 1) := by decide +kernel
theorem dJ6_bitCount_0f7a4_4 : decode cJ6_bitCount_0f7a4 4 = .ok (.ldc_w 265, 3) := by decide +kernel
theorem dJ6_bitCount_0f7a4_7 : decode cJ6_bitCount_0f7a4 7 = .ok (.iand, 1) := by decide +kernel
theorem dJ6_bitCount_0f7a4_8 : decode cJ6_bitCount_0f7a4 8 = .ok (.isub, 1) := by decide +kernel
theorem dJ6_bitCount_0f7a4_9 : decode cJ6_bitCount_0f7a4 9 = .ok (.istore_n 0, 1) := by decide +kernel
theorem dJ6_bitCount_0f7a4_10 : decode cJ6_bitCount_0f7a4 10 = .ok (.iload_n 0, 1) := by decide +kernel
theorem dJ6_bitCount_0f7a4_11 : decode cJ6_bitCount_0f7a4 11 = .ok (.ldc_w 266, 3) := by decide +kernel
theorem dJ6_bitCount_0f7a4_14 : decode cJ6_bitCount_0f7a4 14 = .ok (.iand, 1) := by decide +kernel
theorem dJ6_bitCount_0f7a4_15 : decode cJ6_bitCount_0f7a4 15 = .ok (.iload_n 0, 1) := by decide +kernel
theorem dJ6_bitCount_0f7a4_16 : decode cJ6_bitCount_0f7a4 16 = .ok (.iconst 2, 1) := by decide +kernel
theorem dJ6_bitCount_0f7a4_17 : decode cJ6_bitCount_0f7a4 17 = .ok (.iushr, 1) := by decide +kernel
theorem dJ6_bitCount_0f7a4_18 : decode cJ6_bitCount_0f7a4 18 = .ok (.ldc_w 266, 3) := by decide +kernel
theorem dJ6_bitCount_0f7a4_21 : decode cJ6_bitCount_0f7a4 21 = .ok (.iand, 1) := by decide +kernel
theorem dJ6_bitCount_0f7a4_22 : decode cJ6_bitCount_0f7a4 22 = .ok (.iadd, 1) := by decide +kernel
theorem dJ6_bitCount_0f7a4_23 : decode cJ6_bitCount_0f7a4 23 = .ok (.istore_n 0, 1) := by decide +kernel
theorem dJ6_bitCount_0f7a4_24 : decode cJ6_bitCount_0f7a4 24 = .ok (.iload_n 0, 1) := by decide +kernel
theorem dJ6_bitCount_0f7a4_25 : decode cJ6_bitCount_0f7a4 25 = .ok (.iload_n 0, 1) := by decide +kernel
theorem dJ6_bitCount_0f7a4_26 : decode cJ6_bitCount_0f7a4 26 = .ok (.iconst 4, 1) := by decide +kernel
theorem dJ6_bitCount_0f7a4_27 : decode cJ6_bitCount_0f7a4 27 = .ok (.iushr, 1) := by decide +kernel
theorem dJ6_bitCount_0f7a4_28 : decode cJ6_bitCount_0f7a4 28 = .ok (.iadd, 1) := by decide +kernel
theorem dJ6_bitCount_0f7a4_29 : decode cJ6_bitCount_0f7a4 29 = .ok (.ldc_w 267, 3) := by decide +kernel
theorem dJ6_bitCount_0f7a4_32 : decode cJ6_bitCount_0f7a4 32 = .ok (.iand, 1) := by decide +kernel
theorem dJ6_bitCount_0f7a4_33 : decode cJ6_bitCount_0f7a4 33 = .ok (.istore_n 0, 1) := by decide +kernel
theorem dJ6_bitCount_0f7a4_34 : decode cJ6_bitCount_0f7a4 34 = .ok (.iload_n 0, 1) := by decide +kernel
theorem dJ6_bitCount_0f7a4_35 : decode cJ6_bitCount_0f7a4 35 = .ok (.iload_n 0, 1) := by decide +kernel
theorem dJ6_bitCount_0f7a4_36 : decode cJ6_bitCount_0f7a4 36 = .ok (.bipush 8, 2) := by decide +kernel
theorem dJ6_bitCount_0f7a4_38 : decode cJ6_bitCount_0f7a4 38 = .ok (.iushr, 1) := by decide +kernel
theorem dJ6_bitCount_0f7a4_39 : decode cJ6_bitCount_0f7a4 39 = .ok (.iadd, 1) := by decide +kernel
theorem dJ6_bitCount_0f7a4_40 : decode cJ6_bitCount_0f7a4 40 = .ok (.istore_n 0, 1) := by decide +kernel
theorem dJ6_bitCount_0f7a4_41 : decode cJ6_bitCount_0f7a4 41 = .ok (.iload_n 0, 1) := by decide +kernel
theorem dJ6_bitCount_0f7a4_42 : decode cJ6_bitCount_0f7a4 42 = .ok (.iload_n 0, 1) := by decide +kernel
theorem dJ6_bitCount_0f7a4_43 : decode cJ6_bitCount_0f7a4 43 = .ok (.bipush 16, 2) := by decide +kernel
theorem dJ6_bitCount_0f7a4_45 : decode cJ6_bitCount_0f7a4 45 = .ok (.iushr, 1) := by decide +kernel
theorem dJ6_bitCount_0f7a4_46 : decode cJ6_bitCount_0f7a4 46 = .ok (.iadd, 1) := by decide +kernel
theorem dJ6_bitCount_0f7a4_47 : decode cJ6_bitCount_0f7a4 47 = .ok (.istore_n 0, 1) := by decide +kernel
theorem dJ6_bitCount_0f7a4_48 : decode cJ6_bitCount_0f7a4 48 = .ok (.iload_n 0, 1) := by decide +kernel
theorem dJ6_bitCount_0f7a4_49 : decode cJ6_bitCount_0f7a4 49 = .ok (.bipush 63, 2) := by decide +kernel
theorem dJ6_bitCount_0f7a4_51 : decode cJ6_bitCount_0f7a4 51 = .ok (.iand, 1) := by decide +kernel
theorem dJ6_bitCount_0f7a4_52 : decode cJ6_bitCount_0f7a4 52 = .ok (.ireturn, 1) := by decide +kernel
theorem dJ13_bitCount_95d88_0 : decode cJ13_bitCount_95d88 0 = .ok (.lload_n 0, 1) := by decide +kernel
theorem dJ13_bitCount_95d88_1 : decode cJ13_bitCount_95d88 1 = .ok (.lload_n 0, 1) := by decide +kernel
theorem dJ13_bitCount_95d88_2 : decode cJ13_bitCount_95d88 2 = .ok (.iconst 1, 1) := by decide +kernel
theorem dJ13_bitCount_95d88_3 : decode cJ13_bitCount_95d88 3 = .ok (.lushr, 1) := by decide +kernel
theorem dJ13_bitCount_95d88_4 : decode cJ13_bitCount_95d88 4 = .ok (.ldc2_w 314, 3) := by decide +kernel
theorem dJ13_bitCount_95d88_7 : decode cJ13_bitCount_95d88 7 = .ok (.land, 1) := by decide +kernel
theorem dJ13_bitCount_95d88_8 : decode cJ13_bitCount_95d88 8 = .ok (.lsub, 1) := by decide +kernel
theorem dJ13_bitCount_95d88_9 : decode cJ13_bitCount_95d88 9 = .ok (.lstore_n 0, 1) := by decide +kernel
theorem dJ13_bitCount_95d88_10 : decode cJ13_bitCount_95d88 10 = .ok (.lload_n 0, 1) := by decide +kernel
theorem dJ13_bitCount_95d88_11 : decode cJ13_bitCount_95d88 11 = .ok (.ldc2_w 316, 3) := by decide +kernel
theorem dJ13_bitCount_95d88_14 : decode cJ13_bitCount_95d88 14 = .ok (.land, 1) := by decide +kernel
theorem dJ13_bitCount_95d88_15 : decode cJ13_bitCount_95d88 15 = .ok (.lload_n 0, 1) := by decide +kernel
theorem dJ13_bitCount_95d88_16 : decode cJ13_bitCount_95d88 16 = .ok (.iconst 2, 1) := by decide +kernel
theorem dJ13_bitCount_95d88_17 : decode cJ13_bitCount_95d88 17 = .ok (.lushr, 1) := by decide +kernel
theorem dJ13_bitCount_95d88_18 : decode cJ13_bitCount_95d88 18 = .ok (.ldc2_w 316, 3) := by decide +kernel
theorem dJ13_bitCount_95d88_21 : decode cJ13_bitCount_95d88 21 = .ok (.land, 1) := by decide +kernel
theorem dJ13_bitCount_95d88_22 : decode cJ13_bitCount_95d88 22 = .ok (.ladd, 1) := by decide +kernel
theorem dJ13_bitCount_95d88_23 : decode cJ13_bitCount_95d88 23 = .ok (.lstore_n 0, 1) := by decide +kernel
theorem dJ13_bitCount_95d88_24 : decode cJ13_bitCount_95d88 24 = .ok (.lload_n 0, 1) := by decide +kernel
theorem dJ13_bitCount_95d88_25 : decode cJ13_bitCount_95d88 25 = .ok (.lload_n 0, 1) := by decide +kernel
theorem dJ13_bitCount_95d88_26 : decode cJ13_bitCount_95d88 26 = .ok (.iconst 4, 1) := by decide +kernel
theorem dJ13_bitCount_95d88_27 : decode cJ13_bitCount_95d88 27 = .ok (.lushr, 1) := by decide +kernel
theorem dJ13_bitCount_95d88_28 : decode cJ13_bitCount_95d88 28 = .ok (.ladd, 1) := by decide +kernel
theorem dJ13_bitCount_95d88_29 : decode cJ13_bitCount_95d88 29 = .ok (.ldc2_w 318, 3) := by decide +kernel
theorem dJ13_bitCount_95d88_32 : decode cJ13_bitCount_95d88 32 = .ok (.land, 1) := by decide +kernel
theorem dJ13_bitCount_95d88_33 : decode cJ13_bitCount_95d88 33 = .ok (.lstore_n 0, 1) := by decide +kernel
theorem dJ13_bitCount_95d88_34 : decode cJ13_bitCount_95d88 34 = .ok (.lload_n 0, 1) := by decide +kernel
theorem dJ13_bitCount_95d88_35 : decode cJ13_bitCount_95d88 35 = .ok (.lload_n 0, 1) := by decide +kernel
theorem dJ13_bitCount_95d88_36 : decode cJ13_bitCount_95d88 36 = .ok (.bipush 8, 2) := by decide +kernel
theorem dJ13_bitCount_95d88_38 : decode cJ13_bitCount_95d88 38 = .ok (.lushr, 1) := by decide +kernel
theorem dJ13_bitCount_95d88_39 : decode cJ13_bitCount_95d88 39 = .ok (.ladd, 1) := by decide +kernel
theorem dJ13_bitCount_95d88_40 : decode cJ13_bitCount_95d88 40 = .ok (.lstore_n 0, 1) := by decide +kernel
theorem dJ13_bitCount_95d88_41 : decode cJ13_bitCount_95d88 41 = .ok (.lload_n 0, 1) := by decide +kernel
theorem dJ13_bitCount_95d88_42 : decode cJ13_bitCount_95d88 42 = .ok (.lload_n 0, 1) := by decide +kernel
theorem dJ13_bitCount_95d88_43 : decode cJ13_bitCount_95d88 43 = .ok (.bipush 16, 2) := by decide +kernel
theorem dJ13_bitCount_95d88_45 : decode cJ13_bitCount_95d88 45 = .ok (.lushr, 1) := by decide +kernel
theorem dJ13_bitCount_95d88_46 : decode cJ13_bitCount_95d88 46 = .ok (.ladd, 1) := by decide +kernel
theorem dJ13_bitCount_95d88_47 : decode cJ13_bitCount_95d88 47 = .ok (.lstore_n 0, 1) := by decide +kernel
theorem dJ13_bitCount_95d88_48 : decode cJ13_bitCount_95d88 48 = .ok (.lload_n 0, 1) := by decide +kernel
theorem dJ13_bitCount_95d88_49 : decode cJ13_bitCount_95d88 49 = .ok (.lload_n 0, 1) := by decide +kernel
theorem dJ13_bitCount_95d88_50 : decode cJ13_bitCount_95d88 50 = .ok (.bipush 32, 2) := by decide +kernel
theorem dJ13_bitCount_95d88_52 : decode cJ13_bitCount_95d88 52 = .ok (.lushr, 1) := by decide +kernel
theorem dJ13_bitCount_95d88_53 : decode cJ13_bitCount_95d88 53 = .ok (.ladd, 1) := by decide +kernel
theorem dJ13_bitCount_95d88_54 : decode cJ13_bitCount_95d88 54 = .ok (.lstore_n 0, 1) := by decide +kernel
theorem dJ13_bitCount_95d88_55 : decode cJ13_bitCount_95d88 55 = .ok (.lload_n 0, 1) := by decide +kernel
theorem dJ13_bitCount_95d88_56 : decode cJ13_bitCount_95d88 56 = .ok (.l2i, 1) := by decide +kernel
theorem dJ13_bitCount_95d88_57 : decode cJ13_bitCount_95d88 57 = .ok (.bipush 127, 2) := by decide +kernel
theorem dJ13_bitCount_95d88_59 : decode cJ13_bitCount_95d88 59 = .ok (.iand, 1) := by decide +kernel
theorem dJ13_bitCount_95d88_60 : decode cJ13_bitCount_95d88 60 = .ok (.ireturn, 1) := by decide +kernel
theorem dJ9_max_7cf53_0 : decode cJ9_max_7cf53 0 = .ok (.iload_n 0, 1) := by decide +kernel
theorem dJ9_max_7cf53_1 : decode cJ9_max_7cf53 1 = .ok (.iload_n 1, 1) := by decide +kernel
theorem dJ9_max_7cf53_2 : decode cJ9_max_7cf53 2 = .ok (.if_icmp .lt 7, 3) := by decide +kernel
theorem dJ9_max_7cf53_5 : decode cJ9_max_7cf53 5 = .ok (.iload_n 0, 1) := by decide +kernel
theorem dJ9_max_7cf53_6 : decode cJ9_max_7cf53 6 = .ok (.goto 4, 3) := by decide +kernel
theorem dJ9_max_7cf53_9 : decode cJ9_max_7cf53 9 = .ok (.iload_n 1, 1) := by decide +kernel
theorem dJ9_max_7cf53_10 : decode cJ9_max_7cf53 10 = .ok (.ireturn, 1) := by decide +kernel
theorem dJ9_min_7cf53_0 : decode cJ9_min_7cf53 0 = .ok (.iload_n 0, 1) := by decide +kernel
theorem dJ9_min_7cf53_1 : decode cJ9_min_7cf53 1 = .ok (.iload_n 1, 1) := by decide +kernel
theorem dJ9_min_7cf53_2 : decode cJ9_min_7cf53 2 = .ok (.if_icmp .gt 7, 3) := by decide +kernel
theorem dJ9_min_7cf53_5 : decode cJ9_min_7cf53 5 = .ok (.iload_n 0, 1) := by decide +kernel
theorem dJ9_min_7cf53_6 : decode cJ9_min_7cf53 6 = .ok (.goto 4, 3) := by decide +kernel
theorem dJ9_min_7cf53_9 : decode cJ9_min_7cf53 9 = .ok (.iload_n 1, 1) := by decide +kernel
theorem dJ9_min_7cf53_10 : decode cJ9_min_7cf53 10 = .ok (.ireturn, 1) := by decide +kernel
theorem dJ7_fill_d0a16_0 : decode cJ7_fill_d0a16 0 = .ok (.iconst 0, 1) := by decide +kernel
theorem dJ7_fill_d0a16_1 : decode cJ7_fill_d0a16 1 = .ok (.istore_n 3, 1) := by decide +kernel
theorem dJ7_fill_d0a16_2 : decode cJ7_fill_d0a16 2 = .ok (.aload_n 0, 1) := by decide +kernel
theorem dJ7_fill_d0a16_3 : decode cJ7_fill_d0a16 3 = .ok (.arraylength, 1) := by decide +kernel
theorem dJ7_fill_d0a16_4 : decode cJ7_fill_d0a16 4 = .ok (.istore 4, 2) := by decide +kernel
theorem dJ7_fill_d0a16_6 : decode cJ7_fill_d0a16 6 = .ok (.iload_n 3, 1) := by decide +kernel
theorem dJ7_fill_d0a16_7 : decode cJ7_fill_d0a16 7 = .ok (.iload 4, 2) := by decide +kernel
theorem dJ7_fill_d0a16_9 : decode cJ7_fill_d0a16 9 = .ok (.if_icmp .ge 13, 3) := by decide +kernel
theorem dJ7_fill_d0a16_12 : decode cJ7_fill_d0a16 12 = .ok (.aload_n 0, 1) := by decide +kernel
theorem dJ7_fill_d0a16_13 : decode cJ7_fill_d0a16 13 = .ok (.iload_n 3, 1) := by decide +kernel
theorem dJ7_fill_d0a16_14 : decode cJ7_fill_d0a16 14 = .ok (.lload_n 1, 1) := by decide +kernel
theorem dJ7_fill_d0a16_15 : decode cJ7_fill_d0a16 15 = .ok (.lastore, 1) := by decide +kernel
theorem dJ7_fill_d0a16_16 : decode cJ7_fill_d0a16 16 = .ok (.iinc 3 1, 3) := by decide +kernel
theorem dJ7_fill_d0a16_19 : decode cJ7_fill_d0a16 19 = .ok (.goto (-13), 3) := by decide +kernel
theorem dJ7_fill_d0a16_22 : decode cJ7_fill_d0a16 22 = .ok (.return_, 1) := by decide +kernel
set_option maxRecDepth 20000 in
theorem ggL_law_X9_init : GoodIn wsL_law wsX9_init := goodIn_r _ [8, 9, 10, 11, 12, 13, 14, 15, 16, 17, 18, 19, 20, 21, 22, 23, 24, 25, 26, 27, 28, 29, 30, 31, 32, 33, 34, 35, 36, 37, 38, 39, 40, 41, 42, 43, 44, 45, 46, 47, 48, 49, 50, 51, 52, 53, 54, 55, 56, 57, 58, 59, 60, 61, 62, 63, 64, 65, 66, 67, 68, 69, 70, 71, 72, 73, 74, 75, 76, 77, 78, 79, 80, 81, 82, 83, 84, 85, 86, 87, 88, 89, 886, 887, 888, 889, 890, 891, 859, 860, 861, 862, 863, 864, 865, 866, 892, 893, 894, 895, 896, 897, 898, 899, 900, 901, 902, 903, 904, 905, 906, 907, 908, 909, 910, 911, 912, 913, 914, 915, 916, 917, 918] (by decide +kernel) (by decide +kernel)
set_option maxRecDepth 20000 in
theorem gL_law_X9_init : GoodIn wsL_law (wsX9_init) := ggL_law_X9_init
set_option maxRecDepth 20000 in
theorem ggL_law_X10_init : GoodIn wsL_law wsX10_init := goodIn_r _ [92, 93, 10, 11, 50, 94, 95, 96, 97, 98, 99, 100, 101, 102, 72, 103, 104, 867, 868, 869, 870, 871, 872, 873, 874, 875, 876, 877, 878, 879, 880, 881, 882, 883, 884, 885] (by decide +kernel) (by decide +kernel)
set_option maxRecDepth 20000 in
theorem gL_law_X10_init : GoodIn wsL_law (wsX10_init) := ggL_law_X10_init
set_option maxRecDepth 20000 in
theorem ggL_law_X9_monk : GoodIn wsL_law wsX9_monk := goodIn_r _ [108, 15, 109, 110, 111, 112, 2, 113, 114, 115, 116, 117, 118, 119, 14, 120, 121, 122, 51, 52, 123, 124, 125, 126, 127, 128, 129, 859, 860, 861, 862, 863, 864, 865, 866, 886, 887, 888, 889, 890, 891] (by decide +kernel) (by decide +kernel)
set_option maxRecDepth 20000 in
theorem gL_law_X9_monk : GoodIn wsL_law (wsV RL 13 RX9 yX9_monk wsX9_monk) := goodIn_app (goodIn_of _ (by decide +kernel)) ggL_law_X9_monk
set_option maxRecDepth 20000 in
theorem ggL_law_X10_monk : GoodIn wsL_law wsX10_monk := goodIn_r _ [133, 97, 104, 134, 94, 95, 135, 136, 5, 137, 138, 139, 140, 867, 868, 869, 870, 871, 872, 873, 874, 875, 876, 877, 878, 879, 880, 881, 882, 883, 884, 885] (by decide +kernel) (by decide +kernel)
set_option maxRecDepth 20000 in
theorem gL_law_X10_monk : GoodIn wsL_law (wsV RL 17 RX10 yX10_monk wsX10_monk) := goodIn_app (goodIn_of _ (by decide +kernel)) ggL_law_X10_monk
set_option maxRecDepth 20000 in
theorem ggL_law_X9_leave : GoodIn wsL_law wsX9_leave := goodIn_r _ [144, 15, 110, 145, 146, 147, 14, 148, 121, 149, 150, 151, 152, 122, 123, 124, 125, 126, 127, 128, 129, 859, 860, 861, 862, 863, 864, 865, 866, 886, 887, 888, 889, 890, 891] (by decide +kernel) (by decide +kernel)
set_option maxRecDepth 20000 in
theorem gL_law_X9_leave : GoodIn wsL_law (wsV RL 18 RX9 yX9_leave wsX9_leave) := goodIn_app (goodIn_of _ (by decide +kernel)) ggL_law_X9_leave
set_option maxRecDepth 20000 in
theorem ggL_law_X10_leave : GoodIn wsL_law wsX10_leave := goodIn_r _ [156, 104, 134, 157, 158, 159, 5, 160, 135, 136, 137, 161, 162, 163, 138, 139, 140, 867, 868, 869, 870, 871, 872, 873, 874, 875, 876, 877, 878, 879, 880, 881, 882, 883, 884, 885] (by decide +kernel) (by decide +kernel)
set_option maxRecDepth 20000 in
theorem gL_law_X10_leave : GoodIn wsL_law (wsV RL 22 RX10 yX10_leave wsX10_leave) := goodIn_app (goodIn_of _ (by decide +kernel)) ggL_law_X10_leave
set_option maxRecDepth 20000 in
theorem ggL_law_X9_set : GoodIn wsL_law wsX9_set := goodIn_r _ [167, 168, 169, 170, 2, 171, 172, 15, 110, 109, 114, 115, 116, 173, 174, 175, 14, 176, 51, 177, 178, 179, 180, 181, 182, 183, 184, 185, 859, 860, 861, 862, 863, 864, 865, 866, 886, 887, 888, 889, 890, 891] (by decide +kernel) (by decide +kernel)
set_option maxRecDepth 20000 in
theorem gL_law_X9_set : GoodIn wsL_law (wsV RL 23 RX9 yX9_set wsX9_set) := goodIn_app (goodIn_of _ (by decide +kernel)) ggL_law_X9_set
set_option maxRecDepth 20000 in
theorem ggL_law_X10_set : GoodIn wsL_law wsX10_set := goodIn_r _ [189, 96, 104, 94, 97, 98, 135, 136, 5, 137, 161, 162, 163, 867, 868, 869, 870, 871, 872, 873, 874, 875, 876, 877, 878, 879, 880, 881, 882, 883, 884, 885] (by decide +kernel) (by decide +kernel)
set_option maxRecDepth 20000 in
theorem gL_law_X10_set : GoodIn wsL_law (wsV RL 27 RX10 yX10_set wsX10_set) := goodIn_app (goodIn_of _ (by decide +kernel)) ggL_law_X10_set
set_option maxRecDepth 20000 in
theorem ggL_law_X9_say : GoodIn wsL_law wsX9_say := goodIn_r _ [193, 19, 194, 114, 115, 2, 116, 195, 196, 197, 18, 198, 199, 56, 859, 860, 861, 862, 863, 864, 865, 866, 892, 893, 894, 895, 896] (by decide +kernel) (by decide +kernel)
set_option maxRecDepth 20000 in
theorem gL_law_X9_say : GoodIn wsL_law (wsV RL 28 RX9 yX9_say wsX9_say) := goodIn_app (goodIn_of _ (by decide +kernel)) ggL_law_X9_say
set_option maxRecDepth 20000 in
theorem ggL_law_X10_say : GoodIn wsL_law wsX10_say := goodIn_r _ [203, 204, 100, 135, 136, 5, 137, 867, 868, 869, 870, 871, 872, 873, 874, 875, 876, 877, 878, 879, 880, 881, 882, 883, 884, 885] (by decide +kernel) (by decide +kernel)
set_option maxRecDepth 20000 in
theorem gL_law_X10_say : GoodIn wsL_law (wsV RL 31 RX10 yX10_say wsX10_say) := goodIn_app (goodIn_of _ (by decide +kernel)) ggL_law_X10_say
set_option maxRecDepth 20000 in
theorem ggL_law_X9_wipe : GoodIn wsL_law wsX9_wipe := goodIn_r _ [208, 19, 194, 859, 860, 861, 862, 863, 864, 865, 866, 892, 893, 894, 895, 896] (by decide +kernel) (by decide +kernel)
set_option maxRecDepth 20000 in
theorem gL_law_X9_wipe : GoodIn wsL_law (wsV RL 32 RX9 yX9_wipe wsX9_wipe) := goodIn_app (goodIn_of _ (by decide +kernel)) ggL_law_X9_wipe
set_option maxRecDepth 20000 in
theorem ggL_law_X10_wipe : GoodIn wsL_law wsX10_wipe := goodIn_r _ [212, 204, 867, 868, 869, 870, 871, 872, 873, 874, 875, 876, 877, 878, 879, 880, 881, 882, 883, 884, 885] (by decide +kernel) (by decide +kernel)
set_option maxRecDepth 20000 in
theorem gL_law_X10_wipe : GoodIn wsL_law (wsV RL 36 RX10 yX10_wipe wsX10_wipe) := goodIn_app (goodIn_of _ (by decide +kernel)) ggL_law_X10_wipe
set_option maxRecDepth 20000 in
theorem ggL_law_X9_fault : GoodIn wsL_law wsX9_fault := goodIn_r _ [216, 19, 217, 218, 219, 18, 220, 221, 199, 56, 222, 223, 224, 225, 226, 227, 228, 57, 58, 229, 230, 231, 112, 2, 113, 232, 233, 234, 859, 860, 861, 862, 863, 864, 865, 866, 892, 893, 894, 895, 896] (by decide +kernel) (by decide +kernel)
set_option maxRecDepth 20000 in
theorem gL_law_X9_fault : GoodIn wsL_law (wsV RL 37 RX9 yX9_fault wsX9_fault) := goodIn_app (goodIn_of _ (by decide +kernel)) ggL_law_X9_fault
set_option maxRecDepth 20000 in
theorem ggL_law_X10_fault : GoodIn wsL_law wsX10_fault := goodIn_r _ [238, 239, 240, 241, 5, 242, 204, 100, 243, 244, 245, 135, 136, 137, 867, 868, 869, 870, 871, 872, 873, 874, 875, 876, 877, 878, 879, 880, 881, 882, 883, 884, 885] (by decide +kernel) (by decide +kernel)
set_option maxRecDepth 20000 in
theorem gL_law_X10_fault : GoodIn wsL_law (wsV RL 40 RX10 yX10_fault wsX10_fault) := goodIn_app (goodIn_of _ (by decide +kernel)) ggL_law_X10_fault
set_option maxRecDepth 20000 in
theorem ggL_law_X9_judge : GoodIn wsL_law wsX9_judge := goodIn_r _ [249, 23, 19, 15, 250, 251, 252, 114, 115, 2, 116, 253, 254, 255, 22, 256, 257, 258, 259, 260, 261, 262, 218, 219, 18, 220, 221, 199, 56, 222, 223, 224, 225, 226, 227, 228, 57, 58, 229, 230, 231, 112, 113, 232, 233, 234, 263, 264, 265, 266, 63, 267, 268, 269, 270, 271, 272, 273, 14, 274, 121, 122, 48, 49, 51, 275, 276, 277, 278, 52, 279, 280, 281, 282, 283, 146, 147, 148, 284, 285, 286, 287, 288, 289, 290, 291, 292, 293, 294, 295, 296, 297, 298, 299, 300, 301, 302, 303, 304, 305, 306, 307, 308, 309, 310, 311, 312, 313, 177, 178, 179, 180, 314, 315, 316, 317, 318, 319, 320, 321, 322, 323, 324, 325, 326, 327, 328, 329, 330, 331, 332, 333, 334, 335, 336, 337, 338, 339, 340, 341, 342, 343, 344, 345, 346, 347, 348, 349, 350, 174, 175, 176, 859, 860, 861, 862, 863, 864, 865, 866, 897, 898, 899, 900, 901, 902, 903, 892, 893, 894, 895, 896, 886, 887, 888, 889, 890, 891] (by decide +kernel) (by decide +kernel)
set_option maxRecDepth 20000 in
theorem gL_law_X9_judge : GoodIn wsL_law (wsV RL 41 RX9 yX9_judge wsX9_judge) := goodIn_app (goodIn_of _ (by decide +kernel)) ggL_law_X9_judge
set_option maxRecDepth 20000 in
theorem ggL_law_X10_judge : GoodIn wsL_law wsX10_judge := goodIn_r _ [354, 355, 135, 136, 5, 137, 239, 240, 241, 242, 204, 100, 243, 244, 245, 356, 357, 358, 359, 360, 361, 362, 363, 364, 101, 97, 98, 365, 366, 367, 368, 134, 94, 369, 370, 371, 372, 104, 161, 162, 163, 373, 374, 375, 376, 157, 158, 159, 160, 377, 378, 379, 380, 381, 382, 383, 384, 385, 386, 387, 388, 389, 390, 391, 392, 393, 394, 395, 396, 397, 398, 399, 400, 401, 95, 402, 403, 404, 405, 406, 407, 408, 409, 410, 411, 412, 413, 867, 868, 869, 870, 871, 872, 873, 874, 875, 876, 877, 878, 879, 880, 881, 882, 883, 884, 885] (by decide +kernel) (by decide +kernel)
set_option maxRecDepth 20000 in
theorem gL_law_X10_judge : GoodIn wsL_law (wsV RL 44 RX10 yX10_judge wsX10_judge) := goodIn_app (goodIn_of _ (by decide +kernel)) ggL_law_X10_judge
set_option maxRecDepth 20000 in
theorem ggL_law_X9_done : GoodIn wsL_law wsX9_done := goodIn_r _ [417, 23, 19, 15, 418, 194, 419, 253, 254, 255, 22, 256, 257, 258, 259, 260, 261, 262, 218, 219, 18, 220, 221, 199, 56, 222, 223, 224, 225, 226, 227, 228, 57, 58, 229, 230, 231, 112, 2, 113, 232, 233, 234, 263, 264, 265, 266, 63, 267, 268, 269, 270, 271, 272, 273, 14, 274, 121, 122, 48, 49, 51, 275, 276, 277, 278, 52, 279, 280, 281, 282, 283, 146, 147, 148, 284, 285, 286, 287, 288, 289, 290, 291, 292, 293, 294, 295, 296, 297, 298, 299, 300, 301, 302, 303, 304, 305, 306, 307, 308, 309, 310, 311, 312, 313, 177, 178, 179, 180, 314, 315, 316, 317, 318, 319, 320, 321, 322, 323, 324, 325, 326, 327, 328, 329, 330, 331, 332, 333, 334, 335, 336, 337, 338, 339, 340, 341, 342, 343, 344, 345, 346, 347, 348, 349, 350, 174, 175, 176, 420, 859, 860, 861, 862, 863, 864, 865, 866, 897, 898, 899, 900, 901, 902, 903, 892, 893, 894, 895, 896, 886, 887, 888, 889, 890, 891] (by decide +kernel) (by decide +kernel)
set_option maxRecDepth 20000 in
theorem gL_law_X9_done : GoodIn wsL_law (wsV RL 45 RX9 yX9_done wsX9_done) := goodIn_app (goodIn_of _ (by decide +kernel)) ggL_law_X9_done
set_option maxRecDepth 20000 in
theorem ggL_law_X10_done : GoodIn wsL_law wsX10_done := goodIn_r _ [424, 364, 134, 94, 101, 204, 360, 425, 426, 427, 5, 428, 239, 240, 241, 242, 100, 243, 244, 245, 135, 136, 137, 356, 357, 358, 359, 361, 362, 363, 355, 97, 98, 365, 366, 367, 368, 369, 370, 371, 372, 104, 161, 162, 163, 373, 374, 375, 376, 157, 158, 159, 160, 377, 378, 379, 380, 381, 382, 383, 384, 385, 386, 387, 388, 389, 390, 391, 392, 393, 394, 395, 396, 397, 398, 399, 400, 401, 95, 402, 403, 404, 405, 406, 407, 408, 409, 410, 411, 412, 413, 867, 868, 869, 870, 871, 872, 873, 874, 875, 876, 877, 878, 879, 880, 881, 882, 883, 884, 885] (by decide +kernel) (by decide +kernel)
set_option maxRecDepth 20000 in
theorem gL_law_X10_done : GoodIn wsL_law (wsV RL 48 RX10 yX10_done wsX10_done) := goodIn_app (goodIn_of _ (by decide +kernel)) ggL_law_X10_done
set_option maxRecDepth 20000 in
theorem ggL_law_X9_state : GoodIn wsL_law wsX9_state := goodIn_r _ [432, 15, 145, 146, 147, 14, 148, 121, 114, 115, 2, 116, 433, 434, 435, 436, 51, 298, 299, 300, 301, 122, 859, 860, 861, 862, 863, 864, 865, 866, 886, 887, 888, 889, 890, 891] (by decide +kernel) (by decide +kernel)
set_option maxRecDepth 20000 in
theorem gL_law_X9_state : GoodIn wsL_law (wsV RL 49 RX9 yX9_state wsX9_state) := goodIn_app (goodIn_of _ (by decide +kernel)) ggL_law_X9_state
set_option maxRecDepth 20000 in
theorem ggL_law_X10_state : GoodIn wsL_law wsX10_state := goodIn_r _ [440, 94, 134, 157, 158, 159, 5, 160, 104, 135, 136, 137, 161, 162, 163, 867, 868, 869, 870, 871, 872, 873, 874, 875, 876, 877, 878, 879, 880, 881, 882, 883, 884, 885] (by decide +kernel) (by decide +kernel)
set_option maxRecDepth 20000 in
theorem gL_law_X10_state : GoodIn wsL_law (wsV RL 52 RX10 yX10_state wsX10_state) := goodIn_app (goodIn_of _ (by decide +kernel)) ggL_law_X10_state
set_option maxRecDepth 20000 in
theorem ggL_law_X9_behind : GoodIn wsL_law wsX9_behind := goodIn_r _ [444, 15, 23, 19, 418, 145, 146, 147, 14, 148, 121, 114, 115, 2, 116, 253, 254, 255, 22, 256, 257, 258, 259, 260, 261, 262, 218, 219, 18, 220, 221, 199, 56, 222, 223, 224, 225, 226, 227, 228, 57, 58, 229, 230, 231, 112, 113, 232, 233, 234, 263, 264, 265, 266, 63, 267, 268, 269, 270, 271, 272, 273, 274, 122, 48, 49, 51, 275, 276, 277, 278, 52, 279, 280, 281, 282, 283, 284, 285, 286, 287, 288, 289, 290, 291, 292, 293, 294, 295, 296, 297, 298, 299, 300, 301, 302, 303, 304, 305, 306, 307, 308, 309, 310, 311, 312, 313, 177, 178, 179, 180, 314, 315, 316, 317, 318, 319, 320, 321, 322, 323, 324, 325, 326, 327, 328, 329, 330, 331, 332, 333, 334, 335, 336, 337, 338, 339, 340, 341, 342, 343, 344, 345, 346, 347, 348, 349, 350, 174, 175, 176, 433, 434, 435, 436, 859, 860, 861, 862, 863, 864, 865, 866, 897, 898, 899, 900, 901, 902, 903, 886, 887, 888, 889, 890, 891, 892, 893, 894, 895, 896] (by decide +kernel) (by decide +kernel)
set_option maxRecDepth 20000 in
theorem gL_law_X9_behind : GoodIn wsL_law (wsV RL 53 RX9 yX9_behind wsX9_behind) := goodIn_app (goodIn_of _ (by decide +kernel)) ggL_law_X9_behind
set_option maxRecDepth 20000 in
theorem ggL_law_X10_behind : GoodIn wsL_law wsX10_behind := goodIn_r _ [448, 101, 364, 157, 158, 159, 5, 160, 104, 135, 136, 137, 161, 162, 163, 425, 426, 427, 428, 239, 240, 241, 242, 204, 100, 243, 244, 245, 356, 357, 358, 359, 360, 361, 362, 363, 355, 97, 98, 365, 366, 367, 368, 134, 94, 369, 370, 371, 372, 373, 374, 375, 376, 377, 378, 379, 380, 381, 382, 383, 384, 385, 386, 387, 388, 389, 390, 391, 392, 393, 394, 395, 396, 397, 398, 399, 400, 401, 95, 402, 403, 404, 405, 406, 407, 408, 409, 410, 411, 412, 413, 867, 868, 869, 870, 871, 872, 873, 874, 875, 876, 877, 878, 879, 880, 881, 882, 883, 884, 885] (by decide +kernel) (by decide +kernel)
set_option maxRecDepth 20000 in
theorem gL_law_X10_behind : GoodIn wsL_law (wsV RL 56 RX10 yX10_behind wsX10_behind) := goodIn_app (goodIn_of _ (by decide +kernel)) ggL_law_X10_behind
set_option maxRecDepth 20000 in
theorem ggL_law_X9_breaths : GoodIn wsL_law wsX9_breaths := goodIn_r _ [452, 23, 19, 15, 453, 454, 114, 115, 2, 116, 253, 254, 255, 22, 256, 257, 258, 259, 260, 261, 262, 218, 219, 18, 220, 221, 199, 56, 222, 223, 224, 225, 226, 227, 228, 57, 58, 229, 230, 231, 112, 113, 232, 233, 234, 263, 264, 265, 266, 63, 267, 268, 269, 270, 271, 272, 273, 14, 274, 121, 122, 48, 49, 51, 275, 276, 277, 278, 52, 279, 280, 281, 282, 283, 146, 147, 148, 284, 285, 286, 287, 288, 289, 290, 291, 292, 293, 294, 295, 296, 297, 298, 299, 300, 301, 302, 303, 304, 305, 306, 307, 308, 309, 310, 311, 312, 313, 177, 178, 179, 180, 314, 315, 316, 317, 318, 319, 320, 321, 322, 323, 324, 325, 326, 327, 328, 329, 330, 331, 332, 333, 334, 335, 336, 337, 338, 339, 340, 341, 342, 343, 344, 345, 346, 347, 348, 349, 350, 174, 175, 176, 859, 860, 861, 862, 863, 864, 865, 866, 897, 898, 899, 900, 901, 902, 903, 892, 893, 894, 895, 896, 886, 887, 888, 889, 890, 891] (by decide +kernel) (by decide +kernel)
set_option maxRecDepth 20000 in
theorem gL_law_X9_breaths : GoodIn wsL_law (wsV RL 57 RX9 yX9_breaths wsX9_breaths) := goodIn_app (goodIn_of _ (by decide +kernel)) ggL_law_X9_breaths
set_option maxRecDepth 20000 in
theorem ggL_law_X10_breaths : GoodIn wsL_law wsX10_breaths := goodIn_r _ [458, 361, 362, 135, 136, 5, 137, 425, 426, 427, 428, 239, 240, 241, 242, 204, 100, 243, 244, 245, 356, 357, 358, 359, 360, 363, 355, 364, 101, 97, 98, 365, 366, 367, 368, 134, 94, 369, 370, 371, 372, 104, 161, 162, 163, 373, 374, 375, 376, 157, 158, 159, 160, 377, 378, 379, 380, 381, 382, 383, 384, 385, 386, 387, 388, 389, 390, 391, 392, 393, 394, 395, 396, 397, 398, 399, 400, 401, 95, 402, 403, 404, 405, 406, 407, 408, 409, 410, 411, 412, 413, 867, 868, 869, 870, 871, 872, 873, 874, 875, 876, 877, 878, 879, 880, 881, 882, 883, 884, 885] (by decide +kernel) (by decide +kernel)
set_option maxRecDepth 20000 in
theorem gL_law_X10_breaths : GoodIn wsL_law (wsV RL 60 RX10 yX10_breaths wsX10_breaths) := goodIn_app (goodIn_of _ (by decide +kernel)) ggL_law_X10_breaths
set_option maxRecDepth 20000 in
theorem ggL_law_X9_noticed : GoodIn wsL_law wsX9_noticed := goodIn_r _ [462, 23, 19, 15, 463, 253, 254, 255, 22, 256, 257, 258, 259, 260, 261, 262, 218, 219, 18, 220, 221, 199, 56, 222, 223, 224, 225, 226, 227, 228, 57, 58, 229, 230, 231, 112, 2, 113, 232, 233, 234, 263, 264, 265, 266, 63, 267, 268, 269, 270, 271, 272, 273, 14, 274, 121, 122, 48, 49, 51, 275, 276, 277, 278, 52, 279, 280, 281, 282, 283, 146, 147, 148, 284, 285, 286, 287, 288, 289, 290, 291, 292, 293, 294, 295, 296, 297, 298, 299, 300, 301, 302, 303, 304, 305, 306, 307, 308, 309, 310, 311, 312, 313, 177, 178, 179, 180, 314, 315, 316, 317, 318, 319, 320, 321, 322, 323, 324, 325, 326, 327, 328, 329, 330, 331, 332, 333, 334, 335, 336, 337, 338, 339, 340, 341, 342, 343, 344, 345, 346, 347, 348, 349, 350, 174, 175, 176, 859, 860, 861, 862, 863, 864, 865, 866, 897, 898, 899, 900, 901, 902, 903, 892, 893, 894, 895, 896, 886, 887, 888, 889, 890, 891] (by decide +kernel) (by decide +kernel)
set_option maxRecDepth 20000 in
theorem gL_law_X9_noticed : GoodIn wsL_law (wsV RL 61 RX9 yX9_noticed wsX9_noticed) := goodIn_app (goodIn_of _ (by decide +kernel)) ggL_law_X9_noticed
set_option maxRecDepth 20000 in
theorem ggL_law_X10_noticed : GoodIn wsL_law wsX10_noticed := goodIn_r _ [467, 363, 425, 426, 427, 5, 428, 239, 240, 241, 242, 204, 100, 243, 244, 245, 135, 136, 137, 356, 357, 358, 359, 360, 361, 362, 355, 364, 101, 97, 98, 365, 366, 367, 368, 134, 94, 369, 370, 371, 372, 104, 161, 162, 163, 373, 374, 375, 376, 157, 158, 159, 160, 377, 378, 379, 380, 381, 382, 383, 384, 385, 386, 387, 388, 389, 390, 391, 392, 393, 394, 395, 396, 397, 398, 399, 400, 401, 95, 402, 403, 404, 405, 406, 407, 408, 409, 410, 411, 412, 413, 867, 868, 869, 870, 871, 872, 873, 874, 875, 876, 877, 878, 879, 880, 881, 882, 883, 884, 885] (by decide +kernel) (by decide +kernel)
set_option maxRecDepth 20000 in
theorem gL_law_X10_noticed : GoodIn wsL_law (wsV RL 64 RX10 yX10_noticed wsX10_noticed) := goodIn_app (goodIn_of _ (by decide +kernel)) ggL_law_X10_noticed
set_option maxRecDepth 20000 in
theorem ggL_law_X9_ahead : GoodIn wsL_law wsX9_ahead := goodIn_r _ [471, 15, 472, 331, 332, 14, 333, 51, 298, 299, 300, 301, 122, 859, 860, 861, 862, 863, 864, 865, 866, 886, 887, 888, 889, 890, 891] (by decide +kernel) (by decide +kernel)
set_option maxRecDepth 20000 in
theorem gL_law_X9_ahead : GoodIn wsL_law (wsV RL 65 RX9 yX9_ahead wsX9_ahead) := goodIn_app (goodIn_of _ (by decide +kernel)) ggL_law_X9_ahead
set_option maxRecDepth 20000 in
theorem ggL_law_X10_ahead : GoodIn wsL_law wsX10_ahead := goodIn_r _ [476, 365, 366, 367, 5, 368, 134, 364, 101, 94, 406, 407, 408, 409, 161, 162, 163, 867, 868, 869, 870, 871, 872, 873, 874, 875, 876, 877, 878, 879, 880, 881, 882, 883, 884, 885] (by decide +kernel) (by decide +kernel)
set_option maxRecDepth 20000 in
theorem gL_law_X10_ahead : GoodIn wsL_law (wsV RL 68 RX10 yX10_ahead wsX10_ahead) := goodIn_app (goodIn_of _ (by decide +kernel)) ggL_law_X10_ahead
set_option maxRecDepth 20000 in
theorem ggL_law_X9_differ : GoodIn wsL_law wsX9_differ := goodIn_r _ [480, 15, 481, 347, 348, 14, 349, 122, 51, 330, 331, 332, 333, 298, 299, 300, 301, 350, 174, 175, 176, 177, 178, 179, 180, 859, 860, 861, 862, 863, 864, 865, 866, 886, 887, 888, 889, 890, 891] (by decide +kernel) (by decide +kernel)
set_option maxRecDepth 20000 in
theorem gL_law_X9_differ : GoodIn wsL_law (wsV RL 69 RX9 yX9_differ wsX9_differ) := goodIn_app (goodIn_of _ (by decide +kernel)) ggL_law_X9_differ
set_option maxRecDepth 20000 in
theorem ggL_law_X10_differ : GoodIn wsL_law wsX10_differ := goodIn_r _ [485, 365, 366, 367, 5, 368, 134, 364, 101, 94, 410, 411, 412, 413, 397, 161, 162, 163, 867, 868, 869, 870, 871, 872, 873, 874, 875, 876, 877, 878, 879, 880, 881, 882, 883, 884, 885] (by decide +kernel) (by decide +kernel)
set_option maxRecDepth 20000 in
theorem gL_law_X10_differ : GoodIn wsL_law (wsV RL 72 RX10 yX10_differ wsX10_differ) := goodIn_app (goodIn_of _ (by decide +kernel)) ggL_law_X10_differ
set_option maxRecDepth 20000 in
theorem ggL_law_X9_alike : GoodIn wsL_law wsX9_alike := goodIn_r _ [489, 15, 490, 491, 492, 14, 493, 51, 298, 299, 300, 301, 122, 859, 860, 861, 862, 863, 864, 865, 866, 886, 887, 888, 889, 890, 891] (by decide +kernel) (by decide +kernel)
set_option maxRecDepth 20000 in
theorem gL_law_X9_alike : GoodIn wsL_law (wsV RL 73 RX9 yX9_alike wsX9_alike) := goodIn_app (goodIn_of _ (by decide +kernel)) ggL_law_X9_alike
set_option maxRecDepth 20000 in
theorem ggL_law_X10_alike : GoodIn wsL_law wsX10_alike := goodIn_r _ [497, 134, 94, 161, 162, 5, 163, 867, 868, 869, 870, 871, 872, 873, 874, 875, 876, 877, 878, 879, 880, 881, 882, 883, 884, 885] (by decide +kernel) (by decide +kernel)
set_option maxRecDepth 20000 in
theorem gL_law_X10_alike : GoodIn wsL_law (wsV RL 76 RX10 yX10_alike wsX10_alike) := goodIn_app (goodIn_of _ (by decide +kernel)) ggL_law_X10_alike
set_option maxRecDepth 20000 in
theorem ggL_law_X9_ends : GoodIn wsL_law wsX9_ends := goodIn_r _ [501, 15, 502, 503, 504, 505, 14, 506, 52, 51, 177, 178, 179, 180, 145, 146, 147, 148, 121, 859, 860, 861, 862, 863, 864, 865, 866, 886, 887, 888, 889, 890, 891] (by decide +kernel) (by decide +kernel)
set_option maxRecDepth 20000 in
theorem gL_law_X9_ends : GoodIn wsL_law (wsV RL 77 RX9 yX9_ends wsX9_ends) := goodIn_app (goodIn_of _ (by decide +kernel)) ggL_law_X9_ends
set_option maxRecDepth 20000 in
theorem ggL_law_X10_ends : GoodIn wsL_law wsX10_ends := goodIn_r _ [510, 134, 157, 158, 159, 5, 160, 104, 135, 136, 137, 161, 162, 163, 511, 512, 513, 514, 94, 95, 867, 868, 869, 870, 871, 872, 873, 874, 875, 876, 877, 878, 879, 880, 881, 882, 883, 884, 885] (by decide +kernel) (by decide +kernel)
set_option maxRecDepth 20000 in
theorem gL_law_X10_ends : GoodIn wsL_law (wsV RL 80 RX10 yX10_ends wsX10_ends) := goodIn_app (goodIn_of _ (by decide +kernel)) ggL_law_X10_ends
set_option maxRecDepth 20000 in
theorem ggL_law_X9_meet : GoodIn wsL_law wsX9_meet := goodIn_r _ [518, 15, 519, 299, 300, 14, 301, 122, 520, 521, 522, 523, 51, 52, 310, 311, 312, 313, 177, 178, 179, 180, 859, 860, 861, 862, 863, 864, 865, 866, 886, 887, 888, 889, 890, 891] (by decide +kernel) (by decide +kernel)
set_option maxRecDepth 20000 in
theorem gL_law_X9_meet : GoodIn wsL_law (wsV RL 81 RX9 yX9_meet wsX9_meet) := goodIn_app (goodIn_of _ (by decide +kernel)) ggL_law_X9_meet
set_option maxRecDepth 20000 in
theorem ggL_law_X10_meet : GoodIn wsL_law wsX10_meet := goodIn_r _ [527, 94, 95, 528, 529, 530, 5, 531, 134, 157, 158, 159, 160, 104, 135, 136, 137, 161, 162, 163, 867, 868, 869, 870, 871, 872, 873, 874, 875, 876, 877, 878, 879, 880, 881, 882, 883, 884, 885] (by decide +kernel) (by decide +kernel)
set_option maxRecDepth 20000 in
theorem gL_law_X10_meet : GoodIn wsL_law (wsV RL 84 RX10 yX10_meet wsX10_meet) := goodIn_app (goodIn_of _ (by decide +kernel)) ggL_law_X10_meet
set_option maxRecDepth 20000 in
theorem ggL_law_X9_bows : GoodIn wsL_law wsX9_bows := goodIn_r _ [535, 536, 27, 537, 538, 2, 539, 114, 115, 116, 540, 541, 542, 26, 543, 544, 545, 546, 547, 548, 549, 550, 551, 552, 553, 554, 555, 556, 557, 558, 559, 560, 561, 562, 563, 564, 565, 566, 567, 568, 569, 570, 571, 572, 573, 574, 575, 576, 577, 578, 579, 580, 581, 582, 583, 584, 585, 586, 587, 588, 859, 860, 861, 862, 863, 864, 865, 866, 904, 905] (by decide +kernel) (by decide +kernel)
set_option maxRecDepth 20000 in
theorem gL_law_X9_bows : GoodIn wsL_law (wsV RL 85 RX9 yX9_bows wsX9_bows) := goodIn_app (goodIn_of _ (by decide +kernel)) ggL_law_X9_bows
set_option maxRecDepth 20000 in
theorem ggL_law_X10_bows : GoodIn wsL_law wsX10_bows := goodIn_r _ [592, 593, 135, 136, 5, 137, 594, 595, 596, 597, 598, 599, 600, 601, 602, 603, 604, 605, 606, 607, 608] (by decide +kernel) (by decide +kernel)
set_option maxRecDepth 20000 in
theorem gL_law_X10_bows : GoodIn wsL_law (wsV RL 88 RX10 yX10_bows wsX10_bows) := goodIn_app (goodIn_of _ (by decide +kernel)) ggL_law_X10_bows
set_option maxRecDepth 20000 in
theorem ggL_law_X9_next : GoodIn wsL_law wsX9_next := goodIn_r _ [612, 172, 537, 538, 2, 539, 114, 115, 116, 613, 614, 26, 615, 616, 617, 618, 568, 569, 570, 619, 620, 621, 622, 623, 624, 625, 626, 627, 628, 574, 575, 576, 580, 581, 582, 583, 584, 585] (by decide +kernel) (by decide +kernel)
set_option maxRecDepth 20000 in
theorem gL_law_X9_next : GoodIn wsL_law (wsV RL 89 RX9 yX9_next wsX9_next) := goodIn_app (goodIn_of _ (by decide +kernel)) ggL_law_X9_next
set_option maxRecDepth 20000 in
theorem ggL_law_X10_next : GoodIn wsL_law wsX10_next := goodIn_r _ [632, 96, 135, 136, 5, 137, 594, 595, 596, 597, 598, 599, 600, 601, 602, 603, 604, 605, 606, 607, 608] (by decide +kernel) (by decide +kernel)
set_option maxRecDepth 20000 in
theorem gL_law_X10_next : GoodIn wsL_law (wsV RL 92 RX10 yX10_next wsX10_next) := goodIn_app (goodIn_of _ (by decide +kernel)) ggL_law_X10_next
set_option maxRecDepth 20000 in
theorem ggL_law_X9_elbows : GoodIn wsL_law wsX9_elbows := goodIn_r _ [636, 15, 502, 114, 115, 2, 116, 637, 335, 336, 14, 337, 51, 298, 299, 300, 301, 122, 338, 339, 340, 341, 123, 124, 125, 126, 127, 128, 129, 638, 859, 860, 861, 862, 863, 864, 865, 866, 886, 887, 888, 889, 890, 891] (by decide +kernel) (by decide +kernel)
set_option maxRecDepth 20000 in
theorem gL_law_X9_elbows : GoodIn wsL_law (wsV RL 93 RX9 yX9_elbows wsX9_elbows) := goodIn_app (goodIn_of _ (by decide +kernel)) ggL_law_X9_elbows
set_option maxRecDepth 20000 in
theorem ggL_law_X10_elbows : GoodIn wsL_law wsX10_elbows := goodIn_r _ [642, 134, 364, 101, 135, 136, 5, 137, 365, 366, 367, 368, 94, 393, 394, 395, 396, 397, 161, 162, 163, 867, 868, 869, 870, 871, 872, 873, 874, 875, 876, 877, 878, 879, 880, 881, 882, 883, 884, 885] (by decide +kernel) (by decide +kernel)
set_option maxRecDepth 20000 in
theorem gL_law_X10_elbows : GoodIn wsL_law (wsV RL 96 RX10 yX10_elbows wsX10_elbows) := goodIn_app (goodIn_of _ (by decide +kernel)) ggL_law_X10_elbows
set_option maxRecDepth 20000 in
theorem ggL_law_X9_relays : GoodIn wsL_law wsX9_relays := goodIn_r _ [646, 15, 110, 114, 115, 2, 116, 123, 124, 125, 126, 127, 128, 129, 647, 648, 649, 859, 860, 861, 862, 863, 864, 865, 866, 886, 887, 888, 889, 890, 891] (by decide +kernel) (by decide +kernel)
set_option maxRecDepth 20000 in
theorem gL_law_X9_relays : GoodIn wsL_law (wsV RL 97 RX9 yX9_relays wsX9_relays) := goodIn_app (goodIn_of _ (by decide +kernel)) ggL_law_X9_relays
set_option maxRecDepth 20000 in
theorem ggL_law_X10_relays : GoodIn wsL_law wsX10_relays := goodIn_r _ [653, 104, 135, 136, 5, 137, 138, 139, 140, 867, 868, 869, 870, 871, 872, 873, 874, 875, 876, 877, 878, 879, 880, 881, 882, 883, 884, 885] (by decide +kernel) (by decide +kernel)
set_option maxRecDepth 20000 in
theorem gL_law_X10_relays : GoodIn wsL_law (wsV RL 101 RX10 yX10_relays wsX10_relays) := goodIn_app (goodIn_of _ (by decide +kernel)) ggL_law_X10_relays
set_option maxRecDepth 20000 in
theorem ggL_law_X9_beads : GoodIn wsL_law wsX9_beads := goodIn_r _ [657, 658, 319, 179, 320, 114, 115, 2, 116] (by decide +kernel) (by decide +kernel)
set_option maxRecDepth 20000 in
theorem gL_law_X9_beads : GoodIn wsL_law (wsV RL 102 RX9 yX9_beads wsX9_beads) := goodIn_app (goodIn_of _ (by decide +kernel)) ggL_law_X9_beads
set_option maxRecDepth 20000 in
theorem ggL_law_X10_beads : GoodIn wsL_law wsX10_beads := goodIn_r _ [662, 397, 135, 136, 5, 137] (by decide +kernel) (by decide +kernel)
set_option maxRecDepth 20000 in
theorem gL_law_X10_beads : GoodIn wsL_law (wsV RL 105 RX10 yX10_beads wsX10_beads) := goodIn_app (goodIn_of _ (by decide +kernel)) ggL_law_X10_beads
set_option maxRecDepth 20000 in
theorem ggL_law_X9_seen : GoodIn wsL_law wsX9_seen := goodIn_r _ [666, 15, 31, 667, 145, 146, 147, 14, 148, 121, 114, 115, 2, 116, 668, 669, 670, 30, 671, 672, 70, 71, 73, 859, 860, 861, 862, 863, 864, 865, 866, 906, 907, 908, 909, 886, 887, 888, 889, 890, 891] (by decide +kernel) (by decide +kernel)
set_option maxRecDepth 20000 in
theorem gL_law_X9_seen : GoodIn wsL_law (wsV RL 106 RX9 yX9_seen wsX9_seen) := goodIn_app (goodIn_of _ (by decide +kernel)) ggL_law_X9_seen
set_option maxRecDepth 20000 in
theorem ggL_law_X10_seen : GoodIn wsL_law wsX10_seen := goodIn_r _ [676, 677, 99, 157, 158, 159, 5, 160, 104, 135, 136, 137, 161, 162, 163, 867, 868, 869, 870, 871, 872, 873, 874, 875, 876, 877, 878, 879, 880, 881, 882, 883, 884, 885] (by decide +kernel) (by decide +kernel)
set_option maxRecDepth 20000 in
theorem gL_law_X10_seen : GoodIn wsL_law (wsV RL 110 RX10 yX10_seen wsX10_seen) := goodIn_app (goodIn_of _ (by decide +kernel)) ggL_law_X10_seen
set_option maxRecDepth 20000 in
theorem ggL_law_X9_forget : GoodIn wsL_law wsX9_forget := goodIn_r _ [681, 31, 667, 859, 860, 861, 862, 863, 864, 865, 866, 906, 907, 908, 909] (by decide +kernel) (by decide +kernel)
set_option maxRecDepth 20000 in
theorem gL_law_X9_forget : GoodIn wsL_law (wsV RL 111 RX9 yX9_forget wsX9_forget) := goodIn_app (goodIn_of _ (by decide +kernel)) ggL_law_X9_forget
set_option maxRecDepth 20000 in
theorem ggL_law_X10_forget : GoodIn wsL_law wsX10_forget := goodIn_r _ [685, 677, 867, 868, 869, 870, 871, 872, 873, 874, 875, 876, 877, 878, 879, 880, 881, 882, 883, 884, 885] (by decide +kernel) (by decide +kernel)
set_option maxRecDepth 20000 in
theorem gL_law_X10_forget : GoodIn wsL_law (wsV RL 114 RX10 yX10_forget wsX10_forget) := goodIn_app (goodIn_of _ (by decide +kernel)) ggL_law_X10_forget
set_option maxRecDepth 20000 in
theorem ggL_law_X9_skips : GoodIn wsL_law wsX9_skips := goodIn_r _ [689, 35, 15, 31, 690, 691, 692, 537, 538, 2, 539, 114, 115, 116, 693, 694, 695, 34, 696, 697, 698, 699, 77, 700, 701, 702, 703, 704, 705, 706, 707, 708, 709, 710, 711, 712, 713, 299, 300, 14, 301, 122, 714, 311, 312, 313, 51, 52, 177, 178, 179, 180, 715, 624, 26, 625, 626, 627, 628, 568, 569, 570, 574, 575, 576, 580, 581, 582, 583, 584, 585, 716, 717, 718, 719, 124, 125, 126, 127, 128, 129, 859, 860, 861, 862, 863, 864, 865, 866, 910, 911, 912, 913, 906, 907, 908, 909, 886, 887, 888, 889, 890, 891] (by decide +kernel) (by decide +kernel)
set_option maxRecDepth 20000 in
theorem gL_law_X9_skips : GoodIn wsL_law (wsV RL 115 RX9 yX9_skips wsX9_skips) := goodIn_app (goodIn_of _ (by decide +kernel)) ggL_law_X9_skips
set_option maxRecDepth 20000 in
theorem ggL_law_X10_skips : GoodIn wsL_law wsX10_skips := goodIn_r _ [723, 134, 135, 136, 5, 137, 724, 725, 726, 727, 677, 99, 728, 729, 730, 731, 94, 95, 528, 529, 530, 531, 157, 158, 159, 160, 104, 161, 162, 163, 594, 595, 596, 597, 598, 599, 600, 601, 602, 603, 604, 605, 606, 607, 608, 867, 868, 869, 870, 871, 872, 873, 874, 875, 876, 877, 878, 879, 880, 881, 882, 883, 884, 885] (by decide +kernel) (by decide +kernel)
set_option maxRecDepth 20000 in
theorem gL_law_X10_skips : GoodIn wsL_law (wsV RL 118 RX10 yX10_skips wsX10_skips) := goodIn_app (goodIn_of _ (by decide +kernel)) ggL_law_X10_skips
set_option maxRecDepth 20000 in
theorem ggL_law_X9_ask : GoodIn wsL_law wsX9_ask := goodIn_r _ [735, 35, 15, 31, 690, 537, 538, 2, 539, 114, 115, 116, 693, 694, 695, 34, 696, 697, 698, 699, 77, 700, 701, 702, 703, 704, 705, 706, 707, 708, 709, 710, 711, 712, 713, 299, 300, 14, 301, 122, 714, 311, 312, 313, 51, 52, 177, 178, 179, 180, 715, 624, 26, 625, 626, 627, 628, 568, 569, 570, 574, 575, 576, 580, 581, 582, 583, 584, 585, 716, 717, 718, 719, 124, 125, 126, 127, 128, 129, 519, 736, 737, 738, 739, 740, 859, 860, 861, 862, 863, 864, 865, 866, 910, 911, 912, 913, 906, 907, 908, 909, 886, 887, 888, 889, 890, 891] (by decide +kernel) (by decide +kernel)
set_option maxRecDepth 20000 in
theorem gL_law_X9_ask : GoodIn wsL_law (wsV RL 119 RX9 yX9_ask wsX9_ask) := goodIn_app (goodIn_of _ (by decide +kernel)) ggL_law_X9_ask
set_option maxRecDepth 20000 in
theorem ggL_law_X10_ask : GoodIn wsL_law wsX10_ask := goodIn_r _ [744, 397, 134, 135, 136, 5, 137, 161, 162, 163, 724, 725, 726, 727, 677, 99, 728, 729, 730, 731, 94, 95, 528, 529, 530, 531, 157, 158, 159, 160, 104, 594, 595, 596, 597, 598, 599, 600, 601, 602, 603, 604, 605, 606, 607, 608, 867, 868, 869, 870, 871, 872, 873, 874, 875, 876, 877, 878, 879, 880, 881, 882, 883, 884, 885] (by decide +kernel) (by decide +kernel)
set_option maxRecDepth 20000 in
theorem gL_law_X10_ask : GoodIn wsL_law (wsV RL 122 RX10 yX10_ask wsX10_ask) := goodIn_app (goodIn_of _ (by decide +kernel)) ggL_law_X10_ask
set_option maxRecDepth 20000 in
theorem ggL_law_X9_bees : GoodIn wsL_law wsX9_bees := goodIn_r _ [748, 749, 15, 750, 114, 115, 2, 116, 472, 331, 332, 14, 333, 51, 298, 299, 300, 301, 122, 751, 752, 753, 754, 755, 756, 757, 758, 759, 760, 761, 762, 763, 764, 765, 766, 178, 179, 180, 767, 768, 769, 770, 771, 772, 859, 860, 861, 862, 863, 864, 865, 866, 886, 887, 888, 889, 890, 891] (by decide +kernel) (by decide +kernel)
set_option maxRecDepth 20000 in
theorem gL_law_X9_bees : GoodIn wsL_law (wsV RL 123 RX9 yX9_bees wsX9_bees) := goodIn_app (goodIn_of _ (by decide +kernel)) ggL_law_X9_bees
set_option maxRecDepth 20000 in
theorem ggL_law_X10_bees : GoodIn wsL_law wsX10_bees := goodIn_r _ [776, 777, 134, 778, 779, 94, 97, 95, 135, 136, 5, 137, 365, 366, 367, 368, 364, 101, 406, 407, 408, 409, 161, 162, 163, 867, 868, 869, 870, 871, 872, 873, 874, 875, 876, 877, 878, 879, 880, 881, 882, 883, 884, 885] (by decide +kernel) (by decide +kernel)
set_option maxRecDepth 20000 in
theorem gL_law_X10_bees : GoodIn wsL_law (wsV RL 127 RX10 yX10_bees wsX10_bees) := goodIn_app (goodIn_of _ (by decide +kernel)) ggL_law_X10_bees
set_option maxRecDepth 20000 in
theorem ggL_law_X9_year : GoodIn wsL_law wsX9_year := goodIn_r _ [783, 39, 15, 784, 502, 785, 114, 115, 2, 116, 786, 787, 788, 38, 789, 82, 790, 791, 792, 272, 273, 14, 274, 121, 122, 48, 49, 51, 275, 276, 277, 278, 52, 793, 280, 281, 282, 283, 146, 147, 148, 794, 795, 796, 797, 798, 799, 800, 801, 802, 803, 804, 290, 291, 292, 293, 230, 18, 231, 112, 113, 294, 295, 296, 297, 298, 299, 300, 301, 805, 315, 316, 317, 318, 319, 179, 320, 321, 307, 308, 309, 310, 311, 312, 313, 177, 178, 180, 322, 323, 324, 325, 326, 327, 328, 329, 330, 331, 332, 333, 334, 335, 336, 337, 338, 339, 340, 341, 342, 343, 344, 345, 806, 807, 808, 809, 123, 124, 125, 126, 127, 128, 129, 859, 860, 861, 862, 863, 864, 865, 866, 914, 915, 886, 887, 888, 889, 890, 891] (by decide +kernel) (by decide +kernel)
set_option maxRecDepth 20000 in
theorem gL_law_X9_year : GoodIn wsL_law (wsV RL 128 RX9 yX9_year wsX9_year) := goodIn_app (goodIn_of _ (by decide +kernel)) ggL_law_X9_year
set_option maxRecDepth 20000 in
theorem ggL_law_X10_year : GoodIn wsL_law wsX10_year := goodIn_r _ [813, 814, 101, 104, 364, 135, 136, 5, 137, 365, 366, 367, 368, 134, 94, 815, 816, 817, 818, 97, 373, 374, 375, 376, 157, 158, 159, 160, 161, 162, 163, 381, 382, 383, 384, 377, 378, 379, 380, 385, 386, 387, 388, 389, 390, 391, 392, 393, 394, 395, 396, 397, 402, 403, 404, 405, 406, 407, 408, 409, 398, 399, 400, 401, 95, 138, 139, 140, 867, 868, 869, 870, 871, 872, 873, 874, 875, 876, 877, 878, 879, 880, 881, 882, 883, 884, 885] (by decide +kernel) (by decide +kernel)
set_option maxRecDepth 20000 in
theorem gL_law_X10_year : GoodIn wsL_law (wsV RL 131 RX10 yX10_year wsX10_year) := goodIn_app (goodIn_of _ (by decide +kernel)) ggL_law_X10_year
set_option maxRecDepth 20000 in
theorem ggL_law_X9_image : GoodIn wsL_law wsX9_image := goodIn_r _ [822, 43, 15, 31, 114, 115, 2, 116, 823, 824, 825, 42, 826, 87, 89, 827, 828, 272, 273, 14, 274, 121, 122, 48, 49, 51, 275, 276, 277, 278, 52, 829, 830, 831, 30, 832, 672, 70, 71, 73, 859, 860, 861, 862, 863, 864, 865, 866, 916, 917, 918, 886, 887, 888, 889, 890, 891, 906, 907, 908, 909] (by decide +kernel) (by decide +kernel)
set_option maxRecDepth 20000 in
theorem gL_law_X9_image : GoodIn wsL_law (wsV RL 132 RX9 yX9_image wsX9_image) := goodIn_app (goodIn_of _ (by decide +kernel)) ggL_law_X9_image
set_option maxRecDepth 20000 in
theorem ggL_law_X10_image : GoodIn wsL_law wsX10_image := goodIn_r _ [836, 102, 94, 95, 99, 104, 134, 97, 98, 677, 103, 135, 136, 5, 137, 867, 868, 869, 870, 871, 872, 873, 874, 875, 876, 877, 878, 879, 880, 881, 882, 883, 884, 885] (by decide +kernel) (by decide +kernel)
set_option maxRecDepth 20000 in
theorem gL_law_X10_image : GoodIn wsL_law (wsV RL 135 RX10 yX10_image wsX10_image) := goodIn_app (goodIn_of _ (by decide +kernel)) ggL_law_X10_image
set_option maxRecDepth 20000 in
theorem ggL_law_X9_restore : GoodIn wsL_law wsX9_restore := goodIn_r _ [840, 43, 841, 15, 31, 114, 115, 2, 116, 842, 843, 844, 42, 845, 87, 89, 828, 272, 273, 14, 274, 121, 122, 48, 49, 51, 275, 276, 277, 278, 52, 829, 830, 831, 30, 832, 672, 70, 71, 73, 859, 860, 861, 862, 863, 864, 865, 866, 916, 917, 918, 886, 887, 888, 889, 890, 891, 906, 907, 908, 909] (by decide +kernel) (by decide +kernel)
set_option maxRecDepth 20000 in
theorem gL_law_X9_restore : GoodIn wsL_law (wsV RL 136 RX9 yX9_restore wsX9_restore) := goodIn_app (goodIn_of _ (by decide +kernel)) ggL_law_X9_restore
set_option maxRecDepth 20000 in
theorem ggL_law_X10_restore : GoodIn wsL_law wsX10_restore := goodIn_r _ [849, 103, 94, 102, 95, 99, 104, 134, 97, 98, 677, 135, 136, 5, 137, 867, 868, 869, 870, 871, 872, 873, 874, 875, 876, 877, 878, 879, 880, 881, 882, 883, 884, 885] (by decide +kernel) (by decide +kernel)
set_option maxRecDepth 20000 in
theorem gL_law_X10_restore : GoodIn wsL_law (wsV RL 139 RX10 yX10_restore wsX10_restore) := goodIn_app (goodIn_of _ (by decide +kernel)) ggL_law_X10_restore
set_option maxRecDepth 20000 in
theorem ggL_law_X9_told : GoodIn wsL_law wsX9_told := goodIn_r _ [853, 19, 194, 15, 110, 502, 109, 185, 31, 667, 854, 145, 146, 147, 14, 148, 121, 859, 860, 861, 862, 863, 864, 865, 866, 892, 893, 894, 895, 896, 886, 887, 888, 889, 890, 891, 906, 907, 908, 909] (by decide +kernel) (by decide +kernel)
set_option maxRecDepth 20000 in
theorem gL_law_X9_told : GoodIn wsL_law (wsV RL 140 RX9 yX9_told wsX9_told) := goodIn_app (goodIn_of _ (by decide +kernel)) ggL_law_X9_told
set_option maxRecDepth 20000 in
theorem ggL_law_X10_told : GoodIn wsL_law wsX10_told := goodIn_r _ [858, 95, 204, 104, 134, 97, 98, 677, 157, 158, 159, 5, 160, 135, 136, 137, 161, 162, 163, 867, 868, 869, 870, 871, 872, 873, 874, 875, 876, 877, 878, 879, 880, 881, 882, 883, 884, 885] (by decide +kernel) (by decide +kernel)
set_option maxRecDepth 20000 in
theorem gL_law_X10_told : GoodIn wsL_law (wsV RL 143 RX10 yX10_told wsX10_told) := goodIn_app (goodIn_of _ (by decide +kernel)) ggL_law_X10_told
theorem dL_law_0 : decode cL_law 0 = .ok (.new 7, 3) := by decide +kernel
theorem dL_law_3 : decode cL_law 3 = .ok (.dup, 1) := by decide +kernel
theorem dL_law_4 : decode cL_law 4 = .ok (.invokespecial 9, 3) := by decide +kernel
theorem dL_law_7 : decode cL_law 7 = .ok (.astore_n 1, 1) := by decide +kernel
theorem dL_law_8 : decode cL_law 8 = .ok (.new 10, 3) := by decide +kernel
theorem dL_law_11 : decode cL_law 11 = .ok (.dup, 1) := by decide +kernel
theorem dL_law_12 : decode cL_law 12 = .ok (.invokespecial 12, 3) := by decide +kernel
theorem dL_law_15 : decode cL_law 15 = .ok (.astore_n 2, 1) := by decide +kernel
theorem dL_law_16 : decode cL_law 16 = .ok (.iconst 0, 1) := by decide +kernel
theorem dL_law_17 : decode cL_law 17 = .ok (.istore_n 3, 1) := by decide +kernel
theorem dL_law_18 : decode cL_law 18 = .ok (.iload_n 3, 1) := by decide +kernel
theorem dL_law_19 : decode cL_law 19 = .ok (.aload_n 0, 1) := by decide +kernel
theorem dL_law_20 : decode cL_law 20 = .ok (.arraylength, 1) := by decide +kernel
theorem dL_law_21 : decode cL_law 21 = .ok (.iconst 5, 1) := by decide +kernel
theorem dL_law_22 : decode cL_law 22 = .ok (.isub, 1) := by decide +kernel
theorem dL_law_23 : decode cL_law 23 = .ok (.if_icmp .gt 1045, 3) := by decide +kernel
theorem dL_law_26 : decode cL_law 26 = .ok (.aload_n 0, 1) := by decide +kernel
theorem dL_law_27 : decode cL_law 27 = .ok (.iload_n 3, 1) := by decide +kernel
theorem dL_law_28 : decode cL_law 28 = .ok (.iaload, 1) := by decide +kernel
theorem dL_law_29 : decode cL_law 29 = .ok (.bipush 31, 2) := by decide +kernel
theorem dL_law_31 : decode cL_law 31 = .ok (.iand, 1) := by decide +kernel
theorem dL_law_32 : decode cL_law 32 = .ok (.tableswitch 1030 0 30 #[140, 183, 206, 239, 262, 275, 288, 311, 324, 357, 390, 413, 426, 439, 452, 475, 498, 531, 574, 607, 630, 683, 716, 775, 788, 821, 864, 918, 961, 984, 1007], 140) := by decide +kernel
theorem dL_law_172 : decode cL_law 172 = .ok (.aload_n 1, 1) := by decide +kernel
theorem dL_law_173 : decode cL_law 173 = .ok (.aload_n 0, 1) := by decide +kernel
theorem dL_law_174 : decode cL_law 174 = .ok (.iload_n 3, 1) := by decide +kernel
theorem dL_law_175 : decode cL_law 175 = .ok (.iconst 1, 1) := by decide +kernel
theorem dL_law_176 : decode cL_law 176 = .ok (.iadd, 1) := by decide +kernel
theorem dL_law_177 : decode cL_law 177 = .ok (.iaload, 1) := by decide +kernel
theorem dL_law_178 : decode cL_law 178 = .ok (.aload_n 0, 1) := by decide +kernel
theorem dL_law_179 : decode cL_law 179 = .ok (.iload_n 3, 1) := by decide +kernel
theorem dL_law_180 : decode cL_law 180 = .ok (.iconst 2, 1) := by decide +kernel
theorem dL_law_181 : decode cL_law 181 = .ok (.iadd, 1) := by decide +kernel
theorem dL_law_182 : decode cL_law 182 = .ok (.iaload, 1) := by decide +kernel
theorem dL_law_183 : decode cL_law 183 = .ok (.aload_n 0, 1) := by decide +kernel
theorem dL_law_184 : decode cL_law 184 = .ok (.iload_n 3, 1) := by decide +kernel
theorem dL_law_185 : decode cL_law 185 = .ok (.iconst 3, 1) := by decide +kernel
theorem dL_law_186 : decode cL_law 186 = .ok (.iadd, 1) := by decide +kernel
theorem dL_law_187 : decode cL_law 187 = .ok (.iaload, 1) := by decide +kernel
theorem dL_law_188 : decode cL_law 188 = .ok (.invokevirtual 13, 3) := by decide +kernel
theorem dL_law_191 : decode cL_law 191 = .ok (.aload_n 2, 1) := by decide +kernel
theorem dL_law_192 : decode cL_law 192 = .ok (.aload_n 0, 1) := by decide +kernel
theorem dL_law_193 : decode cL_law 193 = .ok (.iload_n 3, 1) := by decide +kernel
theorem dL_law_194 : decode cL_law 194 = .ok (.iconst 1, 1) := by decide +kernel
theorem dL_law_195 : decode cL_law 195 = .ok (.iadd, 1) := by decide +kernel
theorem dL_law_196 : decode cL_law 196 = .ok (.iaload, 1) := by decide +kernel
theorem dL_law_197 : decode cL_law 197 = .ok (.aload_n 0, 1) := by decide +kernel
theorem dL_law_198 : decode cL_law 198 = .ok (.iload_n 3, 1) := by decide +kernel
theorem dL_law_199 : decode cL_law 199 = .ok (.iconst 2, 1) := by decide +kernel
theorem dL_law_200 : decode cL_law 200 = .ok (.iadd, 1) := by decide +kernel
theorem dL_law_201 : decode cL_law 201 = .ok (.iaload, 1) := by decide +kernel
theorem dL_law_202 : decode cL_law 202 = .ok (.aload_n 0, 1) := by decide +kernel
theorem dL_law_203 : decode cL_law 203 = .ok (.iload_n 3, 1) := by decide +kernel
theorem dL_law_204 : decode cL_law 204 = .ok (.iconst 3, 1) := by decide +kernel
theorem dL_law_205 : decode cL_law 205 = .ok (.iadd, 1) := by decide +kernel
theorem dL_law_206 : decode cL_law 206 = .ok (.iaload, 1) := by decide +kernel
theorem dL_law_207 : decode cL_law 207 = .ok (.invokevirtual 17, 3) := by decide +kernel
theorem dL_law_210 : decode cL_law 210 = .ok (.if_icmp .eq 852, 3) := by decide +kernel
theorem dL_law_213 : decode cL_law 213 = .ok (.iconst 0, 1) := by decide +kernel
theorem dL_law_214 : decode cL_law 214 = .ok (.ireturn, 1) := by decide +kernel
theorem dL_law_215 : decode cL_law 215 = .ok (.aload_n 1, 1) := by decide +kernel
theorem dL_law_216 : decode cL_law 216 = .ok (.aload_n 0, 1) := by decide +kernel
theorem dL_law_217 : decode cL_law 217 = .ok (.iload_n 3, 1) := by decide +kernel
theorem dL_law_218 : decode cL_law 218 = .ok (.iconst 1, 1) := by decide +kernel
theorem dL_law_219 : decode cL_law 219 = .ok (.iadd, 1) := by decide +kernel
theorem dL_law_220 : decode cL_law 220 = .ok (.iaload, 1) := by decide +kernel
theorem dL_law_221 : decode cL_law 221 = .ok (.invokevirtual 18, 3) := by decide +kernel
theorem dL_law_224 : decode cL_law 224 = .ok (.aload_n 2, 1) := by decide +kernel
theorem dL_law_225 : decode cL_law 225 = .ok (.aload_n 0, 1) := by decide +kernel
theorem dL_law_226 : decode cL_law 226 = .ok (.iload_n 3, 1) := by decide +kernel
theorem dL_law_227 : decode cL_law 227 = .ok (.iconst 1, 1) := by decide +kernel
theorem dL_law_228 : decode cL_law 228 = .ok (.iadd, 1) := by decide +kernel
theorem dL_law_229 : decode cL_law 229 = .ok (.iaload, 1) := by decide +kernel
theorem dL_law_230 : decode cL_law 230 = .ok (.invokevirtual 22, 3) := by decide +kernel
theorem dL_law_233 : decode cL_law 233 = .ok (.if_icmp .eq 829, 3) := by decide +kernel
theorem dL_law_236 : decode cL_law 236 = .ok (.iconst 0, 1) := by decide +kernel
theorem dL_law_237 : decode cL_law 237 = .ok (.ireturn, 1) := by decide +kernel
theorem dL_law_238 : decode cL_law 238 = .ok (.aload_n 1, 1) := by decide +kernel
theorem dL_law_239 : decode cL_law 239 = .ok (.aload_n 0, 1) := by decide +kernel
theorem dL_law_240 : decode cL_law 240 = .ok (.iload_n 3, 1) := by decide +kernel
theorem dL_law_241 : decode cL_law 241 = .ok (.iconst 1, 1) := by decide +kernel
theorem dL_law_242 : decode cL_law 242 = .ok (.iadd, 1) := by decide +kernel
theorem dL_law_243 : decode cL_law 243 = .ok (.iaload, 1) := by decide +kernel
theorem dL_law_244 : decode cL_law 244 = .ok (.aload_n 0, 1) := by decide +kernel
theorem dL_law_245 : decode cL_law 245 = .ok (.iload_n 3, 1) := by decide +kernel
theorem dL_law_246 : decode cL_law 246 = .ok (.iconst 2, 1) := by decide +kernel
theorem dL_law_247 : decode cL_law 247 = .ok (.iadd, 1) := by decide +kernel
theorem dL_law_248 : decode cL_law 248 = .ok (.iaload, 1) := by decide +kernel
theorem dL_law_249 : decode cL_law 249 = .ok (.invokevirtual 23, 3) := by decide +kernel
theorem dL_law_252 : decode cL_law 252 = .ok (.aload_n 2, 1) := by decide +kernel
theorem dL_law_253 : decode cL_law 253 = .ok (.aload_n 0, 1) := by decide +kernel
theorem dL_law_254 : decode cL_law 254 = .ok (.iload_n 3, 1) := by decide +kernel
theorem dL_law_255 : decode cL_law 255 = .ok (.iconst 1, 1) := by decide +kernel
theorem dL_law_256 : decode cL_law 256 = .ok (.iadd, 1) := by decide +kernel
theorem dL_law_257 : decode cL_law 257 = .ok (.iaload, 1) := by decide +kernel
theorem dL_law_258 : decode cL_law 258 = .ok (.aload_n 0, 1) := by decide +kernel
theorem dL_law_259 : decode cL_law 259 = .ok (.iload_n 3, 1) := by decide +kernel
theorem dL_law_260 : decode cL_law 260 = .ok (.iconst 2, 1) := by decide +kernel
theorem dL_law_261 : decode cL_law 261 = .ok (.iadd, 1) := by decide +kernel
theorem dL_law_262 : decode cL_law 262 = .ok (.iaload, 1) := by decide +kernel
theorem dL_law_263 : decode cL_law 263 = .ok (.invokevirtual 27, 3) := by decide +kernel
theorem dL_law_266 : decode cL_law 266 = .ok (.if_icmp .eq 796, 3) := by decide +kernel
theorem dL_law_269 : decode cL_law 269 = .ok (.iconst 0, 1) := by decide +kernel
theorem dL_law_270 : decode cL_law 270 = .ok (.ireturn, 1) := by decide +kernel
theorem dL_law_271 : decode cL_law 271 = .ok (.aload_n 1, 1) := by decide +kernel
theorem dL_law_272 : decode cL_law 272 = .ok (.aload_n 0, 1) := by decide +kernel
theorem dL_law_273 : decode cL_law 273 = .ok (.iload_n 3, 1) := by decide +kernel
theorem dL_law_274 : decode cL_law 274 = .ok (.iconst 1, 1) := by decide +kernel
theorem dL_law_275 : decode cL_law 275 = .ok (.iadd, 1) := by decide +kernel
theorem dL_law_276 : decode cL_law 276 = .ok (.iaload, 1) := by decide +kernel
theorem dL_law_277 : decode cL_law 277 = .ok (.invokevirtual 28, 3) := by decide +kernel
theorem dL_law_280 : decode cL_law 280 = .ok (.aload_n 2, 1) := by decide +kernel
theorem dL_law_281 : decode cL_law 281 = .ok (.aload_n 0, 1) := by decide +kernel
theorem dL_law_282 : decode cL_law 282 = .ok (.iload_n 3, 1) := by decide +kernel
theorem dL_law_283 : decode cL_law 283 = .ok (.iconst 1, 1) := by decide +kernel
theorem dL_law_284 : decode cL_law 284 = .ok (.iadd, 1) := by decide +kernel
theorem dL_law_285 : decode cL_law 285 = .ok (.iaload, 1) := by decide +kernel
theorem dL_law_286 : decode cL_law 286 = .ok (.invokevirtual 31, 3) := by decide +kernel
theorem dL_law_289 : decode cL_law 289 = .ok (.if_icmp .eq 773, 3) := by decide +kernel
theorem dL_law_292 : decode cL_law 292 = .ok (.iconst 0, 1) := by decide +kernel
theorem dL_law_293 : decode cL_law 293 = .ok (.ireturn, 1) := by decide +kernel
theorem dL_law_294 : decode cL_law 294 = .ok (.aload_n 1, 1) := by decide +kernel
theorem dL_law_295 : decode cL_law 295 = .ok (.invokevirtual 32, 3) := by decide +kernel
theorem dL_law_298 : decode cL_law 298 = .ok (.aload_n 2, 1) := by decide +kernel
theorem dL_law_299 : decode cL_law 299 = .ok (.invokevirtual 36, 3) := by decide +kernel
theorem dL_law_302 : decode cL_law 302 = .ok (.if_icmp .eq 760, 3) := by decide +kernel
theorem dL_law_305 : decode cL_law 305 = .ok (.iconst 0, 1) := by decide +kernel
theorem dL_law_306 : decode cL_law 306 = .ok (.ireturn, 1) := by decide +kernel
theorem dL_law_307 : decode cL_law 307 = .ok (.aload_n 1, 1) := by decide +kernel
theorem dL_law_308 : decode cL_law 308 = .ok (.invokevirtual 37, 3) := by decide +kernel
theorem dL_law_311 : decode cL_law 311 = .ok (.aload_n 2, 1) := by decide +kernel
theorem dL_law_312 : decode cL_law 312 = .ok (.invokevirtual 40, 3) := by decide +kernel
theorem dL_law_315 : decode cL_law 315 = .ok (.if_icmp .eq 747, 3) := by decide +kernel
theorem dL_law_318 : decode cL_law 318 = .ok (.iconst 0, 1) := by decide +kernel
theorem dL_law_319 : decode cL_law 319 = .ok (.ireturn, 1) := by decide +kernel
theorem dL_law_320 : decode cL_law 320 = .ok (.aload_n 1, 1) := by decide +kernel
theorem dL_law_321 : decode cL_law 321 = .ok (.aload_n 0, 1) := by decide +kernel
theorem dL_law_322 : decode cL_law 322 = .ok (.iload_n 3, 1) := by decide +kernel
theorem dL_law_323 : decode cL_law 323 = .ok (.iconst 1, 1) := by decide +kernel
theorem dL_law_324 : decode cL_law 324 = .ok (.iadd, 1) := by decide +kernel
theorem dL_law_325 : decode cL_law 325 = .ok (.iaload, 1) := by decide +kernel
theorem dL_law_326 : decode cL_law 326 = .ok (.invokevirtual 41, 3) := by decide +kernel
theorem dL_law_329 : decode cL_law 329 = .ok (.aload_n 2, 1) := by decide +kernel
theorem dL_law_330 : decode cL_law 330 = .ok (.aload_n 0, 1) := by decide +kernel
theorem dL_law_331 : decode cL_law 331 = .ok (.iload_n 3, 1) := by decide +kernel
theorem dL_law_332 : decode cL_law 332 = .ok (.iconst 1, 1) := by decide +kernel
theorem dL_law_333 : decode cL_law 333 = .ok (.iadd, 1) := by decide +kernel
theorem dL_law_334 : decode cL_law 334 = .ok (.iaload, 1) := by decide +kernel
theorem dL_law_335 : decode cL_law 335 = .ok (.invokevirtual 44, 3) := by decide +kernel
theorem dL_law_338 : decode cL_law 338 = .ok (.if_icmp .eq 724, 3) := by decide +kernel
theorem dL_law_341 : decode cL_law 341 = .ok (.iconst 0, 1) := by decide +kernel
theorem dL_law_342 : decode cL_law 342 = .ok (.ireturn, 1) := by decide +kernel
theorem dL_law_343 : decode cL_law 343 = .ok (.aload_n 1, 1) := by decide +kernel
theorem dL_law_344 : decode cL_law 344 = .ok (.invokevirtual 45, 3) := by decide +kernel
theorem dL_law_347 : decode cL_law 347 = .ok (.aload_n 2, 1) := by decide +kernel
theorem dL_law_348 : decode cL_law 348 = .ok (.invokevirtual 48, 3) := by decide +kernel
theorem dL_law_351 : decode cL_law 351 = .ok (.if_icmp .eq 711, 3) := by decide +kernel
theorem dL_law_354 : decode cL_law 354 = .ok (.iconst 0, 1) := by decide +kernel
theorem dL_law_355 : decode cL_law 355 = .ok (.ireturn, 1) := by decide +kernel
theorem dL_law_356 : decode cL_law 356 = .ok (.aload_n 1, 1) := by decide +kernel
theorem dL_law_357 : decode cL_law 357 = .ok (.aload_n 0, 1) := by decide +kernel
theorem dL_law_358 : decode cL_law 358 = .ok (.iload_n 3, 1) := by decide +kernel
theorem dL_law_359 : decode cL_law 359 = .ok (.iconst 1, 1) := by decide +kernel
theorem dL_law_360 : decode cL_law 360 = .ok (.iadd, 1) := by decide +kernel
theorem dL_law_361 : decode cL_law 361 = .ok (.iaload, 1) := by decide +kernel
theorem dL_law_362 : decode cL_law 362 = .ok (.aload_n 0, 1) := by decide +kernel
theorem dL_law_363 : decode cL_law 363 = .ok (.iload_n 3, 1) := by decide +kernel
theorem dL_law_364 : decode cL_law 364 = .ok (.iconst 2, 1) := by decide +kernel
theorem dL_law_365 : decode cL_law 365 = .ok (.iadd, 1) := by decide +kernel
theorem dL_law_366 : decode cL_law 366 = .ok (.iaload, 1) := by decide +kernel
theorem dL_law_367 : decode cL_law 367 = .ok (.invokevirtual 49, 3) := by decide +kernel
theorem dL_law_370 : decode cL_law 370 = .ok (.aload_n 2, 1) := by decide +kernel
theorem dL_law_371 : decode cL_law 371 = .ok (.aload_n 0, 1) := by decide +kernel
theorem dL_law_372 : decode cL_law 372 = .ok (.iload_n 3, 1) := by decide +kernel
theorem dL_law_373 : decode cL_law 373 = .ok (.iconst 1, 1) := by decide +kernel
theorem dL_law_374 : decode cL_law 374 = .ok (.iadd, 1) := by decide +kernel
theorem dL_law_375 : decode cL_law 375 = .ok (.iaload, 1) := by decide +kernel
theorem dL_law_376 : decode cL_law 376 = .ok (.aload_n 0, 1) := by decide +kernel
theorem dL_law_377 : decode cL_law 377 = .ok (.iload_n 3, 1) := by decide +kernel
theorem dL_law_378 : decode cL_law 378 = .ok (.iconst 2, 1) := by decide +kernel
theorem dL_law_379 : decode cL_law 379 = .ok (.iadd, 1) := by decide +kernel
theorem dL_law_380 : decode cL_law 380 = .ok (.iaload, 1) := by decide +kernel
theorem dL_law_381 : decode cL_law 381 = .ok (.invokevirtual 52, 3) := by decide +kernel
theorem dL_law_384 : decode cL_law 384 = .ok (.if_icmp .eq 678, 3) := by decide +kernel
theorem dL_law_387 : decode cL_law 387 = .ok (.iconst 0, 1) := by decide +kernel
theorem dL_law_388 : decode cL_law 388 = .ok (.ireturn, 1) := by decide +kernel
theorem dL_law_389 : decode cL_law 389 = .ok (.aload_n 1, 1) := by decide +kernel
theorem dL_law_390 : decode cL_law 390 = .ok (.aload_n 0, 1) := by decide +kernel
theorem dL_law_391 : decode cL_law 391 = .ok (.iload_n 3, 1) := by decide +kernel
theorem dL_law_392 : decode cL_law 392 = .ok (.iconst 1, 1) := by decide +kernel
theorem dL_law_393 : decode cL_law 393 = .ok (.iadd, 1) := by decide +kernel
theorem dL_law_394 : decode cL_law 394 = .ok (.iaload, 1) := by decide +kernel
theorem dL_law_395 : decode cL_law 395 = .ok (.aload_n 0, 1) := by decide +kernel
theorem dL_law_396 : decode cL_law 396 = .ok (.iload_n 3, 1) := by decide +kernel
theorem dL_law_397 : decode cL_law 397 = .ok (.iconst 2, 1) := by decide +kernel
theorem dL_law_398 : decode cL_law 398 = .ok (.iadd, 1) := by decide +kernel
theorem dL_law_399 : decode cL_law 399 = .ok (.iaload, 1) := by decide +kernel
theorem dL_law_400 : decode cL_law 400 = .ok (.invokevirtual 53, 3) := by decide +kernel
theorem dL_law_403 : decode cL_law 403 = .ok (.aload_n 2, 1) := by decide +kernel
theorem dL_law_404 : decode cL_law 404 = .ok (.aload_n 0, 1) := by decide +kernel
theorem dL_law_405 : decode cL_law 405 = .ok (.iload_n 3, 1) := by decide +kernel
theorem dL_law_406 : decode cL_law 406 = .ok (.iconst 1, 1) := by decide +kernel
theorem dL_law_407 : decode cL_law 407 = .ok (.iadd, 1) := by decide +kernel
theorem dL_law_408 : decode cL_law 408 = .ok (.iaload, 1) := by decide +kernel
theorem dL_law_409 : decode cL_law 409 = .ok (.aload_n 0, 1) := by decide +kernel
theorem dL_law_410 : decode cL_law 410 = .ok (.iload_n 3, 1) := by decide +kernel
theorem dL_law_411 : decode cL_law 411 = .ok (.iconst 2, 1) := by decide +kernel
theorem dL_law_412 : decode cL_law 412 = .ok (.iadd, 1) := by decide +kernel
theorem dL_law_413 : decode cL_law 413 = .ok (.iaload, 1) := by decide +kernel
theorem dL_law_414 : decode cL_law 414 = .ok (.invokevirtual 56, 3) := by decide +kernel
theorem dL_law_417 : decode cL_law 417 = .ok (.if_icmp .eq 645, 3) := by decide +kernel
theorem dL_law_420 : decode cL_law 420 = .ok (.iconst 0, 1) := by decide +kernel
theorem dL_law_421 : decode cL_law 421 = .ok (.ireturn, 1) := by decide +kernel
theorem dL_law_422 : decode cL_law 422 = .ok (.aload_n 1, 1) := by decide +kernel
theorem dL_law_423 : decode cL_law 423 = .ok (.aload_n 0, 1) := by decide +kernel
theorem dL_law_424 : decode cL_law 424 = .ok (.iload_n 3, 1) := by decide +kernel
theorem dL_law_425 : decode cL_law 425 = .ok (.iconst 1, 1) := by decide +kernel
theorem dL_law_426 : decode cL_law 426 = .ok (.iadd, 1) := by decide +kernel
theorem dL_law_427 : decode cL_law 427 = .ok (.iaload, 1) := by decide +kernel
theorem dL_law_428 : decode cL_law 428 = .ok (.invokevirtual 57, 3) := by decide +kernel
theorem dL_law_431 : decode cL_law 431 = .ok (.aload_n 2, 1) := by decide +kernel
theorem dL_law_432 : decode cL_law 432 = .ok (.aload_n 0, 1) := by decide +kernel
theorem dL_law_433 : decode cL_law 433 = .ok (.iload_n 3, 1) := by decide +kernel
theorem dL_law_434 : decode cL_law 434 = .ok (.iconst 1, 1) := by decide +kernel
theorem dL_law_435 : decode cL_law 435 = .ok (.iadd, 1) := by decide +kernel
theorem dL_law_436 : decode cL_law 436 = .ok (.iaload, 1) := by decide +kernel
theorem dL_law_437 : decode cL_law 437 = .ok (.invokevirtual 60, 3) := by decide +kernel
theorem dL_law_440 : decode cL_law 440 = .ok (.if_icmp .eq 622, 3) := by decide +kernel
theorem dL_law_443 : decode cL_law 443 = .ok (.iconst 0, 1) := by decide +kernel
theorem dL_law_444 : decode cL_law 444 = .ok (.ireturn, 1) := by decide +kernel
theorem dL_law_445 : decode cL_law 445 = .ok (.aload_n 1, 1) := by decide +kernel
theorem dL_law_446 : decode cL_law 446 = .ok (.invokevirtual 61, 3) := by decide +kernel
theorem dL_law_449 : decode cL_law 449 = .ok (.aload_n 2, 1) := by decide +kernel
theorem dL_law_450 : decode cL_law 450 = .ok (.invokevirtual 64, 3) := by decide +kernel
theorem dL_law_453 : decode cL_law 453 = .ok (.if_icmp .eq 609, 3) := by decide +kernel
theorem dL_law_456 : decode cL_law 456 = .ok (.iconst 0, 1) := by decide +kernel
theorem dL_law_457 : decode cL_law 457 = .ok (.ireturn, 1) := by decide +kernel
theorem dL_law_458 : decode cL_law 458 = .ok (.aload_n 1, 1) := by decide +kernel
theorem dL_law_459 : decode cL_law 459 = .ok (.invokevirtual 65, 3) := by decide +kernel
theorem dL_law_462 : decode cL_law 462 = .ok (.aload_n 2, 1) := by decide +kernel
theorem dL_law_463 : decode cL_law 463 = .ok (.invokevirtual 68, 3) := by decide +kernel
theorem dL_law_466 : decode cL_law 466 = .ok (.if_icmp .eq 596, 3) := by decide +kernel
theorem dL_law_469 : decode cL_law 469 = .ok (.iconst 0, 1) := by decide +kernel
theorem dL_law_470 : decode cL_law 470 = .ok (.ireturn, 1) := by decide +kernel
theorem dL_law_471 : decode cL_law 471 = .ok (.aload_n 1, 1) := by decide +kernel
theorem dL_law_472 : decode cL_law 472 = .ok (.invokevirtual 69, 3) := by decide +kernel
theorem dL_law_475 : decode cL_law 475 = .ok (.aload_n 2, 1) := by decide +kernel
theorem dL_law_476 : decode cL_law 476 = .ok (.invokevirtual 72, 3) := by decide +kernel
theorem dL_law_479 : decode cL_law 479 = .ok (.if_icmp .eq 583, 3) := by decide +kernel
theorem dL_law_482 : decode cL_law 482 = .ok (.iconst 0, 1) := by decide +kernel
theorem dL_law_483 : decode cL_law 483 = .ok (.ireturn, 1) := by decide +kernel
theorem dL_law_484 : decode cL_law 484 = .ok (.aload_n 1, 1) := by decide +kernel
theorem dL_law_485 : decode cL_law 485 = .ok (.aload_n 0, 1) := by decide +kernel
theorem dL_law_486 : decode cL_law 486 = .ok (.iload_n 3, 1) := by decide +kernel
theorem dL_law_487 : decode cL_law 487 = .ok (.iconst 1, 1) := by decide +kernel
theorem dL_law_488 : decode cL_law 488 = .ok (.iadd, 1) := by decide +kernel
theorem dL_law_489 : decode cL_law 489 = .ok (.iaload, 1) := by decide +kernel
theorem dL_law_490 : decode cL_law 490 = .ok (.invokevirtual 73, 3) := by decide +kernel
theorem dL_law_493 : decode cL_law 493 = .ok (.aload_n 2, 1) := by decide +kernel
theorem dL_law_494 : decode cL_law 494 = .ok (.aload_n 0, 1) := by decide +kernel
theorem dL_law_495 : decode cL_law 495 = .ok (.iload_n 3, 1) := by decide +kernel
theorem dL_law_496 : decode cL_law 496 = .ok (.iconst 1, 1) := by decide +kernel
theorem dL_law_497 : decode cL_law 497 = .ok (.iadd, 1) := by decide +kernel
theorem dL_law_498 : decode cL_law 498 = .ok (.iaload, 1) := by decide +kernel
theorem dL_law_499 : decode cL_law 499 = .ok (.invokevirtual 76, 3) := by decide +kernel
theorem dL_law_502 : decode cL_law 502 = .ok (.if_icmp .eq 560, 3) := by decide +kernel
theorem dL_law_505 : decode cL_law 505 = .ok (.iconst 0, 1) := by decide +kernel
theorem dL_law_506 : decode cL_law 506 = .ok (.ireturn, 1) := by decide +kernel
theorem dL_law_507 : decode cL_law 507 = .ok (.aload_n 1, 1) := by decide +kernel
theorem dL_law_508 : decode cL_law 508 = .ok (.aload_n 0, 1) := by decide +kernel
theorem dL_law_509 : decode cL_law 509 = .ok (.iload_n 3, 1) := by decide +kernel
theorem dL_law_510 : decode cL_law 510 = .ok (.iconst 1, 1) := by decide +kernel
theorem dL_law_511 : decode cL_law 511 = .ok (.iadd, 1) := by decide +kernel
theorem dL_law_512 : decode cL_law 512 = .ok (.iaload, 1) := by decide +kernel
theorem dL_law_513 : decode cL_law 513 = .ok (.invokevirtual 77, 3) := by decide +kernel
theorem dL_law_516 : decode cL_law 516 = .ok (.aload_n 2, 1) := by decide +kernel
theorem dL_law_517 : decode cL_law 517 = .ok (.aload_n 0, 1) := by decide +kernel
theorem dL_law_518 : decode cL_law 518 = .ok (.iload_n 3, 1) := by decide +kernel
theorem dL_law_519 : decode cL_law 519 = .ok (.iconst 1, 1) := by decide +kernel
theorem dL_law_520 : decode cL_law 520 = .ok (.iadd, 1) := by decide +kernel
theorem dL_law_521 : decode cL_law 521 = .ok (.iaload, 1) := by decide +kernel
theorem dL_law_522 : decode cL_law 522 = .ok (.invokevirtual 80, 3) := by decide +kernel
theorem dL_law_525 : decode cL_law 525 = .ok (.if_icmp .eq 537, 3) := by decide +kernel
theorem dL_law_528 : decode cL_law 528 = .ok (.iconst 0, 1) := by decide +kernel
theorem dL_law_529 : decode cL_law 529 = .ok (.ireturn, 1) := by decide +kernel
theorem dL_law_530 : decode cL_law 530 = .ok (.aload_n 1, 1) := by decide +kernel
theorem dL_law_531 : decode cL_law 531 = .ok (.aload_n 0, 1) := by decide +kernel
theorem dL_law_532 : decode cL_law 532 = .ok (.iload_n 3, 1) := by decide +kernel
theorem dL_law_533 : decode cL_law 533 = .ok (.iconst 1, 1) := by decide +kernel
theorem dL_law_534 : decode cL_law 534 = .ok (.iadd, 1) := by decide +kernel
theorem dL_law_535 : decode cL_law 535 = .ok (.iaload, 1) := by decide +kernel
theorem dL_law_536 : decode cL_law 536 = .ok (.aload_n 0, 1) := by decide +kernel
theorem dL_law_537 : decode cL_law 537 = .ok (.iload_n 3, 1) := by decide +kernel
theorem dL_law_538 : decode cL_law 538 = .ok (.iconst 2, 1) := by decide +kernel
theorem dL_law_539 : decode cL_law 539 = .ok (.iadd, 1) := by decide +kernel
theorem dL_law_540 : decode cL_law 540 = .ok (.iaload, 1) := by decide +kernel
theorem dL_law_541 : decode cL_law 541 = .ok (.invokevirtual 81, 3) := by decide +kernel
theorem dL_law_544 : decode cL_law 544 = .ok (.aload_n 2, 1) := by decide +kernel
theorem dL_law_545 : decode cL_law 545 = .ok (.aload_n 0, 1) := by decide +kernel
theorem dL_law_546 : decode cL_law 546 = .ok (.iload_n 3, 1) := by decide +kernel
theorem dL_law_547 : decode cL_law 547 = .ok (.iconst 1, 1) := by decide +kernel
theorem dL_law_548 : decode cL_law 548 = .ok (.iadd, 1) := by decide +kernel
theorem dL_law_549 : decode cL_law 549 = .ok (.iaload, 1) := by decide +kernel
theorem dL_law_550 : decode cL_law 550 = .ok (.aload_n 0, 1) := by decide +kernel
theorem dL_law_551 : decode cL_law 551 = .ok (.iload_n 3, 1) := by decide +kernel
theorem dL_law_552 : decode cL_law 552 = .ok (.iconst 2, 1) := by decide +kernel
theorem dL_law_553 : decode cL_law 553 = .ok (.iadd, 1) := by decide +kernel
theorem dL_law_554 : decode cL_law 554 = .ok (.iaload, 1) := by decide +kernel
theorem dL_law_555 : decode cL_law 555 = .ok (.invokevirtual 84, 3) := by decide +kernel
theorem dL_law_558 : decode cL_law 558 = .ok (.if_icmp .eq 504, 3) := by decide +kernel
theorem dL_law_561 : decode cL_law 561 = .ok (.iconst 0, 1) := by decide +kernel
theorem dL_law_562 : decode cL_law 562 = .ok (.ireturn, 1) := by decide +kernel
theorem dL_law_563 : decode cL_law 563 = .ok (.aload_n 1, 1) := by decide +kernel
theorem dL_law_564 : decode cL_law 564 = .ok (.aload_n 0, 1) := by decide +kernel
theorem dL_law_565 : decode cL_law 565 = .ok (.iload_n 3, 1) := by decide +kernel
theorem dL_law_566 : decode cL_law 566 = .ok (.iconst 1, 1) := by decide +kernel
theorem dL_law_567 : decode cL_law 567 = .ok (.iadd, 1) := by decide +kernel
theorem dL_law_568 : decode cL_law 568 = .ok (.iaload, 1) := by decide +kernel
theorem dL_law_569 : decode cL_law 569 = .ok (.aload_n 0, 1) := by decide +kernel
theorem dL_law_570 : decode cL_law 570 = .ok (.iload_n 3, 1) := by decide +kernel
theorem dL_law_571 : decode cL_law 571 = .ok (.iconst 2, 1) := by decide +kernel
theorem dL_law_572 : decode cL_law 572 = .ok (.iadd, 1) := by decide +kernel
theorem dL_law_573 : decode cL_law 573 = .ok (.iaload, 1) := by decide +kernel
theorem dL_law_574 : decode cL_law 574 = .ok (.aload_n 0, 1) := by decide +kernel
theorem dL_law_575 : decode cL_law 575 = .ok (.iload_n 3, 1) := by decide +kernel
theorem dL_law_576 : decode cL_law 576 = .ok (.iconst 3, 1) := by decide +kernel
theorem dL_law_577 : decode cL_law 577 = .ok (.iadd, 1) := by decide +kernel
theorem dL_law_578 : decode cL_law 578 = .ok (.iaload, 1) := by decide +kernel
theorem dL_law_579 : decode cL_law 579 = .ok (.invokevirtual 85, 3) := by decide +kernel
theorem dL_law_582 : decode cL_law 582 = .ok (.aload_n 2, 1) := by decide +kernel
theorem dL_law_583 : decode cL_law 583 = .ok (.aload_n 0, 1) := by decide +kernel
theorem dL_law_584 : decode cL_law 584 = .ok (.iload_n 3, 1) := by decide +kernel
theorem dL_law_585 : decode cL_law 585 = .ok (.iconst 1, 1) := by decide +kernel
theorem dL_law_586 : decode cL_law 586 = .ok (.iadd, 1) := by decide +kernel
theorem dL_law_587 : decode cL_law 587 = .ok (.iaload, 1) := by decide +kernel
theorem dL_law_588 : decode cL_law 588 = .ok (.aload_n 0, 1) := by decide +kernel
theorem dL_law_589 : decode cL_law 589 = .ok (.iload_n 3, 1) := by decide +kernel
theorem dL_law_590 : decode cL_law 590 = .ok (.iconst 2, 1) := by decide +kernel
theorem dL_law_591 : decode cL_law 591 = .ok (.iadd, 1) := by decide +kernel
theorem dL_law_592 : decode cL_law 592 = .ok (.iaload, 1) := by decide +kernel
theorem dL_law_593 : decode cL_law 593 = .ok (.aload_n 0, 1) := by decide +kernel
theorem dL_law_594 : decode cL_law 594 = .ok (.iload_n 3, 1) := by decide +kernel
theorem dL_law_595 : decode cL_law 595 = .ok (.iconst 3, 1) := by decide +kernel
theorem dL_law_596 : decode cL_law 596 = .ok (.iadd, 1) := by decide +kernel
theorem dL_law_597 : decode cL_law 597 = .ok (.iaload, 1) := by decide +kernel
theorem dL_law_598 : decode cL_law 598 = .ok (.invokevirtual 88, 3) := by decide +kernel
theorem dL_law_601 : decode cL_law 601 = .ok (.if_icmp .eq 461, 3) := by decide +kernel
theorem dL_law_604 : decode cL_law 604 = .ok (.iconst 0, 1) := by decide +kernel
theorem dL_law_605 : decode cL_law 605 = .ok (.ireturn, 1) := by decide +kernel
theorem dL_law_606 : decode cL_law 606 = .ok (.aload_n 1, 1) := by decide +kernel
theorem dL_law_607 : decode cL_law 607 = .ok (.aload_n 0, 1) := by decide +kernel
theorem dL_law_608 : decode cL_law 608 = .ok (.iload_n 3, 1) := by decide +kernel
theorem dL_law_609 : decode cL_law 609 = .ok (.iconst 1, 1) := by decide +kernel
theorem dL_law_610 : decode cL_law 610 = .ok (.iadd, 1) := by decide +kernel
theorem dL_law_611 : decode cL_law 611 = .ok (.iaload, 1) := by decide +kernel
theorem dL_law_612 : decode cL_law 612 = .ok (.aload_n 0, 1) := by decide +kernel
theorem dL_law_613 : decode cL_law 613 = .ok (.iload_n 3, 1) := by decide +kernel
theorem dL_law_614 : decode cL_law 614 = .ok (.iconst 2, 1) := by decide +kernel
theorem dL_law_615 : decode cL_law 615 = .ok (.iadd, 1) := by decide +kernel
theorem dL_law_616 : decode cL_law 616 = .ok (.iaload, 1) := by decide +kernel
theorem dL_law_617 : decode cL_law 617 = .ok (.invokevirtual 89, 3) := by decide +kernel
theorem dL_law_620 : decode cL_law 620 = .ok (.aload_n 2, 1) := by decide +kernel
theorem dL_law_621 : decode cL_law 621 = .ok (.aload_n 0, 1) := by decide +kernel
theorem dL_law_622 : decode cL_law 622 = .ok (.iload_n 3, 1) := by decide +kernel
theorem dL_law_623 : decode cL_law 623 = .ok (.iconst 1, 1) := by decide +kernel
theorem dL_law_624 : decode cL_law 624 = .ok (.iadd, 1) := by decide +kernel
theorem dL_law_625 : decode cL_law 625 = .ok (.iaload, 1) := by decide +kernel
theorem dL_law_626 : decode cL_law 626 = .ok (.aload_n 0, 1) := by decide +kernel
theorem dL_law_627 : decode cL_law 627 = .ok (.iload_n 3, 1) := by decide +kernel
theorem dL_law_628 : decode cL_law 628 = .ok (.iconst 2, 1) := by decide +kernel
theorem dL_law_629 : decode cL_law 629 = .ok (.iadd, 1) := by decide +kernel
theorem dL_law_630 : decode cL_law 630 = .ok (.iaload, 1) := by decide +kernel
theorem dL_law_631 : decode cL_law 631 = .ok (.invokevirtual 92, 3) := by decide +kernel
theorem dL_law_634 : decode cL_law 634 = .ok (.if_icmp .eq 428, 3) := by decide +kernel
theorem dL_law_637 : decode cL_law 637 = .ok (.iconst 0, 1) := by decide +kernel
theorem dL_law_638 : decode cL_law 638 = .ok (.ireturn, 1) := by decide +kernel
theorem dL_law_639 : decode cL_law 639 = .ok (.aload_n 1, 1) := by decide +kernel
theorem dL_law_640 : decode cL_law 640 = .ok (.aload_n 0, 1) := by decide +kernel
theorem dL_law_641 : decode cL_law 641 = .ok (.iload_n 3, 1) := by decide +kernel
theorem dL_law_642 : decode cL_law 642 = .ok (.iconst 1, 1) := by decide +kernel
theorem dL_law_643 : decode cL_law 643 = .ok (.iadd, 1) := by decide +kernel
theorem dL_law_644 : decode cL_law 644 = .ok (.iaload, 1) := by decide +kernel
theorem dL_law_645 : decode cL_law 645 = .ok (.invokevirtual 93, 3) := by decide +kernel
theorem dL_law_648 : decode cL_law 648 = .ok (.aload_n 2, 1) := by decide +kernel
