theorem dX10_ask_77 : decode cX10_ask 77 = .ok (.iload 10, 2) := by decide +kernel
theorem dX10_ask_79 : decode cX10_ask 79 = .ok (.iload 9, 2) := by decide +kernel
theorem dX10_ask_81 : decode cX10_ask 81 = .ok (.ifCond .ge 7, 3) := by decide +kernel
theorem dX10_ask_84 : decode cX10_ask 84 = .ok (.iconst 1, 1) := by decide +kernel
theorem dX10_ask_85 : decode cX10_ask 85 = .ok (.goto 5, 3) := by decide +kernel
theorem dX10_ask_88 : decode cX10_ask 88 = .ok (.bipush 10, 2) := by decide +kernel
theorem dX10_ask_90 : decode cX10_ask 90 = .ok (.if_icmp .ge 90, 3) := by decide +kernel
theorem dX10_ask_93 : decode cX10_ask 93 = .ok (.iload 9, 2) := by decide +kernel
theorem dX10_ask_95 : decode cX10_ask 95 = .ok (.ifCond .lt 15, 3) := by decide +kernel
theorem dX10_ask_98 : decode cX10_ask 98 = .ok (.aload_n 0, 1) := by decide +kernel
theorem dX10_ask_99 : decode cX10_ask 99 = .ok (.getfield 55, 3) := by decide +kernel
theorem dX10_ask_102 : decode cX10_ask 102 = .ok (.iload 9, 2) := by decide +kernel
theorem dX10_ask_104 : decode cX10_ask 104 = .ok (.invokestatic 47, 3) := by decide +kernel
theorem dX10_ask_107 : decode cX10_ask 107 = .ok (.ifCond .eq 19, 3) := by decide +kernel
theorem dX10_ask_110 : decode cX10_ask 110 = .ok (.aload_n 0, 1) := by decide +kernel
theorem dX10_ask_111 : decode cX10_ask 111 = .ok (.iload_n 1, 1) := by decide +kernel
theorem dX10_ask_112 : decode cX10_ask 112 = .ok (.iload 9, 2) := by decide +kernel
theorem dX10_ask_114 : decode cX10_ask 114 = .ok (.iload 10, 2) := by decide +kernel
theorem dX10_ask_116 : decode cX10_ask 116 = .ok (.invokevirtual 165, 3) := by decide +kernel
theorem dX10_ask_119 : decode cX10_ask 119 = .ok (.ifCond .eq 7, 3) := by decide +kernel
theorem dX10_ask_122 : decode cX10_ask 122 = .ok (.iconst 1, 1) := by decide +kernel
theorem dX10_ask_123 : decode cX10_ask 123 = .ok (.goto 4, 3) := by decide +kernel
theorem dX10_ask_126 : decode cX10_ask 126 = .ok (.iconst 0, 1) := by decide +kernel
theorem dX10_ask_127 : decode cX10_ask 127 = .ok (.istore 11, 2) := by decide +kernel
theorem dX10_ask_129 : decode cX10_ask 129 = .ok (.iload 8, 2) := by decide +kernel
theorem dX10_ask_131 : decode cX10_ask 131 = .ok (.iload 11, 2) := by decide +kernel
theorem dX10_ask_133 : decode cX10_ask 133 = .ok (.ifCond .eq 7, 3) := by decide +kernel
theorem dX10_ask_136 : decode cX10_ask 136 = .ok (.iconst 1, 1) := by decide +kernel
theorem dX10_ask_137 : decode cX10_ask 137 = .ok (.goto 4, 3) := by decide +kernel
theorem dX10_ask_140 : decode cX10_ask 140 = .ok (.iconst 0, 1) := by decide +kernel
theorem dX10_ask_141 : decode cX10_ask 141 = .ok (.iadd, 1) := by decide +kernel
theorem dX10_ask_142 : decode cX10_ask 142 = .ok (.istore 8, 2) := by decide +kernel
theorem dX10_ask_144 : decode cX10_ask 144 = .ok (.iload 7, 2) := by decide +kernel
theorem dX10_ask_146 : decode cX10_ask 146 = .ok (.iload 11, 2) := by decide +kernel
theorem dX10_ask_148 : decode cX10_ask 148 = .ok (.ifCond .eq 22, 3) := by decide +kernel
theorem dX10_ask_151 : decode cX10_ask 151 = .ok (.aload_n 0, 1) := by decide +kernel
theorem dX10_ask_152 : decode cX10_ask 152 = .ok (.iload_n 1, 1) := by decide +kernel
theorem dX10_ask_153 : decode cX10_ask 153 = .ok (.iload 6, 2) := by decide +kernel
theorem dX10_ask_155 : decode cX10_ask 155 = .ok (.iload_n 2, 1) := by decide +kernel
theorem dX10_ask_156 : decode cX10_ask 156 = .ok (.iload 9, 2) := by decide +kernel
theorem dX10_ask_158 : decode cX10_ask 158 = .ok (.iload 10, 2) := by decide +kernel
theorem dX10_ask_160 : decode cX10_ask 160 = .ok (.invokevirtual 161, 3) := by decide +kernel
theorem dX10_ask_163 : decode cX10_ask 163 = .ok (.ifCond .eq 7, 3) := by decide +kernel
theorem dX10_ask_166 : decode cX10_ask 166 = .ok (.iconst 1, 1) := by decide +kernel
theorem dX10_ask_167 : decode cX10_ask 167 = .ok (.goto 4, 3) := by decide +kernel
theorem dX10_ask_170 : decode cX10_ask 170 = .ok (.iconst 0, 1) := by decide +kernel
theorem dX10_ask_171 : decode cX10_ask 171 = .ok (.iadd, 1) := by decide +kernel
theorem dX10_ask_172 : decode cX10_ask 172 = .ok (.istore 7, 2) := by decide +kernel
theorem dX10_ask_174 : decode cX10_ask 174 = .ok (.iinc 10 1, 3) := by decide +kernel
theorem dX10_ask_177 : decode cX10_ask 177 = .ok (.goto (-100), 3) := by decide +kernel
theorem dX10_ask_180 : decode cX10_ask 180 = .ok (.iinc 9 1, 3) := by decide +kernel
theorem dX10_ask_183 : decode cX10_ask 183 = .ok (.goto (-125), 3) := by decide +kernel
theorem dX10_ask_186 : decode cX10_ask 186 = .ok (.iload 7, 2) := by decide +kernel
theorem dX10_ask_188 : decode cX10_ask 188 = .ok (.iload 8, 2) := by decide +kernel
theorem dX10_ask_190 : decode cX10_ask 190 = .ok (.iload 7, 2) := by decide +kernel
theorem dX10_ask_192 : decode cX10_ask 192 = .ok (.isub, 1) := by decide +kernel
theorem dX10_ask_193 : decode cX10_ask 193 = .ok (.if_icmp .le 8, 3) := by decide +kernel
theorem dX10_ask_196 : decode cX10_ask 196 = .ok (.iload 7, 2) := by decide +kernel
theorem dX10_ask_198 : decode cX10_ask 198 = .ok (.goto 8, 3) := by decide +kernel
theorem dX10_ask_201 : decode cX10_ask 201 = .ok (.iload 8, 2) := by decide +kernel
theorem dX10_ask_203 : decode cX10_ask 203 = .ok (.iload 7, 2) := by decide +kernel
theorem dX10_ask_205 : decode cX10_ask 205 = .ok (.isub, 1) := by decide +kernel
theorem dX10_ask_206 : decode cX10_ask 206 = .ok (.istore 9, 2) := by decide +kernel
theorem dX10_ask_208 : decode cX10_ask 208 = .ok (.aload_n 0, 1) := by decide +kernel
theorem dX10_ask_209 : decode cX10_ask 209 = .ok (.getfield 55, 3) := by decide +kernel
theorem dX10_ask_212 : decode cX10_ask 212 = .ok (.iload 6, 2) := by decide +kernel
theorem dX10_ask_214 : decode cX10_ask 214 = .ok (.invokestatic 47, 3) := by decide +kernel
theorem dX10_ask_217 : decode cX10_ask 217 = .ok (.ifCond .eq 19, 3) := by decide +kernel
theorem dX10_ask_220 : decode cX10_ask 220 = .ok (.iload 8, 2) := by decide +kernel
theorem dX10_ask_222 : decode cX10_ask 222 = .ok (.ifCond .le 14, 3) := by decide +kernel
theorem dX10_ask_225 : decode cX10_ask 225 = .ok (.iload 9, 2) := by decide +kernel
theorem dX10_ask_227 : decode cX10_ask 227 = .ok (.iload 5, 2) := by decide +kernel
theorem dX10_ask_229 : decode cX10_ask 229 = .ok (.if_icmp .ge 7, 3) := by decide +kernel
theorem dX10_ask_232 : decode cX10_ask 232 = .ok (.iconst 1, 1) := by decide +kernel
theorem dX10_ask_233 : decode cX10_ask 233 = .ok (.goto 4, 3) := by decide +kernel
theorem dX10_ask_236 : decode cX10_ask 236 = .ok (.iconst 0, 1) := by decide +kernel
theorem dX10_ask_237 : decode cX10_ask 237 = .ok (.istore 10, 2) := by decide +kernel
theorem dX10_ask_239 : decode cX10_ask 239 = .ok (.iload 10, 2) := by decide +kernel
theorem dX10_ask_241 : decode cX10_ask 241 = .ok (.ifCond .eq 8, 3) := by decide +kernel
theorem dX10_ask_244 : decode cX10_ask 244 = .ok (.iload 6, 2) := by decide +kernel
theorem dX10_ask_246 : decode cX10_ask 246 = .ok (.goto 5, 3) := by decide +kernel
theorem dX10_ask_249 : decode cX10_ask 249 = .ok (.iload 4, 2) := by decide +kernel
theorem dX10_ask_251 : decode cX10_ask 251 = .ok (.istore 4, 2) := by decide +kernel
theorem dX10_ask_253 : decode cX10_ask 253 = .ok (.iload 10, 2) := by decide +kernel
theorem dX10_ask_255 : decode cX10_ask 255 = .ok (.ifCond .eq 8, 3) := by decide +kernel
theorem dX10_ask_258 : decode cX10_ask 258 = .ok (.iload 9, 2) := by decide +kernel
theorem dX10_ask_260 : decode cX10_ask 260 = .ok (.goto 5, 3) := by decide +kernel
theorem dX10_ask_263 : decode cX10_ask 263 = .ok (.iload 5, 2) := by decide +kernel
theorem dX10_ask_265 : decode cX10_ask 265 = .ok (.istore 5, 2) := by decide +kernel
theorem dX10_ask_267 : decode cX10_ask 267 = .ok (.iinc 6 1, 3) := by decide +kernel
theorem dX10_ask_270 : decode cX10_ask 270 = .ok (.goto (-228), 3) := by decide +kernel
theorem dX10_ask_273 : decode cX10_ask 273 = .ok (.iload 4, 2) := by decide +kernel
theorem dX10_ask_275 : decode cX10_ask 275 = .ok (.ifCond .lt 7, 3) := by decide +kernel
theorem dX10_ask_278 : decode cX10_ask 278 = .ok (.iload_n 3, 1) := by decide +kernel
theorem dX10_ask_279 : decode cX10_ask 279 = .ok (.ifCond .ne 8, 3) := by decide +kernel
theorem dX10_ask_282 : decode cX10_ask 282 = .ok (.iload 4, 2) := by decide +kernel
theorem dX10_ask_284 : decode cX10_ask 284 = .ok (.goto 5, 3) := by decide +kernel
theorem dX10_ask_287 : decode cX10_ask 287 = .ok (.iload 5, 2) := by decide +kernel
theorem dX10_ask_289 : decode cX10_ask 289 = .ok (.ireturn, 1) := by decide +kernel
set_option maxRecDepth 20000 in
theorem ggX10_bees_X10_in : GoodIn wsX10_bees wsX10_in := goodIn_r _ [11] (by decide +kernel) (by decide +kernel)
set_option maxRecDepth 20000 in
theorem gX10_bees_X10_in : GoodIn wsX10_bees (va_wsS RX10 43 yX10_in wsX10_in) := goodIn_app (goodIn_of _ (by decide +kernel)) ggX10_bees_X10_in
set_option maxRecDepth 20000 in
theorem ggX10_bees_X10_asNow : GoodIn wsX10_bees wsX10_asNow := goodIn_r _ [15, 2, 16, 17, 5, 25, 26, 27, 28, 29, 30, 31, 32, 33, 34, 35, 36, 37, 38, 39, 40, 41, 42, 43] (by decide +kernel) (by decide +kernel)
set_option maxRecDepth 20000 in
theorem gX10_bees_X10_asNow : GoodIn wsX10_bees (wsV RX10 83 RX10 yX10_asNow wsX10_asNow) := goodIn_app (goodIn_of _ (by decide +kernel)) ggX10_bees_X10_asNow
set_option maxRecDepth 20000 in
theorem ggX10_bees_X10_first : GoodIn wsX10_bees wsX10_first := goodIn_r _ [21, 16, 17, 22, 23, 10, 24, 25, 26, 27, 28, 29, 30, 31, 32, 33, 34, 35, 36, 37, 38, 39, 40, 41, 42, 43] (by decide +kernel) (by decide +kernel)
set_option maxRecDepth 20000 in
theorem gX10_bees_X10_first : GoodIn wsX10_bees (wsV RX10 124 RX10 yX10_first wsX10_first) := goodIn_app (goodIn_of _ (by decide +kernel)) ggX10_bees_X10_first
set_option maxRecDepth 20000 in
theorem ggX10_bees_X10_has : GoodIn wsX10_bees wsX10_has := goodIn_r _ [24] (by decide +kernel) (by decide +kernel)
set_option maxRecDepth 20000 in
theorem gX10_bees_X10_has : GoodIn wsX10_bees (va_wsS RX10 47 yX10_has wsX10_has) := goodIn_app (goodIn_of _ (by decide +kernel)) ggX10_bees_X10_has
theorem dX10_bees_0 : decode cX10_bees 0 = .ok (.iload_n 1, 1) := by decide +kernel
theorem dX10_bees_1 : decode cX10_bees 1 = .ok (.iconst 0, 1) := by decide +kernel
theorem dX10_bees_2 : decode cX10_bees 2 = .ok (.bipush 10, 2) := by decide +kernel
theorem dX10_bees_4 : decode cX10_bees 4 = .ok (.invokestatic 43, 3) := by decide +kernel
theorem dX10_bees_7 : decode cX10_bees 7 = .ok (.ifCond .eq 32, 3) := by decide +kernel
theorem dX10_bees_10 : decode cX10_bees 10 = .ok (.iload_n 2, 1) := by decide +kernel
theorem dX10_bees_11 : decode cX10_bees 11 = .ok (.iconst 0, 1) := by decide +kernel
theorem dX10_bees_12 : decode cX10_bees 12 = .ok (.bipush 10, 2) := by decide +kernel
theorem dX10_bees_14 : decode cX10_bees 14 = .ok (.invokestatic 43, 3) := by decide +kernel
theorem dX10_bees_17 : decode cX10_bees 17 = .ok (.ifCond .eq 22, 3) := by decide +kernel
theorem dX10_bees_20 : decode cX10_bees 20 = .ok (.iload_n 3, 1) := by decide +kernel
theorem dX10_bees_21 : decode cX10_bees 21 = .ok (.iconst 0, 1) := by decide +kernel
theorem dX10_bees_22 : decode cX10_bees 22 = .ok (.iconst 1, 1) := by decide +kernel
theorem dX10_bees_23 : decode cX10_bees 23 = .ok (.invokestatic 43, 3) := by decide +kernel
theorem dX10_bees_26 : decode cX10_bees 26 = .ok (.ifCond .eq 13, 3) := by decide +kernel
theorem dX10_bees_29 : decode cX10_bees 29 = .ok (.iload 4, 2) := by decide +kernel
theorem dX10_bees_31 : decode cX10_bees 31 = .ok (.iconst 0, 1) := by decide +kernel
theorem dX10_bees_32 : decode cX10_bees 32 = .ok (.iconst 1, 1) := by decide +kernel
theorem dX10_bees_33 : decode cX10_bees 33 = .ok (.invokestatic 43, 3) := by decide +kernel
theorem dX10_bees_36 : decode cX10_bees 36 = .ok (.ifCond .ne 7, 3) := by decide +kernel
theorem dX10_bees_39 : decode cX10_bees 39 = .ok (.ldc2_w 168, 3) := by decide +kernel
theorem dX10_bees_42 : decode cX10_bees 42 = .ok (.lreturn, 1) := by decide +kernel
theorem dX10_bees_43 : decode cX10_bees 43 = .ok (.aload_n 0, 1) := by decide +kernel
theorem dX10_bees_44 : decode cX10_bees 44 = .ok (.getfield 55, 3) := by decide +kernel
theorem dX10_bees_47 : decode cX10_bees 47 = .ok (.ifCond .ne 7, 3) := by decide +kernel
theorem dX10_bees_50 : decode cX10_bees 50 = .ok (.ldc2_w 170, 3) := by decide +kernel
theorem dX10_bees_53 : decode cX10_bees 53 = .ok (.lreturn, 1) := by decide +kernel
theorem dX10_bees_54 : decode cX10_bees 54 = .ok (.aload_n 0, 1) := by decide +kernel
theorem dX10_bees_55 : decode cX10_bees 55 = .ok (.invokevirtual 83, 3) := by decide +kernel
theorem dX10_bees_58 : decode cX10_bees 58 = .ok (.aload_n 0, 1) := by decide +kernel
theorem dX10_bees_59 : decode cX10_bees 59 = .ok (.invokevirtual 124, 3) := by decide +kernel
theorem dX10_bees_62 : decode cX10_bees 62 = .ok (.istore 5, 2) := by decide +kernel
theorem dX10_bees_64 : decode cX10_bees 64 = .ok (.lconst 0, 1) := by decide +kernel
theorem dX10_bees_65 : decode cX10_bees 65 = .ok (.lstore 6, 2) := by decide +kernel
theorem dX10_bees_67 : decode cX10_bees 67 = .ok (.lconst 1, 1) := by decide +kernel
theorem dX10_bees_68 : decode cX10_bees 68 = .ok (.lstore 8, 2) := by decide +kernel
theorem dX10_bees_70 : decode cX10_bees 70 = .ok (.iconst 0, 1) := by decide +kernel
theorem dX10_bees_71 : decode cX10_bees 71 = .ok (.istore 10, 2) := by decide +kernel
theorem dX10_bees_73 : decode cX10_bees 73 = .ok (.iload 10, 2) := by decide +kernel
theorem dX10_bees_75 : decode cX10_bees 75 = .ok (.iload_n 1, 1) := by decide +kernel
theorem dX10_bees_76 : decode cX10_bees 76 = .ok (.if_icmp .ge 17, 3) := by decide +kernel
theorem dX10_bees_79 : decode cX10_bees 79 = .ok (.lload 8, 2) := by decide +kernel
theorem dX10_bees_81 : decode cX10_bees 81 = .ok (.ldc2_w 172, 3) := by decide +kernel
theorem dX10_bees_84 : decode cX10_bees 84 = .ok (.lmul, 1) := by decide +kernel
theorem dX10_bees_85 : decode cX10_bees 85 = .ok (.lstore 8, 2) := by decide +kernel
theorem dX10_bees_87 : decode cX10_bees 87 = .ok (.iinc 10 1, 3) := by decide +kernel
theorem dX10_bees_90 : decode cX10_bees 90 = .ok (.goto (-17), 3) := by decide +kernel
theorem dX10_bees_93 : decode cX10_bees 93 = .ok (.iconst 0, 1) := by decide +kernel
theorem dX10_bees_94 : decode cX10_bees 94 = .ok (.istore 10, 2) := by decide +kernel
theorem dX10_bees_96 : decode cX10_bees 96 = .ok (.iload 10, 2) := by decide +kernel
theorem dX10_bees_98 : decode cX10_bees 98 = .ok (.iconst 1, 1) := by decide +kernel
theorem dX10_bees_99 : decode cX10_bees 99 = .ok (.iload_n 1, 1) := by decide +kernel
theorem dX10_bees_100 : decode cX10_bees 100 = .ok (.ishl, 1) := by decide +kernel
theorem dX10_bees_101 : decode cX10_bees 101 = .ok (.if_icmp .ge 135, 3) := by decide +kernel
theorem dX10_bees_104 : decode cX10_bees 104 = .ok (.lconst 1, 1) := by decide +kernel
theorem dX10_bees_105 : decode cX10_bees 105 = .ok (.lstore 11, 2) := by decide +kernel
theorem dX10_bees_107 : decode cX10_bees 107 = .ok (.aload_n 0, 1) := by decide +kernel
theorem dX10_bees_108 : decode cX10_bees 108 = .ok (.getfield 7, 3) := by decide +kernel
theorem dX10_bees_111 : decode cX10_bees 111 = .ok (.iload 5, 2) := by decide +kernel
theorem dX10_bees_113 : decode cX10_bees 113 = .ok (.iaload, 1) := by decide +kernel
theorem dX10_bees_114 : decode cX10_bees 114 = .ok (.istore 13, 2) := by decide +kernel
theorem dX10_bees_116 : decode cX10_bees 116 = .ok (.iconst 0, 1) := by decide +kernel
theorem dX10_bees_117 : decode cX10_bees 117 = .ok (.istore 14, 2) := by decide +kernel
theorem dX10_bees_119 : decode cX10_bees 119 = .ok (.iload 14, 2) := by decide +kernel
theorem dX10_bees_121 : decode cX10_bees 121 = .ok (.iload_n 1, 1) := by decide +kernel
theorem dX10_bees_122 : decode cX10_bees 122 = .ok (.if_icmp .ge 79, 3) := by decide +kernel
theorem dX10_bees_125 : decode cX10_bees 125 = .ok (.lload 11, 2) := by decide +kernel
theorem dX10_bees_127 : decode cX10_bees 127 = .ok (.iload 10, 2) := by decide +kernel
theorem dX10_bees_129 : decode cX10_bees 129 = .ok (.iload 14, 2) := by decide +kernel
theorem dX10_bees_131 : decode cX10_bees 131 = .ok (.invokestatic 47, 3) := by decide +kernel
theorem dX10_bees_134 : decode cX10_bees 134 = .ok (.ifCond .eq 8, 3) := by decide +kernel
theorem dX10_bees_137 : decode cX10_bees 137 = .ok (.iload_n 2, 1) := by decide +kernel
theorem dX10_bees_138 : decode cX10_bees 138 = .ok (.i2l, 1) := by decide +kernel
theorem dX10_bees_139 : decode cX10_bees 139 = .ok (.goto 8, 3) := by decide +kernel
theorem dX10_bees_142 : decode cX10_bees 142 = .ok (.bipush 10, 2) := by decide +kernel
theorem dX10_bees_144 : decode cX10_bees 144 = .ok (.iload_n 2, 1) := by decide +kernel
theorem dX10_bees_145 : decode cX10_bees 145 = .ok (.isub, 1) := by decide +kernel
theorem dX10_bees_146 : decode cX10_bees 146 = .ok (.i2l, 1) := by decide +kernel
theorem dX10_bees_147 : decode cX10_bees 147 = .ok (.lmul, 1) := by decide +kernel
theorem dX10_bees_148 : decode cX10_bees 148 = .ok (.lstore 11, 2) := by decide +kernel
theorem dX10_bees_150 : decode cX10_bees 150 = .ok (.iload 10, 2) := by decide +kernel
theorem dX10_bees_152 : decode cX10_bees 152 = .ok (.iload 14, 2) := by decide +kernel
theorem dX10_bees_154 : decode cX10_bees 154 = .ok (.invokestatic 47, 3) := by decide +kernel
theorem dX10_bees_157 : decode cX10_bees 157 = .ok (.ifCond .eq 10, 3) := by decide +kernel
theorem dX10_bees_160 : decode cX10_bees 160 = .ok (.aload_n 0, 1) := by decide +kernel
theorem dX10_bees_161 : decode cX10_bees 161 = .ok (.getfield 17, 3) := by decide +kernel
theorem dX10_bees_164 : decode cX10_bees 164 = .ok (.goto 29, 3) := by decide +kernel
theorem dX10_bees_167 : decode cX10_bees 167 = .ok (.iload 13, 2) := by decide +kernel
theorem dX10_bees_169 : decode cX10_bees 169 = .ok (.aload_n 0, 1) := by decide +kernel
theorem dX10_bees_170 : decode cX10_bees 170 = .ok (.getfield 13, 3) := by decide +kernel
theorem dX10_bees_173 : decode cX10_bees 173 = .ok (.iload 5, 2) := by decide +kernel
theorem dX10_bees_175 : decode cX10_bees 175 = .ok (.iaload, 1) := by decide +kernel
theorem dX10_bees_176 : decode cX10_bees 176 = .ok (.if_icmp .le 16, 3) := by decide +kernel
theorem dX10_bees_179 : decode cX10_bees 179 = .ok (.iload 13, 2) := by decide +kernel
theorem dX10_bees_181 : decode cX10_bees 181 = .ok (.aload_n 0, 1) := by decide +kernel
theorem dX10_bees_182 : decode cX10_bees 182 = .ok (.getfield 13, 3) := by decide +kernel
theorem dX10_bees_185 : decode cX10_bees 185 = .ok (.iload 5, 2) := by decide +kernel
theorem dX10_bees_187 : decode cX10_bees 187 = .ok (.iaload, 1) := by decide +kernel
theorem dX10_bees_188 : decode cX10_bees 188 = .ok (.isub, 1) := by decide +kernel
theorem dX10_bees_189 : decode cX10_bees 189 = .ok (.goto 4, 3) := by decide +kernel
theorem dX10_bees_192 : decode cX10_bees 192 = .ok (.iconst 0, 1) := by decide +kernel
theorem dX10_bees_193 : decode cX10_bees 193 = .ok (.istore 13, 2) := by decide +kernel
theorem dX10_bees_195 : decode cX10_bees 195 = .ok (.iinc 14 1, 3) := by decide +kernel
theorem dX10_bees_198 : decode cX10_bees 198 = .ok (.goto (-79), 3) := by decide +kernel
theorem dX10_bees_201 : decode cX10_bees 201 = .ok (.lload 6, 2) := by decide +kernel
theorem dX10_bees_203 : decode cX10_bees 203 = .ok (.iload_n 3, 1) := by decide +kernel
theorem dX10_bees_204 : decode cX10_bees 204 = .ok (.ifCond .ne 12, 3) := by decide +kernel
theorem dX10_bees_207 : decode cX10_bees 207 = .ok (.lload 11, 2) := by decide +kernel
theorem dX10_bees_209 : decode cX10_bees 209 = .ok (.iload 13, 2) := by decide +kernel
theorem dX10_bees_211 : decode cX10_bees 211 = .ok (.i2l, 1) := by decide +kernel
theorem dX10_bees_212 : decode cX10_bees 212 = .ok (.lmul, 1) := by decide +kernel
theorem dX10_bees_213 : decode cX10_bees 213 = .ok (.goto 14, 3) := by decide +kernel
theorem dX10_bees_216 : decode cX10_bees 216 = .ok (.iload 13, 2) := by decide +kernel
theorem dX10_bees_218 : decode cX10_bees 218 = .ok (.ifCond .ne 8, 3) := by decide +kernel
theorem dX10_bees_221 : decode cX10_bees 221 = .ok (.lload 11, 2) := by decide +kernel
theorem dX10_bees_223 : decode cX10_bees 223 = .ok (.goto 4, 3) := by decide +kernel
theorem dX10_bees_226 : decode cX10_bees 226 = .ok (.lconst 0, 1) := by decide +kernel
theorem dX10_bees_227 : decode cX10_bees 227 = .ok (.ladd, 1) := by decide +kernel
theorem dX10_bees_228 : decode cX10_bees 228 = .ok (.lstore 6, 2) := by decide +kernel
theorem dX10_bees_230 : decode cX10_bees 230 = .ok (.iinc 10 1, 3) := by decide +kernel
theorem dX10_bees_233 : decode cX10_bees 233 = .ok (.goto (-137), 3) := by decide +kernel
theorem dX10_bees_236 : decode cX10_bees 236 = .ok (.lload 6, 2) := by decide +kernel
theorem dX10_bees_238 : decode cX10_bees 238 = .ok (.lstore 10, 2) := by decide +kernel
theorem dX10_bees_240 : decode cX10_bees 240 = .ok (.lload 8, 2) := by decide +kernel
theorem dX10_bees_242 : decode cX10_bees 242 = .ok (.lstore 12, 2) := by decide +kernel
theorem dX10_bees_244 : decode cX10_bees 244 = .ok (.lload 12, 2) := by decide +kernel
theorem dX10_bees_246 : decode cX10_bees 246 = .ok (.lconst 0, 1) := by decide +kernel
theorem dX10_bees_247 : decode cX10_bees 247 = .ok (.lcmp, 1) := by decide +kernel
theorem dX10_bees_248 : decode cX10_bees 248 = .ok (.ifCond .eq 21, 3) := by decide +kernel
theorem dX10_bees_251 : decode cX10_bees 251 = .ok (.lload 10, 2) := by decide +kernel
theorem dX10_bees_253 : decode cX10_bees 253 = .ok (.lload 12, 2) := by decide +kernel
theorem dX10_bees_255 : decode cX10_bees 255 = .ok (.lrem, 1) := by decide +kernel
theorem dX10_bees_256 : decode cX10_bees 256 = .ok (.lstore 14, 2) := by decide +kernel
theorem dX10_bees_258 : decode cX10_bees 258 = .ok (.lload 12, 2) := by decide +kernel
theorem dX10_bees_260 : decode cX10_bees 260 = .ok (.lstore 10, 2) := by decide +kernel
theorem dX10_bees_262 : decode cX10_bees 262 = .ok (.lload 14, 2) := by decide +kernel
theorem dX10_bees_264 : decode cX10_bees 264 = .ok (.lstore 12, 2) := by decide +kernel
theorem dX10_bees_266 : decode cX10_bees 266 = .ok (.goto (-22), 3) := by decide +kernel
theorem dX10_bees_269 : decode cX10_bees 269 = .ok (.iload 4, 2) := by decide +kernel
theorem dX10_bees_271 : decode cX10_bees 271 = .ok (.ifCond .ne 11, 3) := by decide +kernel
theorem dX10_bees_274 : decode cX10_bees 274 = .ok (.lload 6, 2) := by decide +kernel
theorem dX10_bees_276 : decode cX10_bees 276 = .ok (.lload 10, 2) := by decide +kernel
theorem dX10_bees_278 : decode cX10_bees 278 = .ok (.ldiv, 1) := by decide +kernel
theorem dX10_bees_279 : decode cX10_bees 279 = .ok (.goto 8, 3) := by decide +kernel
theorem dX10_bees_282 : decode cX10_bees 282 = .ok (.lload 8, 2) := by decide +kernel
theorem dX10_bees_284 : decode cX10_bees 284 = .ok (.lload 10, 2) := by decide +kernel
theorem dX10_bees_286 : decode cX10_bees 286 = .ok (.ldiv, 1) := by decide +kernel
theorem dX10_bees_287 : decode cX10_bees 287 = .ok (.lreturn, 1) := by decide +kernel
set_option maxRecDepth 20000 in
theorem ggX10_turn_X10_whyNotSleep : GoodIn wsX10_turn wsX10_whyNotSleep := goodIn_r _ [8, 1, 9, 10, 11, 7, 12, 13, 14, 15, 16, 17, 18, 19, 54, 55, 56, 57, 58, 59, 60, 61, 62, 63, 64, 65, 66, 67, 68, 69, 70, 71, 72] (by decide +kernel) (by decide +kernel)
set_option maxRecDepth 20000 in
theorem gX10_turn_X10_whyNotSleep : GoodIn wsX10_turn (wsV RX10 105 RX10 yX10_whyNotSleep wsX10_whyNotSleep) := goodIn_app (goodIn_of _ (by decide +kernel)) ggX10_turn_X10_whyNotSleep
set_option maxRecDepth 20000 in
theorem ggX10_turn_X10_sleep : GoodIn wsX10_turn wsX10_sleep := goodIn_r _ [23, 2, 1, 54, 55, 56, 57, 58, 59, 60, 61, 62, 63, 64, 65, 66, 67, 68, 69, 70, 71, 72] (by decide +kernel) (by decide +kernel)
set_option maxRecDepth 20000 in
theorem gX10_turn_X10_sleep : GoodIn wsX10_turn (wsV RX10 112 RX10 yX10_sleep wsX10_sleep) := goodIn_app (goodIn_of _ (by decide +kernel)) ggX10_turn_X10_sleep
set_option maxRecDepth 20000 in
theorem ggX10_turn_X10_whyNot : GoodIn wsX10_turn wsX10_whyNot := goodIn_r _ [27, 1, 9, 10, 11, 7, 12, 13, 14, 15, 16, 17, 18, 19, 54, 55, 56, 57, 58, 59, 60, 61, 62, 63, 64, 65, 66, 67, 68, 69, 70, 71, 72] (by decide +kernel) (by decide +kernel)
set_option maxRecDepth 20000 in
theorem gX10_turn_X10_whyNot : GoodIn wsX10_turn (wsV RX10 109 RX10 yX10_whyNot wsX10_whyNot) := goodIn_app (goodIn_of _ (by decide +kernel)) ggX10_turn_X10_whyNot
set_option maxRecDepth 20000 in
theorem ggX10_turn_X10_act : GoodIn wsX10_turn wsX10_act := goodIn_r _ [31, 1, 2, 32, 33, 34, 7, 35, 3, 36, 37, 38, 39, 40, 17, 18, 19, 54, 55, 56, 57, 58, 59, 60, 61, 62, 63, 64, 65, 66, 67, 68, 69, 70, 71, 72] (by decide +kernel) (by decide +kernel)
set_option maxRecDepth 20000 in
theorem gX10_turn_X10_act : GoodIn wsX10_turn (wsV RX10 115 RX10 yX10_act wsX10_act) := goodIn_app (goodIn_of _ (by decide +kernel)) ggX10_turn_X10_act
set_option maxRecDepth 20000 in
theorem ggX10_turn_X10_bell : GoodIn wsX10_turn wsX10_bell := goodIn_r _ [44, 1, 17, 18, 7, 19, 32, 33, 34, 35, 2, 3, 54, 55, 56, 57, 58, 59, 60, 61, 62, 63, 64, 65, 66, 67, 68, 69, 70, 71, 72] (by decide +kernel) (by decide +kernel)
set_option maxRecDepth 20000 in
theorem gX10_turn_X10_bell : GoodIn wsX10_turn (wsV RX10 121 RX10 yX10_bell wsX10_bell) := goodIn_app (goodIn_of _ (by decide +kernel)) ggX10_turn_X10_bell
set_option maxRecDepth 20000 in
theorem ggX10_turn_X10_first : GoodIn wsX10_turn wsX10_first := goodIn_r _ [48, 1, 2, 17, 18, 7, 19, 54, 55, 56, 57, 58, 59, 60, 61, 62, 63, 64, 65, 66, 67, 68, 69, 70, 71, 72] (by decide +kernel) (by decide +kernel)
set_option maxRecDepth 20000 in
theorem gX10_turn_X10_first : GoodIn wsX10_turn (wsV RX10 124 RX10 yX10_first wsX10_first) := goodIn_app (goodIn_of _ (by decide +kernel)) ggX10_turn_X10_first
set_option maxRecDepth 20000 in
theorem ggX10_turn_X10_breath : GoodIn wsX10_turn wsX10_breath := goodIn_r _ [52, 1, 2, 53, 17, 18, 7, 19, 54, 55, 56, 57, 58, 59, 60, 61, 62, 63, 64, 65, 66, 67, 68, 69, 70, 71, 72] (by decide +kernel) (by decide +kernel)
set_option maxRecDepth 20000 in
theorem gX10_turn_X10_breath : GoodIn wsX10_turn (wsV RX10 118 RX10 yX10_breath wsX10_breath) := goodIn_app (goodIn_of _ (by decide +kernel)) ggX10_turn_X10_breath
theorem dX10_turn_0 : decode cX10_turn 0 = .ok (.iload_n 1, 1) := by decide +kernel
theorem dX10_turn_1 : decode cX10_turn 1 = .ok (.bipush 8, 2) := by decide +kernel
theorem dX10_turn_3 : decode cX10_turn 3 = .ok (.irem, 1) := by decide +kernel
theorem dX10_turn_4 : decode cX10_turn 4 = .ok (.istore_n 2, 1) := by decide +kernel
theorem dX10_turn_5 : decode cX10_turn 5 = .ok (.iload_n 1, 1) := by decide +kernel
theorem dX10_turn_6 : decode cX10_turn 6 = .ok (.bipush 8, 2) := by decide +kernel
theorem dX10_turn_8 : decode cX10_turn 8 = .ok (.idiv, 1) := by decide +kernel
theorem dX10_turn_9 : decode cX10_turn 9 = .ok (.bipush 8, 2) := by decide +kernel
theorem dX10_turn_11 : decode cX10_turn 11 = .ok (.irem, 1) := by decide +kernel
theorem dX10_turn_12 : decode cX10_turn 12 = .ok (.istore_n 3, 1) := by decide +kernel
theorem dX10_turn_13 : decode cX10_turn 13 = .ok (.iload_n 1, 1) := by decide +kernel
theorem dX10_turn_14 : decode cX10_turn 14 = .ok (.bipush 64, 2) := by decide +kernel
theorem dX10_turn_16 : decode cX10_turn 16 = .ok (.idiv, 1) := by decide +kernel
theorem dX10_turn_17 : decode cX10_turn 17 = .ok (.bipush 8, 2) := by decide +kernel
theorem dX10_turn_19 : decode cX10_turn 19 = .ok (.irem, 1) := by decide +kernel
theorem dX10_turn_20 : decode cX10_turn 20 = .ok (.istore 4, 2) := by decide +kernel
theorem dX10_turn_22 : decode cX10_turn 22 = .ok (.iload_n 2, 1) := by decide +kernel
theorem dX10_turn_23 : decode cX10_turn 23 = .ok (.iconst 4, 1) := by decide +kernel
theorem dX10_turn_24 : decode cX10_turn 24 = .ok (.if_icmp .ne 23, 3) := by decide +kernel
theorem dX10_turn_27 : decode cX10_turn 27 = .ok (.aload_n 0, 1) := by decide +kernel
theorem dX10_turn_28 : decode cX10_turn 28 = .ok (.iload_n 3, 1) := by decide +kernel
theorem dX10_turn_29 : decode cX10_turn 29 = .ok (.iload 4, 2) := by decide +kernel
theorem dX10_turn_31 : decode cX10_turn 31 = .ok (.invokevirtual 105, 3) := by decide +kernel
theorem dX10_turn_34 : decode cX10_turn 34 = .ok (.ifCond .ne 131, 3) := by decide +kernel
theorem dX10_turn_37 : decode cX10_turn 37 = .ok (.aload_n 0, 1) := by decide +kernel
theorem dX10_turn_38 : decode cX10_turn 38 = .ok (.iload_n 3, 1) := by decide +kernel
theorem dX10_turn_39 : decode cX10_turn 39 = .ok (.iload 4, 2) := by decide +kernel
theorem dX10_turn_41 : decode cX10_turn 41 = .ok (.invokevirtual 112, 3) := by decide +kernel
theorem dX10_turn_44 : decode cX10_turn 44 = .ok (.goto 121, 3) := by decide +kernel
theorem dX10_turn_47 : decode cX10_turn 47 = .ok (.iload_n 2, 1) := by decide +kernel
theorem dX10_turn_48 : decode cX10_turn 48 = .ok (.iconst 2, 1) := by decide +kernel
theorem dX10_turn_49 : decode cX10_turn 49 = .ok (.if_icmp .eq 13, 3) := by decide +kernel
theorem dX10_turn_52 : decode cX10_turn 52 = .ok (.iload_n 2, 1) := by decide +kernel
theorem dX10_turn_53 : decode cX10_turn 53 = .ok (.iconst 3, 1) := by decide +kernel
theorem dX10_turn_54 : decode cX10_turn 54 = .ok (.if_icmp .eq 8, 3) := by decide +kernel
theorem dX10_turn_57 : decode cX10_turn 57 = .ok (.iload_n 2, 1) := by decide +kernel
theorem dX10_turn_58 : decode cX10_turn 58 = .ok (.iconst 5, 1) := by decide +kernel
theorem dX10_turn_59 : decode cX10_turn 59 = .ok (.if_icmp .ne 47, 3) := by decide +kernel
theorem dX10_turn_62 : decode cX10_turn 62 = .ok (.iload_n 2, 1) := by decide +kernel
theorem dX10_turn_63 : decode cX10_turn 63 = .ok (.iconst 2, 1) := by decide +kernel
theorem dX10_turn_64 : decode cX10_turn 64 = .ok (.if_icmp .ne 8, 3) := by decide +kernel
theorem dX10_turn_67 : decode cX10_turn 67 = .ok (.bipush 107, 2) := by decide +kernel
theorem dX10_turn_69 : decode cX10_turn 69 = .ok (.goto 15, 3) := by decide +kernel
theorem dX10_turn_72 : decode cX10_turn 72 = .ok (.iload_n 2, 1) := by decide +kernel
theorem dX10_turn_73 : decode cX10_turn 73 = .ok (.iconst 3, 1) := by decide +kernel
theorem dX10_turn_74 : decode cX10_turn 74 = .ok (.if_icmp .ne 8, 3) := by decide +kernel
theorem dX10_turn_77 : decode cX10_turn 77 = .ok (.bipush 101, 2) := by decide +kernel
theorem dX10_turn_79 : decode cX10_turn 79 = .ok (.goto 5, 3) := by decide +kernel
theorem dX10_turn_82 : decode cX10_turn 82 = .ok (.bipush 119, 2) := by decide +kernel
theorem dX10_turn_84 : decode cX10_turn 84 = .ok (.istore 5, 2) := by decide +kernel
theorem dX10_turn_86 : decode cX10_turn 86 = .ok (.aload_n 0, 1) := by decide +kernel
theorem dX10_turn_87 : decode cX10_turn 87 = .ok (.iload_n 3, 1) := by decide +kernel
theorem dX10_turn_88 : decode cX10_turn 88 = .ok (.iload 5, 2) := by decide +kernel
theorem dX10_turn_90 : decode cX10_turn 90 = .ok (.invokevirtual 109, 3) := by decide +kernel
theorem dX10_turn_93 : decode cX10_turn 93 = .ok (.ifCond .ne 10, 3) := by decide +kernel
theorem dX10_turn_96 : decode cX10_turn 96 = .ok (.aload_n 0, 1) := by decide +kernel
theorem dX10_turn_97 : decode cX10_turn 97 = .ok (.iload_n 3, 1) := by decide +kernel
theorem dX10_turn_98 : decode cX10_turn 98 = .ok (.iload 5, 2) := by decide +kernel
theorem dX10_turn_100 : decode cX10_turn 100 = .ok (.invokevirtual 115, 3) := by decide +kernel
theorem dX10_turn_103 : decode cX10_turn 103 = .ok (.goto 62, 3) := by decide +kernel
theorem dX10_turn_106 : decode cX10_turn 106 = .ok (.aload_n 0, 1) := by decide +kernel
theorem dX10_turn_107 : decode cX10_turn 107 = .ok (.getfield 72, 3) := by decide +kernel
theorem dX10_turn_110 : decode cX10_turn 110 = .ok (.ifCond .eq 55, 3) := by decide +kernel
theorem dX10_turn_113 : decode cX10_turn 113 = .ok (.iload_n 2, 1) := by decide +kernel
theorem dX10_turn_114 : decode cX10_turn 114 = .ok (.ifCond .ne 10, 3) := by decide +kernel
theorem dX10_turn_117 : decode cX10_turn 117 = .ok (.aload_n 0, 1) := by decide +kernel
theorem dX10_turn_118 : decode cX10_turn 118 = .ok (.invokevirtual 121, 3) := by decide +kernel
theorem dX10_turn_121 : decode cX10_turn 121 = .ok (.goto 44, 3) := by decide +kernel
theorem dX10_turn_124 : decode cX10_turn 124 = .ok (.iload_n 2, 1) := by decide +kernel
theorem dX10_turn_125 : decode cX10_turn 125 = .ok (.iconst 1, 1) := by decide +kernel
theorem dX10_turn_126 : decode cX10_turn 126 = .ok (.if_icmp .ne 19, 3) := by decide +kernel
theorem dX10_turn_129 : decode cX10_turn 129 = .ok (.aload_n 0, 1) := by decide +kernel
theorem dX10_turn_130 : decode cX10_turn 130 = .ok (.getfield 30, 3) := by decide +kernel
theorem dX10_turn_133 : decode cX10_turn 133 = .ok (.aload_n 0, 1) := by decide +kernel
theorem dX10_turn_134 : decode cX10_turn 134 = .ok (.invokevirtual 124, 3) := by decide +kernel
theorem dX10_turn_137 : decode cX10_turn 137 = .ok (.aload_n 0, 1) := by decide +kernel
theorem dX10_turn_138 : decode cX10_turn 138 = .ok (.getfield 17, 3) := by decide +kernel
theorem dX10_turn_141 : decode cX10_turn 141 = .ok (.iastore, 1) := by decide +kernel
theorem dX10_turn_142 : decode cX10_turn 142 = .ok (.goto 23, 3) := by decide +kernel
theorem dX10_turn_145 : decode cX10_turn 145 = .ok (.iconst 0, 1) := by decide +kernel
theorem dX10_turn_146 : decode cX10_turn 146 = .ok (.istore 5, 2) := by decide +kernel
theorem dX10_turn_148 : decode cX10_turn 148 = .ok (.iload 5, 2) := by decide +kernel
theorem dX10_turn_150 : decode cX10_turn 150 = .ok (.bipush 10, 2) := by decide +kernel
theorem dX10_turn_152 : decode cX10_turn 152 = .ok (.if_icmp .ge 13, 3) := by decide +kernel
theorem dX10_turn_155 : decode cX10_turn 155 = .ok (.aload_n 0, 1) := by decide +kernel
theorem dX10_turn_156 : decode cX10_turn 156 = .ok (.invokevirtual 118, 3) := by decide +kernel
theorem dX10_turn_159 : decode cX10_turn 159 = .ok (.iinc 5 1, 3) := by decide +kernel
theorem dX10_turn_162 : decode cX10_turn 162 = .ok (.goto (-14), 3) := by decide +kernel
theorem dX10_turn_165 : decode cX10_turn 165 = .ok (.return_, 1) := by decide +kernel
set_option maxRecDepth 20000 in
theorem ggX10_year_X10_in : GoodIn wsX10_year wsX10_in := goodIn_r _ [8] (by decide +kernel) (by decide +kernel)
set_option maxRecDepth 20000 in
theorem gX10_year_X10_in : GoodIn wsX10_year (va_wsS RX10 43 yX10_in wsX10_in) := goodIn_app (goodIn_of _ (by decide +kernel)) ggX10_year_X10_in
set_option maxRecDepth 20000 in
theorem ggX10_year_X10_asNow : GoodIn wsX10_year wsX10_asNow := goodIn_r _ [12, 13, 4, 2, 14, 68, 69, 70, 71, 72, 73, 74, 75, 76, 77, 78, 79, 80, 81, 82, 83, 84, 85, 86] (by decide +kernel) (by decide +kernel)
set_option maxRecDepth 20000 in
theorem gX10_year_X10_asNow : GoodIn wsX10_year (wsV RX10 83 RX10 yX10_asNow wsX10_asNow) := goodIn_app (goodIn_of _ (by decide +kernel)) ggX10_year_X10_asNow
set_option maxRecDepth 20000 in
theorem ggX10_year_X10_turn : GoodIn wsX10_year wsX10_turn := goodIn_r _ [18, 4, 2, 19, 20, 21, 22, 7, 23, 24, 25, 26, 27, 3, 5, 6, 8, 28, 29, 30, 31, 32, 33, 34, 35, 36, 37, 38, 39, 40, 41, 42, 43, 44, 45, 46, 47, 48, 49, 50, 51, 52, 53, 54, 55, 56, 57, 58, 59, 60, 61, 62, 63, 64, 68, 69, 70, 71, 72, 73, 74, 75, 76, 77, 78, 79, 80, 81, 82, 83, 84, 85, 86] (by decide +kernel) (by decide +kernel)
set_option maxRecDepth 20000 in
theorem gX10_year_X10_turn : GoodIn wsX10_year (wsV RX10 175 RX10 yX10_turn wsX10_turn) := goodIn_app (goodIn_of _ (by decide +kernel)) ggX10_year_X10_turn
set_option maxRecDepth 20000 in
theorem ggX10_year_X10_has : GoodIn wsX10_year wsX10_has := goodIn_r _ [30] (by decide +kernel) (by decide +kernel)
set_option maxRecDepth 20000 in
theorem gX10_year_X10_has : GoodIn wsX10_year (va_wsS RX10 47 yX10_has wsX10_has) := goodIn_app (goodIn_of _ (by decide +kernel)) ggX10_year_X10_has
set_option maxRecDepth 20000 in
theorem ggX10_year_X10_bits : GoodIn wsX10_year wsX10_bits := goodIn_r _ [67] (by decide +kernel) (by decide +kernel)
set_option maxRecDepth 20000 in
theorem gX10_year_X10_bits : GoodIn wsX10_year (va_wsS RX10 58 yX10_bits wsX10_bits) := goodIn_app (goodIn_of _ (by decide +kernel)) ggX10_year_X10_bits
theorem dX10_year_0 : decode cX10_year 0 = .ok (.iload_n 1, 1) := by decide +kernel
theorem dX10_year_1 : decode cX10_year 1 = .ok (.iconst 0, 1) := by decide +kernel
theorem dX10_year_2 : decode cX10_year 2 = .ok (.sipush 9999, 3) := by decide +kernel
theorem dX10_year_5 : decode cX10_year 5 = .ok (.invokestatic 43, 3) := by decide +kernel
theorem dX10_year_8 : decode cX10_year 8 = .ok (.ifCond .eq 22, 3) := by decide +kernel
theorem dX10_year_11 : decode cX10_year 11 = .ok (.iload_n 2, 1) := by decide +kernel
theorem dX10_year_12 : decode cX10_year 12 = .ok (.iconst 1, 1) := by decide +kernel
theorem dX10_year_13 : decode cX10_year 13 = .ok (.bipush 99, 2) := by decide +kernel
theorem dX10_year_15 : decode cX10_year 15 = .ok (.invokestatic 43, 3) := by decide +kernel
theorem dX10_year_18 : decode cX10_year 18 = .ok (.ifCond .eq 12, 3) := by decide +kernel
theorem dX10_year_21 : decode cX10_year 21 = .ok (.iload_n 3, 1) := by decide +kernel
theorem dX10_year_22 : decode cX10_year 22 = .ok (.iconst 0, 1) := by decide +kernel
theorem dX10_year_23 : decode cX10_year 23 = .ok (.iconst 2, 1) := by decide +kernel
theorem dX10_year_24 : decode cX10_year 24 = .ok (.invokestatic 43, 3) := by decide +kernel
theorem dX10_year_27 : decode cX10_year 27 = .ok (.ifCond .ne 6, 3) := by decide +kernel
theorem dX10_year_30 : decode cX10_year 30 = .ok (.bipush (-2), 2) := by decide +kernel
theorem dX10_year_32 : decode cX10_year 32 = .ok (.ireturn, 1) := by decide +kernel
theorem dX10_year_33 : decode cX10_year 33 = .ok (.aload_n 0, 1) := by decide +kernel
theorem dX10_year_34 : decode cX10_year 34 = .ok (.invokevirtual 83, 3) := by decide +kernel
theorem dX10_year_37 : decode cX10_year 37 = .ok (.iload_n 1, 1) := by decide +kernel
theorem dX10_year_38 : decode cX10_year 38 = .ok (.istore 4, 2) := by decide +kernel
theorem dX10_year_40 : decode cX10_year 40 = .ok (.iconst 0, 1) := by decide +kernel
theorem dX10_year_41 : decode cX10_year 41 = .ok (.istore 5, 2) := by decide +kernel
theorem dX10_year_43 : decode cX10_year 43 = .ok (.iconst 0, 1) := by decide +kernel
theorem dX10_year_44 : decode cX10_year 44 = .ok (.istore 6, 2) := by decide +kernel
theorem dX10_year_46 : decode cX10_year 46 = .ok (.iload 6, 2) := by decide +kernel
theorem dX10_year_48 : decode cX10_year 48 = .ok (.iload_n 2, 1) := by decide +kernel
theorem dX10_year_49 : decode cX10_year 49 = .ok (.if_icmp .ge 149, 3) := by decide +kernel
theorem dX10_year_52 : decode cX10_year 52 = .ok (.bipush 75, 2) := by decide +kernel
theorem dX10_year_54 : decode cX10_year 54 = .ok (.iload 4, 2) := by decide +kernel
theorem dX10_year_56 : decode cX10_year 56 = .ok (.imul, 1) := by decide +kernel
theorem dX10_year_57 : decode cX10_year 57 = .ok (.bipush 74, 2) := by decide +kernel
theorem dX10_year_59 : decode cX10_year 59 = .ok (.iadd, 1) := by decide +kernel
theorem dX10_year_60 : decode cX10_year 60 = .ok (.ldc 174, 2) := by decide +kernel
theorem dX10_year_62 : decode cX10_year 62 = .ok (.irem, 1) := by decide +kernel
theorem dX10_year_63 : decode cX10_year 63 = .ok (.istore 4, 2) := by decide +kernel
theorem dX10_year_65 : decode cX10_year 65 = .ok (.iconst 0, 1) := by decide +kernel
theorem dX10_year_66 : decode cX10_year 66 = .ok (.istore 7, 2) := by decide +kernel
theorem dX10_year_68 : decode cX10_year 68 = .ok (.iconst 0, 1) := by decide +kernel
theorem dX10_year_69 : decode cX10_year 69 = .ok (.istore 8, 2) := by decide +kernel
theorem dX10_year_71 : decode cX10_year 71 = .ok (.iconst 0, 1) := by decide +kernel
theorem dX10_year_72 : decode cX10_year 72 = .ok (.istore 9, 2) := by decide +kernel
theorem dX10_year_74 : decode cX10_year 74 = .ok (.iload 9, 2) := by decide +kernel
theorem dX10_year_76 : decode cX10_year 76 = .ok (.bipush 8, 2) := by decide +kernel
theorem dX10_year_78 : decode cX10_year 78 = .ok (.if_icmp .ge 32, 3) := by decide +kernel
theorem dX10_year_81 : decode cX10_year 81 = .ok (.iload 7, 2) := by decide +kernel
theorem dX10_year_83 : decode cX10_year 83 = .ok (.aload_n 0, 1) := by decide +kernel
theorem dX10_year_84 : decode cX10_year 84 = .ok (.getfield 30, 3) := by decide +kernel
theorem dX10_year_87 : decode cX10_year 87 = .ok (.iload 9, 2) := by decide +kernel
theorem dX10_year_89 : decode cX10_year 89 = .ok (.iaload, 1) := by decide +kernel
theorem dX10_year_90 : decode cX10_year 90 = .ok (.ifCond .ne 10, 3) := by decide +kernel
theorem dX10_year_93 : decode cX10_year 93 = .ok (.iconst 1, 1) := by decide +kernel
theorem dX10_year_94 : decode cX10_year 94 = .ok (.iload 9, 2) := by decide +kernel
theorem dX10_year_96 : decode cX10_year 96 = .ok (.ishl, 1) := by decide +kernel
theorem dX10_year_97 : decode cX10_year 97 = .ok (.goto 4, 3) := by decide +kernel
theorem dX10_year_100 : decode cX10_year 100 = .ok (.iconst 0, 1) := by decide +kernel
theorem dX10_year_101 : decode cX10_year 101 = .ok (.ior, 1) := by decide +kernel
theorem dX10_year_102 : decode cX10_year 102 = .ok (.istore 7, 2) := by decide +kernel
theorem dX10_year_104 : decode cX10_year 104 = .ok (.iinc 9 1, 3) := by decide +kernel
theorem dX10_year_107 : decode cX10_year 107 = .ok (.goto (-33), 3) := by decide +kernel
theorem dX10_year_110 : decode cX10_year 110 = .ok (.aload_n 0, 1) := by decide +kernel
theorem dX10_year_111 : decode cX10_year 111 = .ok (.iload 4, 2) := by decide +kernel
theorem dX10_year_113 : decode cX10_year 113 = .ok (.invokevirtual 175, 3) := by decide +kernel
theorem dX10_year_116 : decode cX10_year 116 = .ok (.iconst 0, 1) := by decide +kernel
theorem dX10_year_117 : decode cX10_year 117 = .ok (.istore 9, 2) := by decide +kernel
theorem dX10_year_119 : decode cX10_year 119 = .ok (.iload 9, 2) := by decide +kernel
theorem dX10_year_121 : decode cX10_year 121 = .ok (.bipush 8, 2) := by decide +kernel
theorem dX10_year_123 : decode cX10_year 123 = .ok (.if_icmp .ge 54, 3) := by decide +kernel
theorem dX10_year_126 : decode cX10_year 126 = .ok (.iload 8, 2) := by decide +kernel
theorem dX10_year_128 : decode cX10_year 128 = .ok (.aload_n 0, 1) := by decide +kernel
theorem dX10_year_129 : decode cX10_year 129 = .ok (.getfield 40, 3) := by decide +kernel
theorem dX10_year_132 : decode cX10_year 132 = .ok (.iload 9, 2) := by decide +kernel
theorem dX10_year_134 : decode cX10_year 134 = .ok (.invokestatic 47, 3) := by decide +kernel
theorem dX10_year_137 : decode cX10_year 137 = .ok (.ifCond .eq 30, 3) := by decide +kernel
theorem dX10_year_140 : decode cX10_year 140 = .ok (.aload_n 0, 1) := by decide +kernel
theorem dX10_year_141 : decode cX10_year 141 = .ok (.getfield 30, 3) := by decide +kernel
theorem dX10_year_144 : decode cX10_year 144 = .ok (.iload 9, 2) := by decide +kernel
theorem dX10_year_146 : decode cX10_year 146 = .ok (.iaload, 1) := by decide +kernel
theorem dX10_year_147 : decode cX10_year 147 = .ok (.ifCond .ne 20, 3) := by decide +kernel
theorem dX10_year_150 : decode cX10_year 150 = .ok (.iload 7, 2) := by decide +kernel
theorem dX10_year_152 : decode cX10_year 152 = .ok (.iload 9, 2) := by decide +kernel
theorem dX10_year_154 : decode cX10_year 154 = .ok (.invokestatic 47, 3) := by decide +kernel
theorem dX10_year_157 : decode cX10_year 157 = .ok (.ifCond .ne 10, 3) := by decide +kernel
theorem dX10_year_160 : decode cX10_year 160 = .ok (.iconst 1, 1) := by decide +kernel
theorem dX10_year_161 : decode cX10_year 161 = .ok (.iload 9, 2) := by decide +kernel
theorem dX10_year_163 : decode cX10_year 163 = .ok (.ishl, 1) := by decide +kernel
theorem dX10_year_164 : decode cX10_year 164 = .ok (.goto 4, 3) := by decide +kernel
theorem dX10_year_167 : decode cX10_year 167 = .ok (.iconst 0, 1) := by decide +kernel
theorem dX10_year_168 : decode cX10_year 168 = .ok (.ior, 1) := by decide +kernel
theorem dX10_year_169 : decode cX10_year 169 = .ok (.istore 8, 2) := by decide +kernel
theorem dX10_year_171 : decode cX10_year 171 = .ok (.iinc 9 1, 3) := by decide +kernel
theorem dX10_year_174 : decode cX10_year 174 = .ok (.goto (-55), 3) := by decide +kernel
theorem dX10_year_177 : decode cX10_year 177 = .ok (.iload 5, 2) := by decide +kernel
theorem dX10_year_179 : decode cX10_year 179 = .ok (.iload 8, 2) := by decide +kernel
theorem dX10_year_181 : decode cX10_year 181 = .ok (.ifCond .eq 7, 3) := by decide +kernel
theorem dX10_year_184 : decode cX10_year 184 = .ok (.iconst 1, 1) := by decide +kernel
theorem dX10_year_185 : decode cX10_year 185 = .ok (.goto 4, 3) := by decide +kernel
theorem dX10_year_188 : decode cX10_year 188 = .ok (.iconst 0, 1) := by decide +kernel
theorem dX10_year_189 : decode cX10_year 189 = .ok (.iadd, 1) := by decide +kernel
theorem dX10_year_190 : decode cX10_year 190 = .ok (.istore 5, 2) := by decide +kernel
theorem dX10_year_192 : decode cX10_year 192 = .ok (.iinc 6 1, 3) := by decide +kernel
theorem dX10_year_195 : decode cX10_year 195 = .ok (.goto (-149), 3) := by decide +kernel
theorem dX10_year_198 : decode cX10_year 198 = .ok (.iconst 0, 1) := by decide +kernel
theorem dX10_year_199 : decode cX10_year 199 = .ok (.istore 6, 2) := by decide +kernel
theorem dX10_year_201 : decode cX10_year 201 = .ok (.iconst 0, 1) := by decide +kernel
theorem dX10_year_202 : decode cX10_year 202 = .ok (.istore 7, 2) := by decide +kernel
theorem dX10_year_204 : decode cX10_year 204 = .ok (.iload 7, 2) := by decide +kernel
theorem dX10_year_206 : decode cX10_year 206 = .ok (.bipush 8, 2) := by decide +kernel
theorem dX10_year_208 : decode cX10_year 208 = .ok (.if_icmp .ge 37, 3) := by decide +kernel
theorem dX10_year_211 : decode cX10_year 211 = .ok (.iload 6, 2) := by decide +kernel
theorem dX10_year_213 : decode cX10_year 213 = .ok (.aload_n 0, 1) := by decide +kernel
theorem dX10_year_214 : decode cX10_year 214 = .ok (.getfield 40, 3) := by decide +kernel
theorem dX10_year_217 : decode cX10_year 217 = .ok (.iload 7, 2) := by decide +kernel
theorem dX10_year_219 : decode cX10_year 219 = .ok (.invokestatic 47, 3) := by decide +kernel
theorem dX10_year_222 : decode cX10_year 222 = .ok (.ifCond .eq 13, 3) := by decide +kernel
theorem dX10_year_225 : decode cX10_year 225 = .ok (.aload_n 0, 1) := by decide +kernel
theorem dX10_year_226 : decode cX10_year 226 = .ok (.getfield 30, 3) := by decide +kernel
theorem dX10_year_229 : decode cX10_year 229 = .ok (.iload 7, 2) := by decide +kernel
theorem dX10_year_231 : decode cX10_year 231 = .ok (.iaload, 1) := by decide +kernel
theorem dX10_year_232 : decode cX10_year 232 = .ok (.goto 4, 3) := by decide +kernel
theorem dX10_year_235 : decode cX10_year 235 = .ok (.iconst 0, 1) := by decide +kernel
theorem dX10_year_236 : decode cX10_year 236 = .ok (.iadd, 1) := by decide +kernel
theorem dX10_year_237 : decode cX10_year 237 = .ok (.istore 6, 2) := by decide +kernel
theorem dX10_year_239 : decode cX10_year 239 = .ok (.iinc 7 1, 3) := by decide +kernel
theorem dX10_year_242 : decode cX10_year 242 = .ok (.goto (-38), 3) := by decide +kernel
theorem dX10_year_245 : decode cX10_year 245 = .ok (.iload_n 3, 1) := by decide +kernel
theorem dX10_year_246 : decode cX10_year 246 = .ok (.ifCond .ne 8, 3) := by decide +kernel
theorem dX10_year_249 : decode cX10_year 249 = .ok (.iload 6, 2) := by decide +kernel
theorem dX10_year_251 : decode cX10_year 251 = .ok (.goto 20, 3) := by decide +kernel
theorem dX10_year_254 : decode cX10_year 254 = .ok (.iload_n 3, 1) := by decide +kernel
theorem dX10_year_255 : decode cX10_year 255 = .ok (.iconst 1, 1) := by decide +kernel
theorem dX10_year_256 : decode cX10_year 256 = .ok (.if_icmp .ne 13, 3) := by decide +kernel
theorem dX10_year_259 : decode cX10_year 259 = .ok (.aload_n 0, 1) := by decide +kernel
theorem dX10_year_260 : decode cX10_year 260 = .ok (.getfield 72, 3) := by decide +kernel
theorem dX10_year_263 : decode cX10_year 263 = .ok (.invokestatic 58, 3) := by decide +kernel
theorem dX10_year_266 : decode cX10_year 266 = .ok (.goto 5, 3) := by decide +kernel
theorem dX10_year_269 : decode cX10_year 269 = .ok (.iload 5, 2) := by decide +kernel
theorem dX10_year_271 : decode cX10_year 271 = .ok (.ireturn, 1) := by decide +kernel
set_option maxRecDepth 20000 in
theorem ggX10_image_X10_in : GoodIn wsX10_image wsX10_in := goodIn_r _ [14] (by decide +kernel) (by decide +kernel)
set_option maxRecDepth 20000 in
theorem gX10_image_X10_in : GoodIn wsX10_image (va_wsS RX10 43 yX10_in wsX10_in) := goodIn_app (goodIn_of _ (by decide +kernel)) ggX10_image_X10_in
theorem dX10_image_0 : decode cX10_image 0 = .ok (.iload_n 1, 1) := by decide +kernel
theorem dX10_image_1 : decode cX10_image 1 = .ok (.iconst 0, 1) := by decide +kernel
theorem dX10_image_2 : decode cX10_image 2 = .ok (.iconst 1, 1) := by decide +kernel
theorem dX10_image_3 : decode cX10_image 3 = .ok (.invokestatic 43, 3) := by decide +kernel
theorem dX10_image_6 : decode cX10_image 6 = .ok (.ifCond .ne 6, 3) := by decide +kernel
theorem dX10_image_9 : decode cX10_image 9 = .ok (.bipush (-2), 2) := by decide +kernel
theorem dX10_image_11 : decode cX10_image 11 = .ok (.ireturn, 1) := by decide +kernel
theorem dX10_image_12 : decode cX10_image 12 = .ok (.bipush 60, 2) := by decide +kernel
theorem dX10_image_14 : decode cX10_image 14 = .ok (.iload_n 1, 1) := by decide +kernel
theorem dX10_image_15 : decode cX10_image 15 = .ok (.imul, 1) := by decide +kernel
theorem dX10_image_16 : decode cX10_image 16 = .ok (.istore_n 2, 1) := by decide +kernel
theorem dX10_image_17 : decode cX10_image 17 = .ok (.iconst 0, 1) := by decide +kernel
theorem dX10_image_18 : decode cX10_image 18 = .ok (.istore_n 3, 1) := by decide +kernel
theorem dX10_image_19 : decode cX10_image 19 = .ok (.iload_n 3, 1) := by decide +kernel
theorem dX10_image_20 : decode cX10_image 20 = .ok (.bipush 8, 2) := by decide +kernel
theorem dX10_image_22 : decode cX10_image 22 = .ok (.if_icmp .ge 40, 3) := by decide +kernel
theorem dX10_image_25 : decode cX10_image 25 = .ok (.aload_n 0, 1) := by decide +kernel
theorem dX10_image_26 : decode cX10_image 26 = .ok (.getfield 33, 3) := by decide +kernel
theorem dX10_image_29 : decode cX10_image 29 = .ok (.iload_n 2, 1) := by decide +kernel
theorem dX10_image_30 : decode cX10_image 30 = .ok (.iload_n 3, 1) := by decide +kernel
theorem dX10_image_31 : decode cX10_image 31 = .ok (.iadd, 1) := by decide +kernel
theorem dX10_image_32 : decode cX10_image 32 = .ok (.aload_n 0, 1) := by decide +kernel
theorem dX10_image_33 : decode cX10_image 33 = .ok (.getfield 7, 3) := by decide +kernel
theorem dX10_image_36 : decode cX10_image 36 = .ok (.iload_n 3, 1) := by decide +kernel
theorem dX10_image_37 : decode cX10_image 37 = .ok (.iaload, 1) := by decide +kernel
theorem dX10_image_38 : decode cX10_image 38 = .ok (.iastore, 1) := by decide +kernel
theorem dX10_image_39 : decode cX10_image 39 = .ok (.aload_n 0, 1) := by decide +kernel
theorem dX10_image_40 : decode cX10_image 40 = .ok (.getfield 33, 3) := by decide +kernel
theorem dX10_image_43 : decode cX10_image 43 = .ok (.iload_n 2, 1) := by decide +kernel
theorem dX10_image_44 : decode cX10_image 44 = .ok (.bipush 8, 2) := by decide +kernel
theorem dX10_image_46 : decode cX10_image 46 = .ok (.iadd, 1) := by decide +kernel
theorem dX10_image_47 : decode cX10_image 47 = .ok (.iload_n 3, 1) := by decide +kernel
theorem dX10_image_48 : decode cX10_image 48 = .ok (.iadd, 1) := by decide +kernel
theorem dX10_image_49 : decode cX10_image 49 = .ok (.aload_n 0, 1) := by decide +kernel
theorem dX10_image_50 : decode cX10_image 50 = .ok (.getfield 13, 3) := by decide +kernel
theorem dX10_image_53 : decode cX10_image 53 = .ok (.iload_n 3, 1) := by decide +kernel
theorem dX10_image_54 : decode cX10_image 54 = .ok (.iaload, 1) := by decide +kernel
theorem dX10_image_55 : decode cX10_image 55 = .ok (.iastore, 1) := by decide +kernel
theorem dX10_image_56 : decode cX10_image 56 = .ok (.iinc 3 1, 3) := by decide +kernel
theorem dX10_image_59 : decode cX10_image 59 = .ok (.goto (-40), 3) := by decide +kernel
theorem dX10_image_62 : decode cX10_image 62 = .ok (.iconst 0, 1) := by decide +kernel
theorem dX10_image_63 : decode cX10_image 63 = .ok (.istore_n 3, 1) := by decide +kernel
theorem dX10_image_64 : decode cX10_image 64 = .ok (.iload_n 3, 1) := by decide +kernel
theorem dX10_image_65 : decode cX10_image 65 = .ok (.bipush 24, 2) := by decide +kernel
theorem dX10_image_67 : decode cX10_image 67 = .ok (.if_icmp .ge 26, 3) := by decide +kernel
theorem dX10_image_70 : decode cX10_image 70 = .ok (.aload_n 0, 1) := by decide +kernel
theorem dX10_image_71 : decode cX10_image 71 = .ok (.getfield 33, 3) := by decide +kernel
theorem dX10_image_74 : decode cX10_image 74 = .ok (.iload_n 2, 1) := by decide +kernel
theorem dX10_image_75 : decode cX10_image 75 = .ok (.bipush 16, 2) := by decide +kernel
theorem dX10_image_77 : decode cX10_image 77 = .ok (.iadd, 1) := by decide +kernel
theorem dX10_image_78 : decode cX10_image 78 = .ok (.iload_n 3, 1) := by decide +kernel
theorem dX10_image_79 : decode cX10_image 79 = .ok (.iadd, 1) := by decide +kernel
theorem dX10_image_80 : decode cX10_image 80 = .ok (.aload_n 0, 1) := by decide +kernel
theorem dX10_image_81 : decode cX10_image 81 = .ok (.getfield 24, 3) := by decide +kernel
theorem dX10_image_84 : decode cX10_image 84 = .ok (.iload_n 3, 1) := by decide +kernel
theorem dX10_image_85 : decode cX10_image 85 = .ok (.iaload, 1) := by decide +kernel
theorem dX10_image_86 : decode cX10_image 86 = .ok (.iastore, 1) := by decide +kernel
theorem dX10_image_87 : decode cX10_image 87 = .ok (.iinc 3 1, 3) := by decide +kernel
theorem dX10_image_90 : decode cX10_image 90 = .ok (.goto (-26), 3) := by decide +kernel
theorem dX10_image_93 : decode cX10_image 93 = .ok (.aload_n 0, 1) := by decide +kernel
theorem dX10_image_94 : decode cX10_image 94 = .ok (.getfield 33, 3) := by decide +kernel
theorem dX10_image_97 : decode cX10_image 97 = .ok (.iload_n 2, 1) := by decide +kernel
theorem dX10_image_98 : decode cX10_image 98 = .ok (.bipush 50, 2) := by decide +kernel
theorem dX10_image_100 : decode cX10_image 100 = .ok (.iadd, 1) := by decide +kernel
theorem dX10_image_101 : decode cX10_image 101 = .ok (.aload_n 0, 1) := by decide +kernel
theorem dX10_image_102 : decode cX10_image 102 = .ok (.getfield 40, 3) := by decide +kernel
theorem dX10_image_105 : decode cX10_image 105 = .ok (.iastore, 1) := by decide +kernel
theorem dX10_image_106 : decode cX10_image 106 = .ok (.aload_n 0, 1) := by decide +kernel
theorem dX10_image_107 : decode cX10_image 107 = .ok (.getfield 33, 3) := by decide +kernel
theorem dX10_image_110 : decode cX10_image 110 = .ok (.iload_n 2, 1) := by decide +kernel
theorem dX10_image_111 : decode cX10_image 111 = .ok (.bipush 51, 2) := by decide +kernel
theorem dX10_image_113 : decode cX10_image 113 = .ok (.iadd, 1) := by decide +kernel
theorem dX10_image_114 : decode cX10_image 114 = .ok (.aload_n 0, 1) := by decide +kernel
theorem dX10_image_115 : decode cX10_image 115 = .ok (.getfield 55, 3) := by decide +kernel
theorem dX10_image_118 : decode cX10_image 118 = .ok (.iastore, 1) := by decide +kernel
theorem dX10_image_119 : decode cX10_image 119 = .ok (.aload_n 0, 1) := by decide +kernel
theorem dX10_image_120 : decode cX10_image 120 = .ok (.getfield 33, 3) := by decide +kernel
theorem dX10_image_123 : decode cX10_image 123 = .ok (.iload_n 2, 1) := by decide +kernel
theorem dX10_image_124 : decode cX10_image 124 = .ok (.bipush 52, 2) := by decide +kernel
theorem dX10_image_126 : decode cX10_image 126 = .ok (.iadd, 1) := by decide +kernel
theorem dX10_image_127 : decode cX10_image 127 = .ok (.aload_n 0, 1) := by decide +kernel
theorem dX10_image_128 : decode cX10_image 128 = .ok (.getfield 17, 3) := by decide +kernel
theorem dX10_image_131 : decode cX10_image 131 = .ok (.iastore, 1) := by decide +kernel
theorem dX10_image_132 : decode cX10_image 132 = .ok (.aload_n 0, 1) := by decide +kernel
theorem dX10_image_133 : decode cX10_image 133 = .ok (.getfield 33, 3) := by decide +kernel
theorem dX10_image_136 : decode cX10_image 136 = .ok (.iload_n 2, 1) := by decide +kernel
theorem dX10_image_137 : decode cX10_image 137 = .ok (.bipush 53, 2) := by decide +kernel
theorem dX10_image_139 : decode cX10_image 139 = .ok (.iadd, 1) := by decide +kernel
theorem dX10_image_140 : decode cX10_image 140 = .ok (.aload_n 0, 1) := by decide +kernel
theorem dX10_image_141 : decode cX10_image 141 = .ok (.getfield 21, 3) := by decide +kernel
theorem dX10_image_144 : decode cX10_image 144 = .ok (.iastore, 1) := by decide +kernel
theorem dX10_image_145 : decode cX10_image 145 = .ok (.aload_n 0, 1) := by decide +kernel
theorem dX10_image_146 : decode cX10_image 146 = .ok (.getfield 33, 3) := by decide +kernel
theorem dX10_image_149 : decode cX10_image 149 = .ok (.iload_n 2, 1) := by decide +kernel
theorem dX10_image_150 : decode cX10_image 150 = .ok (.bipush 54, 2) := by decide +kernel
theorem dX10_image_152 : decode cX10_image 152 = .ok (.iadd, 1) := by decide +kernel
theorem dX10_image_153 : decode cX10_image 153 = .ok (.aload_n 0, 1) := by decide +kernel
theorem dX10_image_154 : decode cX10_image 154 = .ok (.getfield 158, 3) := by decide +kernel
theorem dX10_image_157 : decode cX10_image 157 = .ok (.iastore, 1) := by decide +kernel
theorem dX10_image_158 : decode cX10_image 158 = .ok (.aload_n 0, 1) := by decide +kernel
theorem dX10_image_159 : decode cX10_image 159 = .ok (.getfield 36, 3) := by decide +kernel
theorem dX10_image_162 : decode cX10_image 162 = .ok (.iload_n 1, 1) := by decide +kernel
theorem dX10_image_163 : decode cX10_image 163 = .ok (.iconst 1, 1) := by decide +kernel
theorem dX10_image_164 : decode cX10_image 164 = .ok (.bastore, 1) := by decide +kernel
theorem dX10_image_165 : decode cX10_image 165 = .ok (.iconst 1, 1) := by decide +kernel
theorem dX10_image_166 : decode cX10_image 166 = .ok (.ireturn, 1) := by decide +kernel
set_option maxRecDepth 20000 in
theorem ggX10_restore_X10_in : GoodIn wsX10_restore wsX10_in := goodIn_r _ [14] (by decide +kernel) (by decide +kernel)
set_option maxRecDepth 20000 in
theorem gX10_restore_X10_in : GoodIn wsX10_restore (va_wsS RX10 43 yX10_in wsX10_in) := goodIn_app (goodIn_of _ (by decide +kernel)) ggX10_restore_X10_in
theorem dX10_restore_0 : decode cX10_restore 0 = .ok (.iload_n 1, 1) := by decide +kernel
theorem dX10_restore_1 : decode cX10_restore 1 = .ok (.iconst 0, 1) := by decide +kernel
theorem dX10_restore_2 : decode cX10_restore 2 = .ok (.iconst 1, 1) := by decide +kernel
theorem dX10_restore_3 : decode cX10_restore 3 = .ok (.invokestatic 43, 3) := by decide +kernel
theorem dX10_restore_6 : decode cX10_restore 6 = .ok (.ifCond .ne 6, 3) := by decide +kernel
theorem dX10_restore_9 : decode cX10_restore 9 = .ok (.bipush (-2), 2) := by decide +kernel
theorem dX10_restore_11 : decode cX10_restore 11 = .ok (.ireturn, 1) := by decide +kernel
theorem dX10_restore_12 : decode cX10_restore 12 = .ok (.aload_n 0, 1) := by decide +kernel
theorem dX10_restore_13 : decode cX10_restore 13 = .ok (.getfield 36, 3) := by decide +kernel
theorem dX10_restore_16 : decode cX10_restore 16 = .ok (.iload_n 1, 1) := by decide +kernel
theorem dX10_restore_17 : decode cX10_restore 17 = .ok (.baload, 1) := by decide +kernel
theorem dX10_restore_18 : decode cX10_restore 18 = .ok (.ifCond .ne 6, 3) := by decide +kernel
theorem dX10_restore_21 : decode cX10_restore 21 = .ok (.bipush (-3), 2) := by decide +kernel
theorem dX10_restore_23 : decode cX10_restore 23 = .ok (.ireturn, 1) := by decide +kernel
theorem dX10_restore_24 : decode cX10_restore 24 = .ok (.bipush 60, 2) := by decide +kernel
theorem dX10_restore_26 : decode cX10_restore 26 = .ok (.iload_n 1, 1) := by decide +kernel
theorem dX10_restore_27 : decode cX10_restore 27 = .ok (.imul, 1) := by decide +kernel
theorem dX10_restore_28 : decode cX10_restore 28 = .ok (.istore_n 2, 1) := by decide +kernel
theorem dX10_restore_29 : decode cX10_restore 29 = .ok (.iconst 0, 1) := by decide +kernel
theorem dX10_restore_30 : decode cX10_restore 30 = .ok (.istore_n 3, 1) := by decide +kernel
theorem dX10_restore_31 : decode cX10_restore 31 = .ok (.iload_n 3, 1) := by decide +kernel
theorem dX10_restore_32 : decode cX10_restore 32 = .ok (.bipush 8, 2) := by decide +kernel
theorem dX10_restore_34 : decode cX10_restore 34 = .ok (.if_icmp .ge 40, 3) := by decide +kernel
theorem dX10_restore_37 : decode cX10_restore 37 = .ok (.aload_n 0, 1) := by decide +kernel
theorem dX10_restore_38 : decode cX10_restore 38 = .ok (.getfield 7, 3) := by decide +kernel
theorem dX10_restore_41 : decode cX10_restore 41 = .ok (.iload_n 3, 1) := by decide +kernel
theorem dX10_restore_42 : decode cX10_restore 42 = .ok (.aload_n 0, 1) := by decide +kernel
theorem dX10_restore_43 : decode cX10_restore 43 = .ok (.getfield 33, 3) := by decide +kernel
theorem dX10_restore_46 : decode cX10_restore 46 = .ok (.iload_n 2, 1) := by decide +kernel
theorem dX10_restore_47 : decode cX10_restore 47 = .ok (.iload_n 3, 1) := by decide +kernel
theorem dX10_restore_48 : decode cX10_restore 48 = .ok (.iadd, 1) := by decide +kernel
theorem dX10_restore_49 : decode cX10_restore 49 = .ok (.iaload, 1) := by decide +kernel
theorem dX10_restore_50 : decode cX10_restore 50 = .ok (.iastore, 1) := by decide +kernel
theorem dX10_restore_51 : decode cX10_restore 51 = .ok (.aload_n 0, 1) := by decide +kernel
theorem dX10_restore_52 : decode cX10_restore 52 = .ok (.getfield 13, 3) := by decide +kernel
theorem dX10_restore_55 : decode cX10_restore 55 = .ok (.iload_n 3, 1) := by decide +kernel
theorem dX10_restore_56 : decode cX10_restore 56 = .ok (.aload_n 0, 1) := by decide +kernel
theorem dX10_restore_57 : decode cX10_restore 57 = .ok (.getfield 33, 3) := by decide +kernel
theorem dX10_restore_60 : decode cX10_restore 60 = .ok (.iload_n 2, 1) := by decide +kernel
theorem dX10_restore_61 : decode cX10_restore 61 = .ok (.bipush 8, 2) := by decide +kernel
theorem dX10_restore_63 : decode cX10_restore 63 = .ok (.iadd, 1) := by decide +kernel
theorem dX10_restore_64 : decode cX10_restore 64 = .ok (.iload_n 3, 1) := by decide +kernel
theorem dX10_restore_65 : decode cX10_restore 65 = .ok (.iadd, 1) := by decide +kernel
theorem dX10_restore_66 : decode cX10_restore 66 = .ok (.iaload, 1) := by decide +kernel
theorem dX10_restore_67 : decode cX10_restore 67 = .ok (.iastore, 1) := by decide +kernel
theorem dX10_restore_68 : decode cX10_restore 68 = .ok (.iinc 3 1, 3) := by decide +kernel
theorem dX10_restore_71 : decode cX10_restore 71 = .ok (.goto (-40), 3) := by decide +kernel
theorem dX10_restore_74 : decode cX10_restore 74 = .ok (.iconst 0, 1) := by decide +kernel
theorem dX10_restore_75 : decode cX10_restore 75 = .ok (.istore_n 3, 1) := by decide +kernel
theorem dX10_restore_76 : decode cX10_restore 76 = .ok (.iload_n 3, 1) := by decide +kernel
theorem dX10_restore_77 : decode cX10_restore 77 = .ok (.bipush 24, 2) := by decide +kernel
theorem dX10_restore_79 : decode cX10_restore 79 = .ok (.if_icmp .ge 26, 3) := by decide +kernel
theorem dX10_restore_82 : decode cX10_restore 82 = .ok (.aload_n 0, 1) := by decide +kernel
theorem dX10_restore_83 : decode cX10_restore 83 = .ok (.getfield 24, 3) := by decide +kernel
theorem dX10_restore_86 : decode cX10_restore 86 = .ok (.iload_n 3, 1) := by decide +kernel
theorem dX10_restore_87 : decode cX10_restore 87 = .ok (.aload_n 0, 1) := by decide +kernel
theorem dX10_restore_88 : decode cX10_restore 88 = .ok (.getfield 33, 3) := by decide +kernel
theorem dX10_restore_91 : decode cX10_restore 91 = .ok (.iload_n 2, 1) := by decide +kernel
theorem dX10_restore_92 : decode cX10_restore 92 = .ok (.bipush 16, 2) := by decide +kernel
theorem dX10_restore_94 : decode cX10_restore 94 = .ok (.iadd, 1) := by decide +kernel
theorem dX10_restore_95 : decode cX10_restore 95 = .ok (.iload_n 3, 1) := by decide +kernel
theorem dX10_restore_96 : decode cX10_restore 96 = .ok (.iadd, 1) := by decide +kernel
theorem dX10_restore_97 : decode cX10_restore 97 = .ok (.iaload, 1) := by decide +kernel
theorem dX10_restore_98 : decode cX10_restore 98 = .ok (.iastore, 1) := by decide +kernel
theorem dX10_restore_99 : decode cX10_restore 99 = .ok (.iinc 3 1, 3) := by decide +kernel
theorem dX10_restore_102 : decode cX10_restore 102 = .ok (.goto (-26), 3) := by decide +kernel
theorem dX10_restore_105 : decode cX10_restore 105 = .ok (.aload_n 0, 1) := by decide +kernel
theorem dX10_restore_106 : decode cX10_restore 106 = .ok (.aload_n 0, 1) := by decide +kernel
theorem dX10_restore_107 : decode cX10_restore 107 = .ok (.getfield 33, 3) := by decide +kernel
theorem dX10_restore_110 : decode cX10_restore 110 = .ok (.iload_n 2, 1) := by decide +kernel
theorem dX10_restore_111 : decode cX10_restore 111 = .ok (.bipush 50, 2) := by decide +kernel
theorem dX10_restore_113 : decode cX10_restore 113 = .ok (.iadd, 1) := by decide +kernel
theorem dX10_restore_114 : decode cX10_restore 114 = .ok (.iaload, 1) := by decide +kernel
theorem dX10_restore_115 : decode cX10_restore 115 = .ok (.putfield 40, 3) := by decide +kernel
theorem dX10_restore_118 : decode cX10_restore 118 = .ok (.aload_n 0, 1) := by decide +kernel
theorem dX10_restore_119 : decode cX10_restore 119 = .ok (.aload_n 0, 1) := by decide +kernel
theorem dX10_restore_120 : decode cX10_restore 120 = .ok (.getfield 33, 3) := by decide +kernel
theorem dX10_restore_123 : decode cX10_restore 123 = .ok (.iload_n 2, 1) := by decide +kernel
theorem dX10_restore_124 : decode cX10_restore 124 = .ok (.bipush 51, 2) := by decide +kernel
theorem dX10_restore_126 : decode cX10_restore 126 = .ok (.iadd, 1) := by decide +kernel
theorem dX10_restore_127 : decode cX10_restore 127 = .ok (.iaload, 1) := by decide +kernel
theorem dX10_restore_128 : decode cX10_restore 128 = .ok (.putfield 55, 3) := by decide +kernel
theorem dX10_restore_131 : decode cX10_restore 131 = .ok (.aload_n 0, 1) := by decide +kernel
theorem dX10_restore_132 : decode cX10_restore 132 = .ok (.aload_n 0, 1) := by decide +kernel
theorem dX10_restore_133 : decode cX10_restore 133 = .ok (.getfield 33, 3) := by decide +kernel
theorem dX10_restore_136 : decode cX10_restore 136 = .ok (.iload_n 2, 1) := by decide +kernel
theorem dX10_restore_137 : decode cX10_restore 137 = .ok (.bipush 52, 2) := by decide +kernel
theorem dX10_restore_139 : decode cX10_restore 139 = .ok (.iadd, 1) := by decide +kernel
theorem dX10_restore_140 : decode cX10_restore 140 = .ok (.iaload, 1) := by decide +kernel
theorem dX10_restore_141 : decode cX10_restore 141 = .ok (.putfield 17, 3) := by decide +kernel
theorem dX10_restore_144 : decode cX10_restore 144 = .ok (.aload_n 0, 1) := by decide +kernel
theorem dX10_restore_145 : decode cX10_restore 145 = .ok (.aload_n 0, 1) := by decide +kernel
theorem dX10_restore_146 : decode cX10_restore 146 = .ok (.getfield 33, 3) := by decide +kernel
theorem dX10_restore_149 : decode cX10_restore 149 = .ok (.iload_n 2, 1) := by decide +kernel
theorem dX10_restore_150 : decode cX10_restore 150 = .ok (.bipush 53, 2) := by decide +kernel
theorem dX10_restore_152 : decode cX10_restore 152 = .ok (.iadd, 1) := by decide +kernel
theorem dX10_restore_153 : decode cX10_restore 153 = .ok (.iaload, 1) := by decide +kernel
theorem dX10_restore_154 : decode cX10_restore 154 = .ok (.putfield 21, 3) := by decide +kernel
theorem dX10_restore_157 : decode cX10_restore 157 = .ok (.aload_n 0, 1) := by decide +kernel
theorem dX10_restore_158 : decode cX10_restore 158 = .ok (.aload_n 0, 1) := by decide +kernel
theorem dX10_restore_159 : decode cX10_restore 159 = .ok (.getfield 33, 3) := by decide +kernel
theorem dX10_restore_162 : decode cX10_restore 162 = .ok (.iload_n 2, 1) := by decide +kernel
theorem dX10_restore_163 : decode cX10_restore 163 = .ok (.bipush 54, 2) := by decide +kernel
theorem dX10_restore_165 : decode cX10_restore 165 = .ok (.iadd, 1) := by decide +kernel
theorem dX10_restore_166 : decode cX10_restore 166 = .ok (.iaload, 1) := by decide +kernel
theorem dX10_restore_167 : decode cX10_restore 167 = .ok (.putfield 158, 3) := by decide +kernel
theorem dX10_restore_170 : decode cX10_restore 170 = .ok (.iconst 1, 1) := by decide +kernel
theorem dX10_restore_171 : decode cX10_restore 171 = .ok (.ireturn, 1) := by decide +kernel
set_option maxRecDepth 20000 in
theorem ggX10_told_X10_isThere : GoodIn wsX10_told wsX10_isThere := goodIn_r _ [12, 3, 13, 14, 11, 15, 16, 17, 18, 19, 20, 21, 22, 23, 24, 25, 26, 27, 28, 29, 30, 31, 32, 33, 34, 35, 36, 37] (by decide +kernel) (by decide +kernel)
set_option maxRecDepth 20000 in
theorem gX10_told_X10_isThere : GoodIn wsX10_told (wsV RX10 51 RX10 yX10_isThere wsX10_isThere) := goodIn_app (goodIn_of _ (by decide +kernel)) ggX10_told_X10_isThere
theorem dX10_told_0 : decode cX10_told 0 = .ok (.iload_n 1, 1) := by decide +kernel
theorem dX10_told_1 : decode cX10_told 1 = .ok (.bipush 10, 2) := by decide +kernel
theorem dX10_told_3 : decode cX10_told 3 = .ok (.if_icmp .lt 29, 3) := by decide +kernel
theorem dX10_told_6 : decode cX10_told 6 = .ok (.aload_n 0, 1) := by decide +kernel
theorem dX10_told_7 : decode cX10_told 7 = .ok (.iload_n 1, 1) := by decide +kernel
theorem dX10_told_8 : decode cX10_told 8 = .ok (.bipush 10, 2) := by decide +kernel
theorem dX10_told_10 : decode cX10_told 10 = .ok (.isub, 1) := by decide +kernel
theorem dX10_told_11 : decode cX10_told 11 = .ok (.invokevirtual 51, 3) := by decide +kernel
theorem dX10_told_14 : decode cX10_told 14 = .ok (.ifCond .eq 15, 3) := by decide +kernel
theorem dX10_told_17 : decode cX10_told 17 = .ok (.aload_n 0, 1) := by decide +kernel
theorem dX10_told_18 : decode cX10_told 18 = .ok (.getfield 13, 3) := by decide +kernel
theorem dX10_told_21 : decode cX10_told 21 = .ok (.iload_n 1, 1) := by decide +kernel
theorem dX10_told_22 : decode cX10_told 22 = .ok (.bipush 10, 2) := by decide +kernel
theorem dX10_told_24 : decode cX10_told 24 = .ok (.isub, 1) := by decide +kernel
theorem dX10_told_25 : decode cX10_told 25 = .ok (.iaload, 1) := by decide +kernel
theorem dX10_told_26 : decode cX10_told 26 = .ok (.goto 5, 3) := by decide +kernel
theorem dX10_told_29 : decode cX10_told 29 = .ok (.bipush (-2), 2) := by decide +kernel
theorem dX10_told_31 : decode cX10_told 31 = .ok (.ireturn, 1) := by decide +kernel
theorem dX10_told_32 : decode cX10_told 32 = .ok (.iload_n 1, 1) := by decide +kernel
theorem dX10_told_33 : decode cX10_told 33 = .ok (.tableswitch 60 0 4 #[35, 40, 45, 50, 55], 35) := by decide +kernel
theorem dX10_told_68 : decode cX10_told 68 = .ok (.aload_n 0, 1) := by decide +kernel
theorem dX10_told_69 : decode cX10_told 69 = .ok (.getfield 62, 3) := by decide +kernel
theorem dX10_told_72 : decode cX10_told 72 = .ok (.ireturn, 1) := by decide +kernel
theorem dX10_told_73 : decode cX10_told 73 = .ok (.aload_n 0, 1) := by decide +kernel
theorem dX10_told_74 : decode cX10_told 74 = .ok (.getfield 40, 3) := by decide +kernel
theorem dX10_told_77 : decode cX10_told 77 = .ok (.ireturn, 1) := by decide +kernel
theorem dX10_told_78 : decode cX10_told 78 = .ok (.aload_n 0, 1) := by decide +kernel
theorem dX10_told_79 : decode cX10_told 79 = .ok (.getfield 55, 3) := by decide +kernel
theorem dX10_told_82 : decode cX10_told 82 = .ok (.ireturn, 1) := by decide +kernel
theorem dX10_told_83 : decode cX10_told 83 = .ok (.aload_n 0, 1) := by decide +kernel
theorem dX10_told_84 : decode cX10_told 84 = .ok (.getfield 17, 3) := by decide +kernel
theorem dX10_told_87 : decode cX10_told 87 = .ok (.ireturn, 1) := by decide +kernel
theorem dX10_told_88 : decode cX10_told 88 = .ok (.aload_n 0, 1) := by decide +kernel
theorem dX10_told_89 : decode cX10_told 89 = .ok (.getfield 21, 3) := by decide +kernel
theorem dX10_told_92 : decode cX10_told 92 = .ok (.ireturn, 1) := by decide +kernel
theorem dX10_told_93 : decode cX10_told 93 = .ok (.iload_n 1, 1) := by decide +kernel
theorem dX10_told_94 : decode cX10_told 94 = .ok (.iconst 5, 1) := by decide +kernel
theorem dX10_told_95 : decode cX10_told 95 = .ok (.if_icmp .ne 10, 3) := by decide +kernel
theorem dX10_told_98 : decode cX10_told 98 = .ok (.aload_n 0, 1) := by decide +kernel
theorem dX10_told_99 : decode cX10_told 99 = .ok (.getfield 158, 3) := by decide +kernel
theorem dX10_told_102 : decode cX10_told 102 = .ok (.goto 5, 3) := by decide +kernel
theorem dX10_told_105 : decode cX10_told 105 = .ok (.bipush (-2), 2) := by decide +kernel
theorem dX10_told_107 : decode cX10_told 107 = .ok (.ireturn, 1) := by decide +kernel
theorem dJ6_bitCount_0f7a4_0 : decode cJ6_bitCount_0f7a4 0 = .ok (.iload_n 0, 1) := by decide +kernel
theorem dJ6_bitCount_0f7a4_1 : decode cJ6_bitCount_0f7a4 1 = .ok (.iload_n 0, 1) := by decide +kernel
theorem dJ6_bitCount_0f7a4_2 : decode cJ6_bitCount_0f7a4 2 = .ok (.iconst 1, 1) := by decide +kernel
theorem dJ6_bitCount_0f7a4_3 : decode cJ6_bitCount_0f7a4 3 = .ok (.iushr, 1) := by decide +kernel
theorem dJ6_bitCount_0f7a4_4 : decode cJ6_bitCount_0f7a4 4 = .ok (.ldc_w 265, 3) := by decide +kernel
theorem dJ6_bitCount_0f7a4_7 : decode cJ6_bitCount_0f7a4 7 = .ok (.iand, 1) := by decide +kernel
theorem dJ6_bitCount_0f7a4_8 : decode cJ6_bitCount_0f7a4 8 = .ok (.isub, 1) := by decide +kernel
theorem dJ6_bitCount_0f7a4_9 : decode cJ6_bitCount_0f7a4 9 = .ok (.istore_n 0, 1) := by decide +kernel
theorem dJ6_bitCount_0f7a4_10 : decode cJ6_bitCount_0f7a4 10 = .ok (.iload_n 0, 1) := by decide +kernel
theorem dJ6_bitCount_0f7a4_11 : decode cJ6_bitCount_0f7a4 11 = .ok (.ldc_w 266, 3) := by decide +kernel
theorem dJ6_bitCount_0f7a4_14 : decode cJ6_bitCount_0f7a4 14 = .ok (.iand, 1) := by decide +kernel
theorem dJ6_bitCount_0f7a4_15 : decode cJ6_bitCount_0f7a4 15 = .ok (.iload_n 0, 1) := by decide +kernel
theorem dJ6_bitCount_0f7a4_16 : decode cJ6_bitCount_0f7a4 16 = .ok (.iconst 2, 1) := by decide +kernel
theorem dJ6_bitCount_0f7a4_17 : decode cJ6_bitCount_0f7a4 17 = .ok (.iushr, 1) := by decide +kernel
theorem dJ6_bitCount_0f7a4_18 : decode cJ6_bitCount_0f7a4 18 = .ok (.ldc_w 266, 3) := by decide +kernel
theorem dJ6_bitCount_0f7a4_21 : decode cJ6_bitCount_0f7a4 21 = .ok (.iand, 1) := by decide +kernel
theorem dJ6_bitCount_0f7a4_22 : decode cJ6_bitCount_0f7a4 22 = .ok (.iadd, 1) := by decide +kernel
theorem dJ6_bitCount_0f7a4_23 : decode cJ6_bitCount_0f7a4 23 = .ok (.istore_n 0, 1) := by decide +kernel
theorem dJ6_bitCount_0f7a4_24 : decode cJ6_bitCount_0f7a4 24 = .ok (.iload_n 0, 1) := by decide +kernel
theorem dJ6_bitCount_0f7a4_25 : decode cJ6_bitCount_0f7a4 25 = .ok (.iload_n 0, 1) := by decide +kernel
theorem dJ6_bitCount_0f7a4_26 : decode cJ6_bitCount_0f7a4 26 = .ok (.iconst 4, 1) := by decide +kernel
theorem dJ6_bitCount_0f7a4_27 : decode cJ6_bitCount_0f7a4 27 = .ok (.iushr, 1) := by decide +kernel
theorem dJ6_bitCount_0f7a4_28 : decode cJ6_bitCount_0f7a4 28 = .ok (.iadd, 1) := by decide +kernel
theorem dJ6_bitCount_0f7a4_29 : decode cJ6_bitCount_0f7a4 29 = .ok (.ldc_w 267, 3) := by decide +kernel
theorem dJ6_bitCount_0f7a4_32 : decode cJ6_bitCount_0f7a4 32 = .ok (.iand, 1) := by decide +kernel
theorem dJ6_bitCount_0f7a4_33 : decode cJ6_bitCount_0f7a4 33 = .ok (.istore_n 0, 1) := by decide +kernel
theorem dJ6_bitCount_0f7a4_34 : decode cJ6_bitCount_0f7a4 34 = .ok (.iload_n 0, 1) := by decide +kernel
theorem dJ6_bitCount_0f7a4_35 : decode cJ6_bitCount_0f7a4 35 = .ok (.iload_n 0, 1) := by decide +kernel
theorem dJ6_bitCount_0f7a4_36 : decode cJ6_bitCount_0f7a4 36 = .ok (.bipush 8, 2) := by decide +kernel
theorem dJ6_bitCount_0f7a4_38 : decode cJ6_bitCount_0f7a4 38 = .ok (.iushr, 1) := by decide +kernel
theorem dJ6_bitCount_0f7a4_39 : decode cJ6_bitCount_0f7a4 39 = .ok (.iadd, 1) := by decide +kernel
theorem dJ6_bitCount_0f7a4_40 : decode cJ6_bitCount_0f7a4 40 = .ok (.istore_n 0, 1) := by decide +kernel
theorem dJ6_bitCount_0f7a4_41 : decode cJ6_bitCount_0f7a4 41 = .ok (.iload_n 0, 1) := by decide +kernel
theorem dJ6_bitCount_0f7a4_42 : decode cJ6_bitCount_0f7a4 42 = .ok (.iload_n 0, 1) := by decide +kernel
theorem dJ6_bitCount_0f7a4_43 : decode cJ6_bitCount_0f7a4 43 = .ok (.bipush 16, 2) := by decide +kernel
theorem dJ6_bitCount_0f7a4_45 : decode cJ6_bitCount_0f7a4 45 = .ok (.iushr, 1) := by decide +kernel
theorem dJ6_bitCount_0f7a4_46 : decode cJ6_bitCount_0f7a4 46 = .ok (.iadd, 1) := by decide +kernel
theorem dJ6_bitCount_0f7a4_47 : decode cJ6_bitCount_0f7a4 47 = .ok (.istore_n 0, 1) := by decide +kernel
theorem dJ6_bitCount_0f7a4_48 : decode cJ6_bitCount_0f7a4 48 = .ok (.iload_n 0, 1) := by decide +kernel
theorem dJ6_bitCount_0f7a4_49 : decode cJ6_bitCount_0f7a4 49 = .ok (.bipush 63, 2) := by decide +kernel
theorem dJ6_bitCount_0f7a4_51 : decode cJ6_bitCount_0f7a4 51 = .ok (.iand, 1) := by decide +kernel
theorem dJ6_bitCount_0f7a4_52 : decode cJ6_bitCount_0f7a4 52 = .ok (.ireturn, 1) := by decide +kernel
theorem dJ13_bitCount_95d88_0 : decode cJ13_bitCount_95d88 0 = .ok (.lload_n 0, 1) := by decide +kernel
theorem dJ13_bitCount_95d88_1 : decode cJ13_bitCount_95d88 1 = .ok (.lload_n 0, 1) := by decide +kernel
theorem dJ13_bitCount_95d88_2 : decode cJ13_bitCount_95d88 2 = .ok (.iconst 1, 1) := by decide +kernel
theorem dJ13_bitCount_95d88_3 : decode cJ13_bitCount_95d88 3 = .ok (.lushr, 1) := by decide +kernel
theorem dJ13_bitCount_95d88_4 : decode cJ13_bitCount_95d88 4 = .ok (.ldc2_w 314, 3) := by decide +kernel
theorem dJ13_bitCount_95d88_7 : decode cJ13_bitCount_95d88 7 = .ok (.land, 1) := by decide +kernel
theorem dJ13_bitCount_95d88_8 : decode cJ13_bitCount_95d88 8 = .ok (.lsub, 1) := by decide +kernel
theorem dJ13_bitCount_95d88_9 : decode cJ13_bitCount_95d88 9 = .ok (.lstore_n 0, 1) := by decide +kernel
theorem dJ13_bitCount_95d88_10 : decode cJ13_bitCount_95d88 10 = .ok (.lload_n 0, 1) := by decide +kernel
theorem dJ13_bitCount_95d88_11 : decode cJ13_bitCount_95d88 11 = .ok (.ldc2_w 316, 3) := by decide +kernel
theorem dJ13_bitCount_95d88_14 : decode cJ13_bitCount_95d88 14 = .ok (.land, 1) := by decide +kernel
theorem dJ13_bitCount_95d88_15 : decode cJ13_bitCount_95d88 15 = .ok (.lload_n 0, 1) := by decide +kernel
theorem dJ13_bitCount_95d88_16 : decode cJ13_bitCount_95d88 16 = .ok (.iconst 2, 1) := by decide +kernel
theorem dJ13_bitCount_95d88_17 : decode cJ13_bitCount_95d88 17 = .ok (.lushr, 1) := by decide +kernel
theorem dJ13_bitCount_95d88_18 : decode cJ13_bitCount_95d88 18 = .ok (.ldc2_w 316, 3) := by decide +kernel
theorem dJ13_bitCount_95d88_21 : decode cJ13_bitCount_95d88 21 = .ok (.land, 1) := by decide +kernel
theorem dJ13_bitCount_95d88_22 : decode cJ13_bitCount_95d88 22 = .ok (.ladd, 1) := by decide +kernel
theorem dJ13_bitCount_95d88_23 : decode cJ13_bitCount_95d88 23 = .ok (.lstore_n 0, 1) := by decide +kernel
theorem dJ13_bitCount_95d88_24 : decode cJ13_bitCount_95d88 24 = .ok (.lload_n 0, 1) := by decide +kernel
theorem dJ13_bitCount_95d88_25 : decode cJ13_bitCount_95d88 25 = .ok (.lload_n 0, 1) := by decide +kernel
theorem dJ13_bitCount_95d88_26 : decode cJ13_bitCount_95d88 26 = .ok (.iconst 4, 1) := by decide +kernel
theorem dJ13_bitCount_95d88_27 : decode cJ13_bitCount_95d88 27 = .ok (.lushr, 1) := by decide +kernel
theorem dJ13_bitCount_95d88_28 : decode cJ13_bitCount_95d88 28 = .ok (.ladd, 1) := by decide +kernel
theorem dJ13_bitCount_95d88_29 : decode cJ13_bitCount_95d88 29 = .ok (.ldc2_w 318, 3) := by decide +kernel
theorem dJ13_bitCount_95d88_32 : decode cJ13_bitCount_95d88 32 = .ok (.land, 1) := by decide +kernel
theorem dJ13_bitCount_95d88_33 : decode cJ13_bitCount_95d88 33 = .ok (.lstore_n 0, 1) := by decide +kernel
theorem dJ13_bitCount_95d88_34 : decode cJ13_bitCount_95d88 34 = .ok (.lload_n 0, 1) := by decide +kernel
theorem dJ13_bitCount_95d88_35 : decode cJ13_bitCount_95d88 35 = .ok (.lload_n 0, 1) := by decide +kernel
theorem dJ13_bitCount_95d88_36 : decode cJ13_bitCount_95d88 36 = .ok (.bipush 8, 2) := by decide +kernel
theorem dJ13_bitCount_95d88_38 : decode cJ13_bitCount_95d88 38 = .ok (.lushr, 1) := by decide +kernel
theorem dJ13_bitCount_95d88_39 : decode cJ13_bitCount_95d88 39 = .ok (.ladd, 1) := by decide +kernel
theorem dJ13_bitCount_95d88_40 : decode cJ13_bitCount_95d88 40 = .ok (.lstore_n 0, 1) := by decide +kernel
theorem dJ13_bitCount_95d88_41 : decode cJ13_bitCount_95d88 41 = .ok (.lload_n 0, 1) := by decide +kernel
theorem dJ13_bitCount_95d88_42 : decode cJ13_bitCount_95d88 42 = .ok (.lload_n 0, 1) := by decide +kernel
theorem dJ13_bitCount_95d88_43 : decode cJ13_bitCount_95d88 43 = .ok (.bipush 16, 2) := by decide +kernel
theorem dJ13_bitCount_95d88_45 : decode cJ13_bitCount_95d88 45 = .ok (.lushr, 1) := by decide +kernel
theorem dJ13_bitCount_95d88_46 : decode cJ13_bitCount_95d88 46 = .ok (.ladd, 1) := by decide +kernel
theorem dJ13_bitCount_95d88_47 : decode cJ13_bitCount_95d88 47 = .ok (.lstore_n 0, 1) := by decide +kernel
theorem dJ13_bitCount_95d88_48 : decode cJ13_bitCount_95d88 48 = .ok (.lload_n 0, 1) := by decide +kernel
theorem dJ13_bitCount_95d88_49 : decode cJ13_bitCount_95d88 49 = .ok (.lload_n 0, 1) := by decide +kernel
theorem dJ13_bitCount_95d88_50 : decode cJ13_bitCount_95d88 50 = .ok (.bipush 32, 2) := by decide +kernel
theorem dJ13_bitCount_95d88_52 : decode cJ13_bitCount_95d88 52 = .ok (.lushr, 1) := by decide +kernel
theorem dJ13_bitCount_95d88_53 : decode cJ13_bitCount_95d88 53 = .ok (.ladd, 1) := by decide +kernel
theorem dJ13_bitCount_95d88_54 : decode cJ13_bitCount_95d88 54 = .ok (.lstore_n 0, 1) := by decide +kernel
theorem dJ13_bitCount_95d88_55 : decode cJ13_bitCount_95d88 55 = .ok (.lload_n 0, 1) := by decide +kernel
theorem dJ13_bitCount_95d88_56 : decode cJ13_bitCount_95d88 56 = .ok (.l2i, 1) := by decide +kernel
theorem dJ13_bitCount_95d88_57 : decode cJ13_bitCount_95d88 57 = .ok (.bipush 127, 2) := by decide +kernel
theorem dJ13_bitCount_95d88_59 : decode cJ13_bitCount_95d88 59 = .ok (.iand, 1) := by decide +kernel
theorem dJ13_bitCount_95d88_60 : decode cJ13_bitCount_95d88 60 = .ok (.ireturn, 1) := by decide +kernel
theorem dJ9_max_7cf53_0 : decode cJ9_max_7cf53 0 = .ok (.iload_n 0, 1) := by decide +kernel
theorem dJ9_max_7cf53_1 : decode cJ9_max_7cf53 1 = .ok (.iload_n 1, 1) := by decide +kernel
theorem dJ9_max_7cf53_2 : decode cJ9_max_7cf53 2 = .ok (.if_icmp .lt 7, 3) := by decide +kernel
theorem dJ9_max_7cf53_5 : decode cJ9_max_7cf53 5 = .ok (.iload_n 0, 1) := by decide +kernel
theorem dJ9_max_7cf53_6 : decode cJ9_max_7cf53 6 = .ok (.goto 4, 3) := by decide +kernel
theorem dJ9_max_7cf53_9 : decode cJ9_max_7cf53 9 = .ok (.iload_n 1, 1) := by decide +kernel
theorem dJ9_max_7cf53_10 : decode cJ9_max_7cf53 10 = .ok (.ireturn, 1) := by decide +kernel
theorem dJ9_min_7cf53_0 : decode cJ9_min_7cf53 0 = .ok (.iload_n 0, 1) := by decide +kernel
theorem dJ9_min_7cf53_1 : decode cJ9_min_7cf53 1 = .ok (.iload_n 1, 1) := by decide +kernel
theorem dJ9_min_7cf53_2 : decode cJ9_min_7cf53 2 = .ok (.if_icmp .gt 7, 3) := by decide +kernel
theorem dJ9_min_7cf53_5 : decode cJ9_min_7cf53 5 = .ok (.iload_n 0, 1) := by decide +kernel
theorem dJ9_min_7cf53_6 : decode cJ9_min_7cf53 6 = .ok (.goto 4, 3) := by decide +kernel
theorem dJ9_min_7cf53_9 : decode cJ9_min_7cf53 9 = .ok (.iload_n 1, 1) := by decide +kernel
theorem dJ9_min_7cf53_10 : decode cJ9_min_7cf53 10 = .ok (.ireturn, 1) := by decide +kernel
theorem dJ7_fill_d0a16_0 : decode cJ7_fill_d0a16 0 = .ok (.iconst 0, 1) := by decide +kernel
theorem dJ7_fill_d0a16_1 : decode cJ7_fill_d0a16 1 = .ok (.istore_n 3, 1) := by decide +kernel
theorem dJ7_fill_d0a16_2 : decode cJ7_fill_d0a16 2 = .ok (.aload_n 0, 1) := by decide +kernel
theorem dJ7_fill_d0a16_3 : decode cJ7_fill_d0a16 3 = .ok (.arraylength, 1) := by decide +kernel
theorem dJ7_fill_d0a16_4 : decode cJ7_fill_d0a16 4 = .ok (.istore 4, 2) := by decide +kernel
theorem dJ7_fill_d0a16_6 : decode cJ7_fill_d0a16 6 = .ok (.iload_n 3, 1) := by decide +kernel
theorem dJ7_fill_d0a16_7 : decode cJ7_fill_d0a16 7 = .ok (.iload 4, 2) := by decide +kernel
theorem dJ7_fill_d0a16_9 : decode cJ7_fill_d0a16 9 = .ok (.if_icmp .ge 13, 3) := by decide +kernel
theorem dJ7_fill_d0a16_12 : decode cJ7_fill_d0a16 12 = .ok (.aload_n 0, 1) := by decide +kernel
theorem dJ7_fill_d0a16_13 : decode cJ7_fill_d0a16 13 = .ok (.iload_n 3, 1) := by decide +kernel
theorem dJ7_fill_d0a16_14 : decode cJ7_fill_d0a16 14 = .ok (.lload_n 1, 1) := by decide +kernel
theorem dJ7_fill_d0a16_15 : decode cJ7_fill_d0a16 15 = .ok (.lastore, 1) := by decide +kernel
theorem dJ7_fill_d0a16_16 : decode cJ7_fill_d0a16 16 = .ok (.iinc 3 1, 3) := by decide +kernel
theorem dJ7_fill_d0a16_19 : decode cJ7_fill_d0a16 19 = .ok (.goto (-13), 3) := by decide +kernel
theorem dJ7_fill_d0a16_22 : decode cJ7_fill_d0a16 22 = .ok (.return_, 1) := by decide +kernel
