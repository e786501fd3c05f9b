theorem dX6_saying_77 : decode cX6_saying 77 = .ok (.bipush 32, 2) := by decide +kernel
theorem dX6_saying_79 : decode cX6_saying 79 = .ok (.idiv, 1) := by decide +kernel
theorem dX6_saying_80 : decode cX6_saying 80 = .ok (.istore 9, 2) := by decide +kernel
theorem dX6_saying_82 : decode cX6_saying 82 = .ok (.aload_n 0, 1) := by decide +kernel
theorem dX6_saying_83 : decode cX6_saying 83 = .ok (.getfield 18, 3) := by decide +kernel
theorem dX6_saying_86 : decode cX6_saying 86 = .ok (.iload 4, 2) := by decide +kernel
theorem dX6_saying_88 : decode cX6_saying 88 = .ok (.iload 8, 2) := by decide +kernel
theorem dX6_saying_90 : decode cX6_saying 90 = .ok (.ifCond .ne 18, 3) := by decide +kernel
theorem dX6_saying_93 : decode cX6_saying 93 = .ok (.iload 7, 2) := by decide +kernel
theorem dX6_saying_95 : decode cX6_saying 95 = .ok (.iload 9, 2) := by decide +kernel
theorem dX6_saying_97 : decode cX6_saying 97 = .ok (.if_icmp .ge 7, 3) := by decide +kernel
theorem dX6_saying_100 : decode cX6_saying 100 = .ok (.iconst 1, 1) := by decide +kernel
theorem dX6_saying_101 : decode cX6_saying 101 = .ok (.goto 40, 3) := by decide +kernel
theorem dX6_saying_104 : decode cX6_saying 104 = .ok (.iconst 0, 1) := by decide +kernel
theorem dX6_saying_105 : decode cX6_saying 105 = .ok (.goto 36, 3) := by decide +kernel
theorem dX6_saying_108 : decode cX6_saying 108 = .ok (.iload 8, 2) := by decide +kernel
theorem dX6_saying_110 : decode cX6_saying 110 = .ok (.iconst 1, 1) := by decide +kernel
theorem dX6_saying_111 : decode cX6_saying 111 = .ok (.if_icmp .ne 18, 3) := by decide +kernel
theorem dX6_saying_114 : decode cX6_saying 114 = .ok (.iload 7, 2) := by decide +kernel
theorem dX6_saying_116 : decode cX6_saying 116 = .ok (.iload 9, 2) := by decide +kernel
theorem dX6_saying_118 : decode cX6_saying 118 = .ok (.if_icmp .ne 7, 3) := by decide +kernel
theorem dX6_saying_121 : decode cX6_saying 121 = .ok (.iconst 1, 1) := by decide +kernel
theorem dX6_saying_122 : decode cX6_saying 122 = .ok (.goto 19, 3) := by decide +kernel
theorem dX6_saying_125 : decode cX6_saying 125 = .ok (.iconst 0, 1) := by decide +kernel
theorem dX6_saying_126 : decode cX6_saying 126 = .ok (.goto 15, 3) := by decide +kernel
theorem dX6_saying_129 : decode cX6_saying 129 = .ok (.iload 7, 2) := by decide +kernel
theorem dX6_saying_131 : decode cX6_saying 131 = .ok (.iload 9, 2) := by decide +kernel
theorem dX6_saying_133 : decode cX6_saying 133 = .ok (.if_icmp .le 7, 3) := by decide +kernel
theorem dX6_saying_136 : decode cX6_saying 136 = .ok (.iconst 1, 1) := by decide +kernel
theorem dX6_saying_137 : decode cX6_saying 137 = .ok (.goto 4, 3) := by decide +kernel
theorem dX6_saying_140 : decode cX6_saying 140 = .ok (.iconst 0, 1) := by decide +kernel
theorem dX6_saying_141 : decode cX6_saying 141 = .ok (.bastore, 1) := by decide +kernel
theorem dX6_saying_142 : decode cX6_saying 142 = .ok (.iinc 4 1, 3) := by decide +kernel
theorem dX6_saying_145 : decode cX6_saying 145 = .ok (.goto 142, 3) := by decide +kernel
theorem dX6_saying_148 : decode cX6_saying 148 = .ok (.iload 6, 2) := by decide +kernel
theorem dX6_saying_150 : decode cX6_saying 150 = .ok (.iconst (-1), 1) := by decide +kernel
theorem dX6_saying_151 : decode cX6_saying 151 = .ok (.if_icmp .ne 32, 3) := by decide +kernel
theorem dX6_saying_154 : decode cX6_saying 154 = .ok (.aload_n 0, 1) := by decide +kernel
theorem dX6_saying_155 : decode cX6_saying 155 = .ok (.getfield 18, 3) := by decide +kernel
theorem dX6_saying_158 : decode cX6_saying 158 = .ok (.iload 4, 2) := by decide +kernel
theorem dX6_saying_160 : decode cX6_saying 160 = .ok (.iconst 1, 1) := by decide +kernel
theorem dX6_saying_161 : decode cX6_saying 161 = .ok (.isub, 1) := by decide +kernel
theorem dX6_saying_162 : decode cX6_saying 162 = .ok (.aload_n 0, 1) := by decide +kernel
theorem dX6_saying_163 : decode cX6_saying 163 = .ok (.getfield 18, 3) := by decide +kernel
theorem dX6_saying_166 : decode cX6_saying 166 = .ok (.iload 4, 2) := by decide +kernel
theorem dX6_saying_168 : decode cX6_saying 168 = .ok (.iconst 1, 1) := by decide +kernel
theorem dX6_saying_169 : decode cX6_saying 169 = .ok (.isub, 1) := by decide +kernel
theorem dX6_saying_170 : decode cX6_saying 170 = .ok (.baload, 1) := by decide +kernel
theorem dX6_saying_171 : decode cX6_saying 171 = .ok (.ifCond .ne 7, 3) := by decide +kernel
theorem dX6_saying_174 : decode cX6_saying 174 = .ok (.iconst 1, 1) := by decide +kernel
theorem dX6_saying_175 : decode cX6_saying 175 = .ok (.goto 4, 3) := by decide +kernel
theorem dX6_saying_178 : decode cX6_saying 178 = .ok (.iconst 0, 1) := by decide +kernel
theorem dX6_saying_179 : decode cX6_saying 179 = .ok (.bastore, 1) := by decide +kernel
theorem dX6_saying_180 : decode cX6_saying 180 = .ok (.goto 107, 3) := by decide +kernel
theorem dX6_saying_183 : decode cX6_saying 183 = .ok (.iload 6, 2) := by decide +kernel
theorem dX6_saying_185 : decode cX6_saying 185 = .ok (.bipush (-10), 2) := by decide +kernel
theorem dX6_saying_187 : decode cX6_saying 187 = .ok (.if_icmp .le 82, 3) := by decide +kernel
theorem dX6_saying_190 : decode cX6_saying 190 = .ok (.iinc 4 (-1), 3) := by decide +kernel
theorem dX6_saying_193 : decode cX6_saying 193 = .ok (.aload_n 0, 1) := by decide +kernel
theorem dX6_saying_194 : decode cX6_saying 194 = .ok (.getfield 18, 3) := by decide +kernel
theorem dX6_saying_197 : decode cX6_saying 197 = .ok (.iload 4, 2) := by decide +kernel
theorem dX6_saying_199 : decode cX6_saying 199 = .ok (.iconst 1, 1) := by decide +kernel
theorem dX6_saying_200 : decode cX6_saying 200 = .ok (.isub, 1) := by decide +kernel
theorem dX6_saying_201 : decode cX6_saying 201 = .ok (.iload 6, 2) := by decide +kernel
theorem dX6_saying_203 : decode cX6_saying 203 = .ok (.bipush (-2), 2) := by decide +kernel
theorem dX6_saying_205 : decode cX6_saying 205 = .ok (.if_icmp .ne 33, 3) := by decide +kernel
theorem dX6_saying_208 : decode cX6_saying 208 = .ok (.aload_n 0, 1) := by decide +kernel
theorem dX6_saying_209 : decode cX6_saying 209 = .ok (.getfield 18, 3) := by decide +kernel
theorem dX6_saying_212 : decode cX6_saying 212 = .ok (.iload 4, 2) := by decide +kernel
theorem dX6_saying_214 : decode cX6_saying 214 = .ok (.iconst 1, 1) := by decide +kernel
theorem dX6_saying_215 : decode cX6_saying 215 = .ok (.isub, 1) := by decide +kernel
theorem dX6_saying_216 : decode cX6_saying 216 = .ok (.baload, 1) := by decide +kernel
theorem dX6_saying_217 : decode cX6_saying 217 = .ok (.ifCond .eq 17, 3) := by decide +kernel
theorem dX6_saying_220 : decode cX6_saying 220 = .ok (.aload_n 0, 1) := by decide +kernel
theorem dX6_saying_221 : decode cX6_saying 221 = .ok (.getfield 18, 3) := by decide +kernel
theorem dX6_saying_224 : decode cX6_saying 224 = .ok (.iload 4, 2) := by decide +kernel
theorem dX6_saying_226 : decode cX6_saying 226 = .ok (.baload, 1) := by decide +kernel
theorem dX6_saying_227 : decode cX6_saying 227 = .ok (.ifCond .eq 7, 3) := by decide +kernel
theorem dX6_saying_230 : decode cX6_saying 230 = .ok (.iconst 1, 1) := by decide +kernel
theorem dX6_saying_231 : decode cX6_saying 231 = .ok (.goto 34, 3) := by decide +kernel
theorem dX6_saying_234 : decode cX6_saying 234 = .ok (.iconst 0, 1) := by decide +kernel
theorem dX6_saying_235 : decode cX6_saying 235 = .ok (.goto 30, 3) := by decide +kernel
theorem dX6_saying_238 : decode cX6_saying 238 = .ok (.aload_n 0, 1) := by decide +kernel
theorem dX6_saying_239 : decode cX6_saying 239 = .ok (.getfield 18, 3) := by decide +kernel
theorem dX6_saying_242 : decode cX6_saying 242 = .ok (.iload 4, 2) := by decide +kernel
theorem dX6_saying_244 : decode cX6_saying 244 = .ok (.iconst 1, 1) := by decide +kernel
theorem dX6_saying_245 : decode cX6_saying 245 = .ok (.isub, 1) := by decide +kernel
theorem dX6_saying_246 : decode cX6_saying 246 = .ok (.baload, 1) := by decide +kernel
theorem dX6_saying_247 : decode cX6_saying 247 = .ok (.ifCond .ne 13, 3) := by decide +kernel
theorem dX6_saying_250 : decode cX6_saying 250 = .ok (.aload_n 0, 1) := by decide +kernel
theorem dX6_saying_251 : decode cX6_saying 251 = .ok (.getfield 18, 3) := by decide +kernel
theorem dX6_saying_254 : decode cX6_saying 254 = .ok (.iload 4, 2) := by decide +kernel
theorem dX6_saying_256 : decode cX6_saying 256 = .ok (.baload, 1) := by decide +kernel
theorem dX6_saying_257 : decode cX6_saying 257 = .ok (.ifCond .eq 7, 3) := by decide +kernel
theorem dX6_saying_260 : decode cX6_saying 260 = .ok (.iconst 1, 1) := by decide +kernel
theorem dX6_saying_261 : decode cX6_saying 261 = .ok (.goto 4, 3) := by decide +kernel
theorem dX6_saying_264 : decode cX6_saying 264 = .ok (.iconst 0, 1) := by decide +kernel
theorem dX6_saying_265 : decode cX6_saying 265 = .ok (.bastore, 1) := by decide +kernel
theorem dX6_saying_266 : decode cX6_saying 266 = .ok (.goto 21, 3) := by decide +kernel
theorem dX6_saying_269 : decode cX6_saying 269 = .ok (.iconst 0, 1) := by decide +kernel
theorem dX6_saying_270 : decode cX6_saying 270 = .ok (.istore 4, 2) := by decide +kernel
theorem dX6_saying_272 : decode cX6_saying 272 = .ok (.aload_n 0, 1) := by decide +kernel
theorem dX6_saying_273 : decode cX6_saying 273 = .ok (.getfield 18, 3) := by decide +kernel
theorem dX6_saying_276 : decode cX6_saying 276 = .ok (.iconst 0, 1) := by decide +kernel
theorem dX6_saying_277 : decode cX6_saying 277 = .ok (.baload, 1) := by decide +kernel
theorem dX6_saying_278 : decode cX6_saying 278 = .ok (.ifCond .eq 9, 3) := by decide +kernel
theorem dX6_saying_281 : decode cX6_saying 281 = .ok (.bipush (-10), 2) := by decide +kernel
theorem dX6_saying_283 : decode cX6_saying 283 = .ok (.iload 6, 2) := by decide +kernel
theorem dX6_saying_285 : decode cX6_saying 285 = .ok (.isub, 1) := by decide +kernel
theorem dX6_saying_286 : decode cX6_saying 286 = .ok (.ireturn, 1) := by decide +kernel
theorem dX6_saying_287 : decode cX6_saying 287 = .ok (.iinc 5 1, 3) := by decide +kernel
theorem dX6_saying_290 : decode cX6_saying 290 = .ok (.goto (-276), 3) := by decide +kernel
theorem dX6_saying_293 : decode cX6_saying 293 = .ok (.iconst (-1), 1) := by decide +kernel
theorem dX6_saying_294 : decode cX6_saying 294 = .ok (.ireturn, 1) := by decide +kernel
theorem dX6_byLooks_0 : decode cX6_byLooks 0 = .ok (.aload_n 0, 1) := by decide +kernel
theorem dX6_byLooks_1 : decode cX6_byLooks 1 = .ok (.getfield 9, 3) := by decide +kernel
theorem dX6_byLooks_4 : decode cX6_byLooks 4 = .ok (.sipush 250, 3) := by decide +kernel
theorem dX6_byLooks_7 : decode cX6_byLooks 7 = .ok (.iload_n 1, 1) := by decide +kernel
theorem dX6_byLooks_8 : decode cX6_byLooks 8 = .ok (.iadd, 1) := by decide +kernel
theorem dX6_byLooks_9 : decode cX6_byLooks 9 = .ok (.iaload, 1) := by decide +kernel
theorem dX6_byLooks_10 : decode cX6_byLooks 10 = .ok (.istore_n 3, 1) := by decide +kernel
theorem dX6_byLooks_11 : decode cX6_byLooks 11 = .ok (.iload_n 2, 1) := by decide +kernel
theorem dX6_byLooks_12 : decode cX6_byLooks 12 = .ok (.ifCond .ne 7, 3) := by decide +kernel
theorem dX6_byLooks_15 : decode cX6_byLooks 15 = .ok (.iconst 1, 1) := by decide +kernel
theorem dX6_byLooks_16 : decode cX6_byLooks 16 = .ok (.goto 4, 3) := by decide +kernel
theorem dX6_byLooks_19 : decode cX6_byLooks 19 = .ok (.iload_n 2, 1) := by decide +kernel
theorem dX6_byLooks_20 : decode cX6_byLooks 20 = .ok (.istore 4, 2) := by decide +kernel
theorem dX6_byLooks_22 : decode cX6_byLooks 22 = .ok (.iload_n 3, 1) := by decide +kernel
theorem dX6_byLooks_23 : decode cX6_byLooks 23 = .ok (.iload 4, 2) := by decide +kernel
theorem dX6_byLooks_25 : decode cX6_byLooks 25 = .ok (.if_icmp .lt 7, 3) := by decide +kernel
theorem dX6_byLooks_28 : decode cX6_byLooks 28 = .ok (.iconst 2, 1) := by decide +kernel
theorem dX6_byLooks_29 : decode cX6_byLooks 29 = .ok (.goto 15, 3) := by decide +kernel
theorem dX6_byLooks_32 : decode cX6_byLooks 32 = .ok (.iload_n 3, 1) := by decide +kernel
theorem dX6_byLooks_33 : decode cX6_byLooks 33 = .ok (.iload 4, 2) := by decide +kernel
theorem dX6_byLooks_35 : decode cX6_byLooks 35 = .ok (.ineg, 1) := by decide +kernel
theorem dX6_byLooks_36 : decode cX6_byLooks 36 = .ok (.if_icmp .gt 7, 3) := by decide +kernel
theorem dX6_byLooks_39 : decode cX6_byLooks 39 = .ok (.iconst 0, 1) := by decide +kernel
theorem dX6_byLooks_40 : decode cX6_byLooks 40 = .ok (.goto 4, 3) := by decide +kernel
theorem dX6_byLooks_43 : decode cX6_byLooks 43 = .ok (.iconst 1, 1) := by decide +kernel
theorem dX6_byLooks_44 : decode cX6_byLooks 44 = .ok (.ireturn, 1) := by decide +kernel
set_option maxRecDepth 20000 in
theorem ggX6_byKeeping_X6_byLooks : GoodIn wsX6_byKeeping wsX6_byLooks := goodIn_r _ [6, 1, 7, 8, 9, 10, 11, 12, 13, 14, 15, 16, 17, 18, 19, 20, 21, 22, 23, 24] (by decide +kernel) (by decide +kernel)
set_option maxRecDepth 20000 in
theorem gX6_byKeeping_X6_byLooks : GoodIn wsX6_byKeeping (wsV RX6 146 RX6 yX6_byLooks wsX6_byLooks) := goodIn_app (goodIn_of _ (by decide +kernel)) ggX6_byKeeping_X6_byLooks
theorem dX6_byKeeping_0 : decode cX6_byKeeping 0 = .ok (.iload_n 2, 1) := by decide +kernel
theorem dX6_byKeeping_1 : decode cX6_byKeeping 1 = .ok (.ifCond .eq 18, 3) := by decide +kernel
theorem dX6_byKeeping_4 : decode cX6_byKeeping 4 = .ok (.aload_n 0, 1) := by decide +kernel
theorem dX6_byKeeping_5 : decode cX6_byKeeping 5 = .ok (.getfield 9, 3) := by decide +kernel
theorem dX6_byKeeping_8 : decode cX6_byKeeping 8 = .ok (.sipush 266, 3) := by decide +kernel
theorem dX6_byKeeping_11 : decode cX6_byKeeping 11 = .ok (.iload_n 1, 1) := by decide +kernel
theorem dX6_byKeeping_12 : decode cX6_byKeeping 12 = .ok (.iadd, 1) := by decide +kernel
theorem dX6_byKeeping_13 : decode cX6_byKeeping 13 = .ok (.iaload, 1) := by decide +kernel
theorem dX6_byKeeping_14 : decode cX6_byKeeping 14 = .ok (.iconst 1, 1) := by decide +kernel
theorem dX6_byKeeping_15 : decode cX6_byKeeping 15 = .ok (.iadd, 1) := by decide +kernel
theorem dX6_byKeeping_16 : decode cX6_byKeeping 16 = .ok (.goto 9, 3) := by decide +kernel
theorem dX6_byKeeping_19 : decode cX6_byKeeping 19 = .ok (.aload_n 0, 1) := by decide +kernel
theorem dX6_byKeeping_20 : decode cX6_byKeeping 20 = .ok (.iload_n 1, 1) := by decide +kernel
theorem dX6_byKeeping_21 : decode cX6_byKeeping 21 = .ok (.iconst 0, 1) := by decide +kernel
theorem dX6_byKeeping_22 : decode cX6_byKeeping 22 = .ok (.invokevirtual 146, 3) := by decide +kernel
theorem dX6_byKeeping_25 : decode cX6_byKeeping 25 = .ok (.ireturn, 1) := by decide +kernel
set_option maxRecDepth 20000 in
theorem ggX6_asked_X6_byLooks : GoodIn wsX6_asked wsX6_byLooks := goodIn_r _ [6, 1, 7, 8, 9, 10, 11, 12, 13, 14, 15, 16, 17, 18, 19, 20, 21, 22, 23, 24] (by decide +kernel) (by decide +kernel)
set_option maxRecDepth 20000 in
theorem gX6_asked_X6_byLooks : GoodIn wsX6_asked (wsV RX6 146 RX6 yX6_byLooks wsX6_byLooks) := goodIn_app (goodIn_of _ (by decide +kernel)) ggX6_asked_X6_byLooks
theorem dX6_asked_0 : decode cX6_asked 0 = .ok (.aload_n 0, 1) := by decide +kernel
theorem dX6_asked_1 : decode cX6_asked 1 = .ok (.getfield 9, 3) := by decide +kernel
theorem dX6_asked_4 : decode cX6_asked 4 = .ok (.sipush 202, 3) := by decide +kernel
theorem dX6_asked_7 : decode cX6_asked 7 = .ok (.iload_n 1, 1) := by decide +kernel
theorem dX6_asked_8 : decode cX6_asked 8 = .ok (.iadd, 1) := by decide +kernel
theorem dX6_asked_9 : decode cX6_asked 9 = .ok (.iaload, 1) := by decide +kernel
theorem dX6_asked_10 : decode cX6_asked 10 = .ok (.iconst 2, 1) := by decide +kernel
theorem dX6_asked_11 : decode cX6_asked 11 = .ok (.if_icmp .ne 20, 3) := by decide +kernel
theorem dX6_asked_14 : decode cX6_asked 14 = .ok (.aload_n 0, 1) := by decide +kernel
theorem dX6_asked_15 : decode cX6_asked 15 = .ok (.getfield 9, 3) := by decide +kernel
theorem dX6_asked_18 : decode cX6_asked 18 = .ok (.sipush 186, 3) := by decide +kernel
theorem dX6_asked_21 : decode cX6_asked 21 = .ok (.iload_n 1, 1) := by decide +kernel
theorem dX6_asked_22 : decode cX6_asked 22 = .ok (.iadd, 1) := by decide +kernel
theorem dX6_asked_23 : decode cX6_asked 23 = .ok (.iaload, 1) := by decide +kernel
theorem dX6_asked_24 : decode cX6_asked 24 = .ok (.ifCond .ne 7, 3) := by decide +kernel
theorem dX6_asked_27 : decode cX6_asked 27 = .ok (.iconst 1, 1) := by decide +kernel
theorem dX6_asked_28 : decode cX6_asked 28 = .ok (.goto 4, 3) := by decide +kernel
theorem dX6_asked_31 : decode cX6_asked 31 = .ok (.iconst 0, 1) := by decide +kernel
theorem dX6_asked_32 : decode cX6_asked 32 = .ok (.istore_n 3, 1) := by decide +kernel
theorem dX6_asked_33 : decode cX6_asked 33 = .ok (.iload_n 3, 1) := by decide +kernel
theorem dX6_asked_34 : decode cX6_asked 34 = .ok (.ifCond .eq 17, 3) := by decide +kernel
theorem dX6_asked_37 : decode cX6_asked 37 = .ok (.iload_n 2, 1) := by decide +kernel
theorem dX6_asked_38 : decode cX6_asked 38 = .ok (.iconst 1, 1) := by decide +kernel
theorem dX6_asked_39 : decode cX6_asked 39 = .ok (.if_icmp .ne 12, 3) := by decide +kernel
theorem dX6_asked_42 : decode cX6_asked 42 = .ok (.aload_n 0, 1) := by decide +kernel
theorem dX6_asked_43 : decode cX6_asked 43 = .ok (.iload_n 1, 1) := by decide +kernel
theorem dX6_asked_44 : decode cX6_asked 44 = .ok (.iconst 0, 1) := by decide +kernel
theorem dX6_asked_45 : decode cX6_asked 45 = .ok (.invokevirtual 146, 3) := by decide +kernel
theorem dX6_asked_48 : decode cX6_asked 48 = .ok (.goto 4, 3) := by decide +kernel
theorem dX6_asked_51 : decode cX6_asked 51 = .ok (.iload_n 2, 1) := by decide +kernel
theorem dX6_asked_52 : decode cX6_asked 52 = .ok (.ireturn, 1) := by decide +kernel
set_option maxRecDepth 20000 in
theorem ggX6_byKind_X6_byLooks : GoodIn wsX6_byKind wsX6_byLooks := goodIn_r _ [6, 1, 23, 24, 25, 26, 27, 28, 29, 30, 31, 32, 33, 34, 35, 36, 37, 38, 39, 40] (by decide +kernel) (by decide +kernel)
set_option maxRecDepth 20000 in
theorem gX6_byKind_X6_byLooks : GoodIn wsX6_byKind (wsV RX6 146 RX6 yX6_byLooks wsX6_byLooks) := goodIn_app (goodIn_of _ (by decide +kernel)) ggX6_byKind_X6_byLooks
set_option maxRecDepth 20000 in
theorem ggX6_byKind_X6_isKept : GoodIn wsX6_byKind wsX6_isKept := goodIn_r _ [10, 1, 23, 24, 25, 26, 27, 28, 29, 30, 31, 32, 33, 34, 35, 36, 37, 38, 39, 40] (by decide +kernel) (by decide +kernel)
set_option maxRecDepth 20000 in
theorem gX6_byKind_X6_isKept : GoodIn wsX6_byKind (wsV RX6 138 RX6 yX6_isKept wsX6_isKept) := goodIn_app (goodIn_of _ (by decide +kernel)) ggX6_byKind_X6_isKept
set_option maxRecDepth 20000 in
theorem ggX6_byKind_X6_byKeeping : GoodIn wsX6_byKind wsX6_byKeeping := goodIn_r _ [14, 1, 2, 3, 4, 5, 6, 23, 24, 25, 26, 27, 28, 29, 30, 31, 32, 33, 34, 35, 36, 37, 38, 39, 40] (by decide +kernel) (by decide +kernel)
set_option maxRecDepth 20000 in
theorem gX6_byKind_X6_byKeeping : GoodIn wsX6_byKind (wsV RX6 150 RX6 yX6_byKeeping wsX6_byKeeping) := goodIn_app (goodIn_of _ (by decide +kernel)) ggX6_byKind_X6_byKeeping
set_option maxRecDepth 20000 in
theorem ggX6_byKind_X6_asked : GoodIn wsX6_byKind wsX6_asked := goodIn_r _ [18, 1, 2, 3, 4, 5, 6, 23, 24, 25, 26, 27, 28, 29, 30, 31, 32, 33, 34, 35, 36, 37, 38, 39, 40] (by decide +kernel) (by decide +kernel)
set_option maxRecDepth 20000 in
theorem gX6_byKind_X6_asked : GoodIn wsX6_byKind (wsV RX6 154 RX6 yX6_asked wsX6_asked) := goodIn_app (goodIn_of _ (by decide +kernel)) ggX6_byKind_X6_asked
set_option maxRecDepth 20000 in
theorem ggX6_byKind_X6_isKeptEach : GoodIn wsX6_byKind wsX6_isKeptEach := goodIn_r _ [22, 7, 8, 9, 5, 10, 1, 23, 24, 25, 26, 27, 28, 29, 30, 31, 32, 33, 34, 35, 36, 37, 38, 39, 40] (by decide +kernel) (by decide +kernel)
set_option maxRecDepth 20000 in
theorem gX6_byKind_X6_isKeptEach : GoodIn wsX6_byKind (wsV RX6 157 RX6 yX6_isKeptEach wsX6_isKeptEach) := goodIn_app (goodIn_of _ (by decide +kernel)) ggX6_byKind_X6_isKeptEach
theorem dX6_byKind_0 : decode cX6_byKind 0 = .ok (.aload_n 0, 1) := by decide +kernel
theorem dX6_byKind_1 : decode cX6_byKind 1 = .ok (.getfield 9, 3) := by decide +kernel
theorem dX6_byKind_4 : decode cX6_byKind 4 = .ok (.sipush 170, 3) := by decide +kernel
theorem dX6_byKind_7 : decode cX6_byKind 7 = .ok (.iload_n 3, 1) := by decide +kernel
theorem dX6_byKind_8 : decode cX6_byKind 8 = .ok (.iadd, 1) := by decide +kernel
theorem dX6_byKind_9 : decode cX6_byKind 9 = .ok (.iaload, 1) := by decide +kernel
theorem dX6_byKind_10 : decode cX6_byKind 10 = .ok (.istore 5, 2) := by decide +kernel
theorem dX6_byKind_12 : decode cX6_byKind 12 = .ok (.aload_n 0, 1) := by decide +kernel
theorem dX6_byKind_13 : decode cX6_byKind 13 = .ok (.getfield 9, 3) := by decide +kernel
theorem dX6_byKind_16 : decode cX6_byKind 16 = .ok (.sipush 490, 3) := by decide +kernel
theorem dX6_byKind_19 : decode cX6_byKind 19 = .ok (.iload_n 1, 1) := by decide +kernel
theorem dX6_byKind_20 : decode cX6_byKind 20 = .ok (.iadd, 1) := by decide +kernel
theorem dX6_byKind_21 : decode cX6_byKind 21 = .ok (.iaload, 1) := by decide +kernel
theorem dX6_byKind_22 : decode cX6_byKind 22 = .ok (.istore 6, 2) := by decide +kernel
theorem dX6_byKind_24 : decode cX6_byKind 24 = .ok (.aload_n 0, 1) := by decide +kernel
theorem dX6_byKind_25 : decode cX6_byKind 25 = .ok (.getfield 9, 3) := by decide +kernel
theorem dX6_byKind_28 : decode cX6_byKind 28 = .ok (.sipush 482, 3) := by decide +kernel
theorem dX6_byKind_31 : decode cX6_byKind 31 = .ok (.iload_n 1, 1) := by decide +kernel
theorem dX6_byKind_32 : decode cX6_byKind 32 = .ok (.iadd, 1) := by decide +kernel
theorem dX6_byKind_33 : decode cX6_byKind 33 = .ok (.iaload, 1) := by decide +kernel
theorem dX6_byKind_34 : decode cX6_byKind 34 = .ok (.tableswitch 187 1 6 #[38, 46, 62, 83, 118, 166], 38) := by decide +kernel
theorem dX6_byKind_72 : decode cX6_byKind 72 = .ok (.aload_n 0, 1) := by decide +kernel
theorem dX6_byKind_73 : decode cX6_byKind 73 = .ok (.iload_n 3, 1) := by decide +kernel
theorem dX6_byKind_74 : decode cX6_byKind 74 = .ok (.iload 6, 2) := by decide +kernel
theorem dX6_byKind_76 : decode cX6_byKind 76 = .ok (.invokevirtual 146, 3) := by decide +kernel
theorem dX6_byKind_79 : decode cX6_byKind 79 = .ok (.ireturn, 1) := by decide +kernel
theorem dX6_byKind_80 : decode cX6_byKind 80 = .ok (.aload_n 0, 1) := by decide +kernel
theorem dX6_byKind_81 : decode cX6_byKind 81 = .ok (.iload_n 3, 1) := by decide +kernel
theorem dX6_byKind_82 : decode cX6_byKind 82 = .ok (.aload_n 0, 1) := by decide +kernel
theorem dX6_byKind_83 : decode cX6_byKind 83 = .ok (.iload_n 1, 1) := by decide +kernel
theorem dX6_byKind_84 : decode cX6_byKind 84 = .ok (.iload_n 2, 1) := by decide +kernel
theorem dX6_byKind_85 : decode cX6_byKind 85 = .ok (.iload 5, 2) := by decide +kernel
theorem dX6_byKind_87 : decode cX6_byKind 87 = .ok (.iload 4, 2) := by decide +kernel
theorem dX6_byKind_89 : decode cX6_byKind 89 = .ok (.invokevirtual 138, 3) := by decide +kernel
theorem dX6_byKind_92 : decode cX6_byKind 92 = .ok (.invokevirtual 150, 3) := by decide +kernel
theorem dX6_byKind_95 : decode cX6_byKind 95 = .ok (.ireturn, 1) := by decide +kernel
theorem dX6_byKind_96 : decode cX6_byKind 96 = .ok (.aload_n 0, 1) := by decide +kernel
theorem dX6_byKind_97 : decode cX6_byKind 97 = .ok (.iload_n 3, 1) := by decide +kernel
theorem dX6_byKind_98 : decode cX6_byKind 98 = .ok (.aload_n 0, 1) := by decide +kernel
theorem dX6_byKind_99 : decode cX6_byKind 99 = .ok (.iload_n 3, 1) := by decide +kernel
theorem dX6_byKind_100 : decode cX6_byKind 100 = .ok (.aload_n 0, 1) := by decide +kernel
theorem dX6_byKind_101 : decode cX6_byKind 101 = .ok (.iload_n 1, 1) := by decide +kernel
theorem dX6_byKind_102 : decode cX6_byKind 102 = .ok (.iload_n 2, 1) := by decide +kernel
theorem dX6_byKind_103 : decode cX6_byKind 103 = .ok (.iload 5, 2) := by decide +kernel
theorem dX6_byKind_105 : decode cX6_byKind 105 = .ok (.iload 4, 2) := by decide +kernel
theorem dX6_byKind_107 : decode cX6_byKind 107 = .ok (.invokevirtual 138, 3) := by decide +kernel
theorem dX6_byKind_110 : decode cX6_byKind 110 = .ok (.invokevirtual 150, 3) := by decide +kernel
theorem dX6_byKind_113 : decode cX6_byKind 113 = .ok (.invokevirtual 154, 3) := by decide +kernel
theorem dX6_byKind_116 : decode cX6_byKind 116 = .ok (.ireturn, 1) := by decide +kernel
theorem dX6_byKind_117 : decode cX6_byKind 117 = .ok (.aload_n 0, 1) := by decide +kernel
theorem dX6_byKind_118 : decode cX6_byKind 118 = .ok (.getfield 9, 3) := by decide +kernel
theorem dX6_byKind_121 : decode cX6_byKind 121 = .ok (.sipush 234, 3) := by decide +kernel
theorem dX6_byKind_124 : decode cX6_byKind 124 = .ok (.iload_n 3, 1) := by decide +kernel
theorem dX6_byKind_125 : decode cX6_byKind 125 = .ok (.iadd, 1) := by decide +kernel
theorem dX6_byKind_126 : decode cX6_byKind 126 = .ok (.iaload, 1) := by decide +kernel
theorem dX6_byKind_127 : decode cX6_byKind 127 = .ok (.iload 6, 2) := by decide +kernel
theorem dX6_byKind_129 : decode cX6_byKind 129 = .ok (.if_icmp .ne 15, 3) := by decide +kernel
theorem dX6_byKind_132 : decode cX6_byKind 132 = .ok (.iconst 2, 1) := by decide +kernel
theorem dX6_byKind_133 : decode cX6_byKind 133 = .ok (.aload_n 0, 1) := by decide +kernel
theorem dX6_byKind_134 : decode cX6_byKind 134 = .ok (.iload_n 3, 1) := by decide +kernel
theorem dX6_byKind_135 : decode cX6_byKind 135 = .ok (.iload 6, 2) := by decide +kernel
theorem dX6_byKind_137 : decode cX6_byKind 137 = .ok (.invokevirtual 146, 3) := by decide +kernel
theorem dX6_byKind_140 : decode cX6_byKind 140 = .ok (.isub, 1) := by decide +kernel
theorem dX6_byKind_141 : decode cX6_byKind 141 = .ok (.goto 10, 3) := by decide +kernel
theorem dX6_byKind_144 : decode cX6_byKind 144 = .ok (.aload_n 0, 1) := by decide +kernel
theorem dX6_byKind_145 : decode cX6_byKind 145 = .ok (.iload_n 3, 1) := by decide +kernel
theorem dX6_byKind_146 : decode cX6_byKind 146 = .ok (.iload 6, 2) := by decide +kernel
theorem dX6_byKind_148 : decode cX6_byKind 148 = .ok (.invokevirtual 146, 3) := by decide +kernel
theorem dX6_byKind_151 : decode cX6_byKind 151 = .ok (.ireturn, 1) := by decide +kernel
theorem dX6_byKind_152 : decode cX6_byKind 152 = .ok (.aload_n 0, 1) := by decide +kernel
theorem dX6_byKind_153 : decode cX6_byKind 153 = .ok (.iload_n 3, 1) := by decide +kernel
theorem dX6_byKind_154 : decode cX6_byKind 154 = .ok (.aload_n 0, 1) := by decide +kernel
theorem dX6_byKind_155 : decode cX6_byKind 155 = .ok (.iload_n 1, 1) := by decide +kernel
theorem dX6_byKind_156 : decode cX6_byKind 156 = .ok (.iload_n 2, 1) := by decide +kernel
theorem dX6_byKind_157 : decode cX6_byKind 157 = .ok (.iload 5, 2) := by decide +kernel
theorem dX6_byKind_159 : decode cX6_byKind 159 = .ok (.iload 4, 2) := by decide +kernel
theorem dX6_byKind_161 : decode cX6_byKind 161 = .ok (.invokevirtual 138, 3) := by decide +kernel
theorem dX6_byKind_164 : decode cX6_byKind 164 = .ok (.ifCond .ne 27, 3) := by decide +kernel
theorem dX6_byKind_167 : decode cX6_byKind 167 = .ok (.aload_n 0, 1) := by decide +kernel
theorem dX6_byKind_168 : decode cX6_byKind 168 = .ok (.getfield 9, 3) := by decide +kernel
theorem dX6_byKind_171 : decode cX6_byKind 171 = .ok (.sipush 218, 3) := by decide +kernel
theorem dX6_byKind_174 : decode cX6_byKind 174 = .ok (.iload_n 3, 1) := by decide +kernel
theorem dX6_byKind_175 : decode cX6_byKind 175 = .ok (.iadd, 1) := by decide +kernel
theorem dX6_byKind_176 : decode cX6_byKind 176 = .ok (.iaload, 1) := by decide +kernel
theorem dX6_byKind_177 : decode cX6_byKind 177 = .ok (.iconst 1, 1) := by decide +kernel
theorem dX6_byKind_178 : decode cX6_byKind 178 = .ok (.if_icmp .ne 17, 3) := by decide +kernel
theorem dX6_byKind_181 : decode cX6_byKind 181 = .ok (.iload 4, 2) := by decide +kernel
theorem dX6_byKind_183 : decode cX6_byKind 183 = .ok (.bipush 6, 2) := by decide +kernel
theorem dX6_byKind_185 : decode cX6_byKind 185 = .ok (.iload 6, 2) := by decide +kernel
theorem dX6_byKind_187 : decode cX6_byKind 187 = .ok (.imul, 1) := by decide +kernel
theorem dX6_byKind_188 : decode cX6_byKind 188 = .ok (.if_icmp .lt 7, 3) := by decide +kernel
theorem dX6_byKind_191 : decode cX6_byKind 191 = .ok (.iconst 1, 1) := by decide +kernel
theorem dX6_byKind_192 : decode cX6_byKind 192 = .ok (.goto 4, 3) := by decide +kernel
theorem dX6_byKind_195 : decode cX6_byKind 195 = .ok (.iconst 0, 1) := by decide +kernel
theorem dX6_byKind_196 : decode cX6_byKind 196 = .ok (.invokevirtual 150, 3) := by decide +kernel
theorem dX6_byKind_199 : decode cX6_byKind 199 = .ok (.ireturn, 1) := by decide +kernel
theorem dX6_byKind_200 : decode cX6_byKind 200 = .ok (.aload_n 0, 1) := by decide +kernel
theorem dX6_byKind_201 : decode cX6_byKind 201 = .ok (.iload_n 3, 1) := by decide +kernel
theorem dX6_byKind_202 : decode cX6_byKind 202 = .ok (.aload_n 0, 1) := by decide +kernel
theorem dX6_byKind_203 : decode cX6_byKind 203 = .ok (.iload_n 3, 1) := by decide +kernel
theorem dX6_byKind_204 : decode cX6_byKind 204 = .ok (.aload_n 0, 1) := by decide +kernel
theorem dX6_byKind_205 : decode cX6_byKind 205 = .ok (.iload_n 1, 1) := by decide +kernel
theorem dX6_byKind_206 : decode cX6_byKind 206 = .ok (.iload_n 2, 1) := by decide +kernel
theorem dX6_byKind_207 : decode cX6_byKind 207 = .ok (.iload 5, 2) := by decide +kernel
theorem dX6_byKind_209 : decode cX6_byKind 209 = .ok (.iload 4, 2) := by decide +kernel
theorem dX6_byKind_211 : decode cX6_byKind 211 = .ok (.invokevirtual 157, 3) := by decide +kernel
theorem dX6_byKind_214 : decode cX6_byKind 214 = .ok (.invokevirtual 150, 3) := by decide +kernel
theorem dX6_byKind_217 : decode cX6_byKind 217 = .ok (.invokevirtual 154, 3) := by decide +kernel
theorem dX6_byKind_220 : decode cX6_byKind 220 = .ok (.ireturn, 1) := by decide +kernel
theorem dX6_byKind_221 : decode cX6_byKind 221 = .ok (.iconst 1, 1) := by decide +kernel
theorem dX6_byKind_222 : decode cX6_byKind 222 = .ok (.ireturn, 1) := by decide +kernel
set_option maxRecDepth 20000 in
theorem ggX6_tellsOf_X6_saying : GoodIn wsX6_tellsOf wsX6_saying := goodIn_r _ [5, 6, 7, 8, 9, 10, 4, 11, 36, 37, 38, 39, 40, 41, 42, 43, 44, 45, 46, 47, 48, 49, 50, 51, 52, 53] (by decide +kernel) (by decide +kernel)
set_option maxRecDepth 20000 in
theorem gX6_tellsOf_X6_saying : GoodIn wsX6_tellsOf (wsV RX6 160 RX6 yX6_saying wsX6_saying) := goodIn_app (goodIn_of _ (by decide +kernel)) ggX6_tellsOf_X6_saying
set_option maxRecDepth 20000 in
theorem ggX6_tellsOf_X6_byKind : GoodIn wsX6_tellsOf wsX6_byKind := goodIn_r _ [15, 6, 16, 17, 18, 4, 19, 20, 21, 22, 23, 24, 25, 26, 27, 28, 29, 30, 31, 32, 33, 34, 35, 36, 37, 38, 39, 40, 41, 42, 43, 44, 45, 46, 47, 48, 49, 50, 51, 52, 53] (by decide +kernel) (by decide +kernel)
set_option maxRecDepth 20000 in
theorem gX6_tellsOf_X6_byKind : GoodIn wsX6_tellsOf (wsV RX6 163 RX6 yX6_byKind wsX6_byKind) := goodIn_app (goodIn_of _ (by decide +kernel)) ggX6_tellsOf_X6_byKind
theorem dX6_tellsOf_0 : decode cX6_tellsOf 0 = .ok (.aload_n 0, 1) := by decide +kernel
theorem dX6_tellsOf_1 : decode cX6_tellsOf 1 = .ok (.iload_n 1, 1) := by decide +kernel
theorem dX6_tellsOf_2 : decode cX6_tellsOf 2 = .ok (.iload_n 3, 1) := by decide +kernel
theorem dX6_tellsOf_3 : decode cX6_tellsOf 3 = .ok (.iload 4, 2) := by decide +kernel
theorem dX6_tellsOf_5 : decode cX6_tellsOf 5 = .ok (.invokevirtual 160, 3) := by decide +kernel
theorem dX6_tellsOf_8 : decode cX6_tellsOf 8 = .ok (.istore 5, 2) := by decide +kernel
theorem dX6_tellsOf_10 : decode cX6_tellsOf 10 = .ok (.iload 5, 2) := by decide +kernel
theorem dX6_tellsOf_12 : decode cX6_tellsOf 12 = .ok (.iconst (-1), 1) := by decide +kernel
theorem dX6_tellsOf_13 : decode cX6_tellsOf 13 = .ok (.if_icmp .ne 15, 3) := by decide +kernel
theorem dX6_tellsOf_16 : decode cX6_tellsOf 16 = .ok (.aload_n 0, 1) := by decide +kernel
theorem dX6_tellsOf_17 : decode cX6_tellsOf 17 = .ok (.iload_n 1, 1) := by decide +kernel
theorem dX6_tellsOf_18 : decode cX6_tellsOf 18 = .ok (.iload_n 2, 1) := by decide +kernel
theorem dX6_tellsOf_19 : decode cX6_tellsOf 19 = .ok (.iload_n 3, 1) := by decide +kernel
theorem dX6_tellsOf_20 : decode cX6_tellsOf 20 = .ok (.iload 4, 2) := by decide +kernel
theorem dX6_tellsOf_22 : decode cX6_tellsOf 22 = .ok (.invokevirtual 163, 3) := by decide +kernel
theorem dX6_tellsOf_25 : decode cX6_tellsOf 25 = .ok (.goto 5, 3) := by decide +kernel
theorem dX6_tellsOf_28 : decode cX6_tellsOf 28 = .ok (.iload 5, 2) := by decide +kernel
theorem dX6_tellsOf_30 : decode cX6_tellsOf 30 = .ok (.ireturn, 1) := by decide +kernel
set_option maxRecDepth 20000 in
theorem ggX6_tells_X6_isLaw : GoodIn wsX6_tells wsX6_isLaw := goodIn_r _ [6, 1, 7, 8, 5, 9, 55, 56, 57, 58, 59, 60, 61, 62, 63, 64, 65, 66, 67, 68, 69, 70, 71, 72] (by decide +kernel) (by decide +kernel)
set_option maxRecDepth 20000 in
theorem gX6_tells_X6_isLaw : GoodIn wsX6_tells (wsV RX6 135 RX6 yX6_isLaw wsX6_isLaw) := goodIn_app (goodIn_of _ (by decide +kernel)) ggX6_tells_X6_isLaw
set_option maxRecDepth 20000 in
theorem ggX6_tells_X6_isChild : GoodIn wsX6_tells wsX6_isChild := goodIn_r _ [13, 1, 7, 8, 5, 9, 55, 56, 57, 58, 59, 60, 61, 62, 63, 64, 65, 66, 67, 68, 69, 70, 71, 72] (by decide +kernel) (by decide +kernel)
set_option maxRecDepth 20000 in
theorem gX6_tells_X6_isChild : GoodIn wsX6_tells (wsV RX6 36 RX6 yX6_isChild wsX6_isChild) := goodIn_app (goodIn_of _ (by decide +kernel)) ggX6_tells_X6_isChild
set_option maxRecDepth 20000 in
theorem ggX6_tells_X6_isAsking : GoodIn wsX6_tells wsX6_isAsking := goodIn_r _ [17, 1, 7, 8, 5, 9, 55, 56, 57, 58, 59, 60, 61, 62, 63, 64, 65, 66, 67, 68, 69, 70, 71, 72] (by decide +kernel) (by decide +kernel)
set_option maxRecDepth 20000 in
theorem gX6_tells_X6_isAsking : GoodIn wsX6_tells (wsV RX6 43 RX6 yX6_isAsking wsX6_isAsking) := goodIn_app (goodIn_of _ (by decide +kernel)) ggX6_tells_X6_isAsking
set_option maxRecDepth 20000 in
theorem ggX6_tells_X6_tellsOf : GoodIn wsX6_tells wsX6_tellsOf := goodIn_r _ [21, 22, 23, 24, 5, 25, 1, 26, 27, 28, 29, 30, 31, 32, 33, 34, 35, 36, 37, 38, 39, 40, 41, 42, 43, 44, 45, 46, 47, 48, 49, 50, 51, 52, 53, 54, 55, 56, 57, 58, 59, 60, 61, 62, 63, 64, 65, 66, 67, 68, 69, 70, 71, 72] (by decide +kernel) (by decide +kernel)
set_option maxRecDepth 20000 in
theorem gX6_tells_X6_tellsOf : GoodIn wsX6_tells (wsV RX6 167 RX6 yX6_tellsOf wsX6_tellsOf) := goodIn_app (goodIn_of _ (by decide +kernel)) ggX6_tells_X6_tellsOf
theorem dX6_tells_0 : decode cX6_tells 0 = .ok (.aload_n 0, 1) := by decide +kernel
theorem dX6_tells_1 : decode cX6_tells 1 = .ok (.iload_n 1, 1) := by decide +kernel
theorem dX6_tells_2 : decode cX6_tells 2 = .ok (.invokevirtual 135, 3) := by decide +kernel
theorem dX6_tells_5 : decode cX6_tells 5 = .ok (.ifCond .eq 39, 3) := by decide +kernel
theorem dX6_tells_8 : decode cX6_tells 8 = .ok (.aload_n 0, 1) := by decide +kernel
theorem dX6_tells_9 : decode cX6_tells 9 = .ok (.iload_n 2, 1) := by decide +kernel
theorem dX6_tells_10 : decode cX6_tells 10 = .ok (.invokevirtual 36, 3) := by decide +kernel
theorem dX6_tells_13 : decode cX6_tells 13 = .ok (.ifCond .eq 31, 3) := by decide +kernel
theorem dX6_tells_16 : decode cX6_tells 16 = .ok (.aload_n 0, 1) := by decide +kernel
theorem dX6_tells_17 : decode cX6_tells 17 = .ok (.iload_n 3, 1) := by decide +kernel
theorem dX6_tells_18 : decode cX6_tells 18 = .ok (.invokevirtual 43, 3) := by decide +kernel
theorem dX6_tells_21 : decode cX6_tells 21 = .ok (.ifCond .eq 23, 3) := by decide +kernel
theorem dX6_tells_24 : decode cX6_tells 24 = .ok (.aload_n 0, 1) := by decide +kernel
theorem dX6_tells_25 : decode cX6_tells 25 = .ok (.iload_n 1, 1) := by decide +kernel
theorem dX6_tells_26 : decode cX6_tells 26 = .ok (.iload_n 2, 1) := by decide +kernel
theorem dX6_tells_27 : decode cX6_tells 27 = .ok (.iload_n 3, 1) := by decide +kernel
theorem dX6_tells_28 : decode cX6_tells 28 = .ok (.aload_n 0, 1) := by decide +kernel
theorem dX6_tells_29 : decode cX6_tells 29 = .ok (.getfield 9, 3) := by decide +kernel
theorem dX6_tells_32 : decode cX6_tells 32 = .ok (.sipush 130, 3) := by decide +kernel
theorem dX6_tells_35 : decode cX6_tells 35 = .ok (.iload_n 2, 1) := by decide +kernel
theorem dX6_tells_36 : decode cX6_tells 36 = .ok (.iadd, 1) := by decide +kernel
theorem dX6_tells_37 : decode cX6_tells 37 = .ok (.iaload, 1) := by decide +kernel
theorem dX6_tells_38 : decode cX6_tells 38 = .ok (.invokevirtual 167, 3) := by decide +kernel
theorem dX6_tells_41 : decode cX6_tells 41 = .ok (.goto 4, 3) := by decide +kernel
theorem dX6_tells_44 : decode cX6_tells 44 = .ok (.iconst (-1), 1) := by decide +kernel
theorem dX6_tells_45 : decode cX6_tells 45 = .ok (.ireturn, 1) := by decide +kernel
theorem dX6_divisor_0 : decode cX6_divisor 0 = .ok (.lload_n 0, 1) := by decide +kernel
theorem dX6_divisor_1 : decode cX6_divisor 1 = .ok (.lconst 0, 1) := by decide +kernel
theorem dX6_divisor_2 : decode cX6_divisor 2 = .ok (.lcmp, 1) := by decide +kernel
theorem dX6_divisor_3 : decode cX6_divisor 3 = .ok (.ifCond .ge 8, 3) := by decide +kernel
theorem dX6_divisor_6 : decode cX6_divisor 6 = .ok (.lload_n 0, 1) := by decide +kernel
theorem dX6_divisor_7 : decode cX6_divisor 7 = .ok (.lneg, 1) := by decide +kernel
theorem dX6_divisor_8 : decode cX6_divisor 8 = .ok (.goto 4, 3) := by decide +kernel
theorem dX6_divisor_11 : decode cX6_divisor 11 = .ok (.lload_n 0, 1) := by decide +kernel
theorem dX6_divisor_12 : decode cX6_divisor 12 = .ok (.lstore 4, 2) := by decide +kernel
theorem dX6_divisor_14 : decode cX6_divisor 14 = .ok (.lload_n 2, 1) := by decide +kernel
theorem dX6_divisor_15 : decode cX6_divisor 15 = .ok (.lstore 6, 2) := by decide +kernel
theorem dX6_divisor_17 : decode cX6_divisor 17 = .ok (.lload 6, 2) := by decide +kernel
theorem dX6_divisor_19 : decode cX6_divisor 19 = .ok (.lconst 0, 1) := by decide +kernel
theorem dX6_divisor_20 : decode cX6_divisor 20 = .ok (.lcmp, 1) := by decide +kernel
theorem dX6_divisor_21 : decode cX6_divisor 21 = .ok (.ifCond .eq 21, 3) := by decide +kernel
theorem dX6_divisor_24 : decode cX6_divisor 24 = .ok (.lload 4, 2) := by decide +kernel
theorem dX6_divisor_26 : decode cX6_divisor 26 = .ok (.lload 6, 2) := by decide +kernel
theorem dX6_divisor_28 : decode cX6_divisor 28 = .ok (.lrem, 1) := by decide +kernel
theorem dX6_divisor_29 : decode cX6_divisor 29 = .ok (.lstore 8, 2) := by decide +kernel
theorem dX6_divisor_31 : decode cX6_divisor 31 = .ok (.lload 6, 2) := by decide +kernel
theorem dX6_divisor_33 : decode cX6_divisor 33 = .ok (.lstore 4, 2) := by decide +kernel
theorem dX6_divisor_35 : decode cX6_divisor 35 = .ok (.lload 8, 2) := by decide +kernel
theorem dX6_divisor_37 : decode cX6_divisor 37 = .ok (.lstore 6, 2) := by decide +kernel
theorem dX6_divisor_39 : decode cX6_divisor 39 = .ok (.goto (-22), 3) := by decide +kernel
theorem dX6_divisor_42 : decode cX6_divisor 42 = .ok (.lload 4, 2) := by decide +kernel
theorem dX6_divisor_44 : decode cX6_divisor 44 = .ok (.lreturn, 1) := by decide +kernel
set_option maxRecDepth 20000 in
theorem ggX6_lowest_X6_divisor : GoodIn wsX6_lowest wsX6_divisor := goodIn_r _ [4] (by decide +kernel) (by decide +kernel)
set_option maxRecDepth 20000 in
theorem gX6_lowest_X6_divisor : GoodIn wsX6_lowest (va_wsS RX6 170 yX6_divisor wsX6_divisor) := goodIn_app (goodIn_of _ (by decide +kernel)) ggX6_lowest_X6_divisor
theorem dX6_lowest_0 : decode cX6_lowest 0 = .ok (.iload 4, 2) := by decide +kernel
theorem dX6_lowest_2 : decode cX6_lowest 2 = .ok (.ifCond .ne 7, 3) := by decide +kernel
theorem dX6_lowest_5 : decode cX6_lowest 5 = .ok (.lload_n 0, 1) := by decide +kernel
theorem dX6_lowest_6 : decode cX6_lowest 6 = .ok (.goto 4, 3) := by decide +kernel
theorem dX6_lowest_9 : decode cX6_lowest 9 = .ok (.lload_n 2, 1) := by decide +kernel
theorem dX6_lowest_10 : decode cX6_lowest 10 = .ok (.lload_n 0, 1) := by decide +kernel
theorem dX6_lowest_11 : decode cX6_lowest 11 = .ok (.lload_n 2, 1) := by decide +kernel
theorem dX6_lowest_12 : decode cX6_lowest 12 = .ok (.invokestatic 170, 3) := by decide +kernel
theorem dX6_lowest_15 : decode cX6_lowest 15 = .ok (.ldiv, 1) := by decide +kernel
theorem dX6_lowest_16 : decode cX6_lowest 16 = .ok (.lreturn, 1) := by decide +kernel
set_option maxRecDepth 20000 in
theorem ggX6_isAsTold_X6_tellsOf : GoodIn wsX6_isAsTold wsX6_tellsOf := goodIn_r _ [6, 7, 8, 9, 5, 10, 1, 11, 12, 13, 14, 15, 16, 17, 18, 19, 20, 21, 22, 23, 24, 25, 26, 27, 28, 29, 30, 31, 32, 33, 34, 35, 36, 37, 38, 39, 40, 41, 42, 43, 44, 45, 46, 47, 48, 49, 50, 51, 52, 53, 54, 55, 56, 57] (by decide +kernel) (by decide +kernel)
set_option maxRecDepth 20000 in
theorem gX6_isAsTold_X6_tellsOf : GoodIn wsX6_isAsTold (wsV RX6 167 RX6 yX6_tellsOf wsX6_tellsOf) := goodIn_app (goodIn_of _ (by decide +kernel)) ggX6_isAsTold_X6_tellsOf
theorem dX6_isAsTold_0 : decode cX6_isAsTold 0 = .ok (.aload_n 0, 1) := by decide +kernel
theorem dX6_isAsTold_1 : decode cX6_isAsTold 1 = .ok (.iload_n 1, 1) := by decide +kernel
theorem dX6_isAsTold_2 : decode cX6_isAsTold 2 = .ok (.aload_n 0, 1) := by decide +kernel
theorem dX6_isAsTold_3 : decode cX6_isAsTold 3 = .ok (.getfield 9, 3) := by decide +kernel
theorem dX6_isAsTold_6 : decode cX6_isAsTold 6 = .ok (.sipush 282, 3) := by decide +kernel
theorem dX6_isAsTold_9 : decode cX6_isAsTold 9 = .ok (.iload_n 2, 1) := by decide +kernel
theorem dX6_isAsTold_10 : decode cX6_isAsTold 10 = .ok (.iadd, 1) := by decide +kernel
theorem dX6_isAsTold_11 : decode cX6_isAsTold 11 = .ok (.iaload, 1) := by decide +kernel
theorem dX6_isAsTold_12 : decode cX6_isAsTold 12 = .ok (.aload_n 0, 1) := by decide +kernel
theorem dX6_isAsTold_13 : decode cX6_isAsTold 13 = .ok (.getfield 9, 3) := by decide +kernel
theorem dX6_isAsTold_16 : decode cX6_isAsTold 16 = .ok (.sipush 322, 3) := by decide +kernel
theorem dX6_isAsTold_19 : decode cX6_isAsTold 19 = .ok (.iload_n 2, 1) := by decide +kernel
theorem dX6_isAsTold_20 : decode cX6_isAsTold 20 = .ok (.iadd, 1) := by decide +kernel
theorem dX6_isAsTold_21 : decode cX6_isAsTold 21 = .ok (.iaload, 1) := by decide +kernel
theorem dX6_isAsTold_22 : decode cX6_isAsTold 22 = .ok (.aload_n 0, 1) := by decide +kernel
theorem dX6_isAsTold_23 : decode cX6_isAsTold 23 = .ok (.getfield 9, 3) := by decide +kernel
theorem dX6_isAsTold_26 : decode cX6_isAsTold 26 = .ok (.sipush 442, 3) := by decide +kernel
theorem dX6_isAsTold_29 : decode cX6_isAsTold 29 = .ok (.iload_n 2, 1) := by decide +kernel
theorem dX6_isAsTold_30 : decode cX6_isAsTold 30 = .ok (.iadd, 1) := by decide +kernel
theorem dX6_isAsTold_31 : decode cX6_isAsTold 31 = .ok (.iaload, 1) := by decide +kernel
theorem dX6_isAsTold_32 : decode cX6_isAsTold 32 = .ok (.invokevirtual 167, 3) := by decide +kernel
theorem dX6_isAsTold_35 : decode cX6_isAsTold 35 = .ok (.aload_n 0, 1) := by decide +kernel
theorem dX6_isAsTold_36 : decode cX6_isAsTold 36 = .ok (.getfield 9, 3) := by decide +kernel
theorem dX6_isAsTold_39 : decode cX6_isAsTold 39 = .ok (.sipush 362, 3) := by decide +kernel
theorem dX6_isAsTold_42 : decode cX6_isAsTold 42 = .ok (.iload_n 2, 1) := by decide +kernel
theorem dX6_isAsTold_43 : decode cX6_isAsTold 43 = .ok (.iadd, 1) := by decide +kernel
theorem dX6_isAsTold_44 : decode cX6_isAsTold 44 = .ok (.iaload, 1) := by decide +kernel
theorem dX6_isAsTold_45 : decode cX6_isAsTold 45 = .ok (.if_icmp .ne 7, 3) := by decide +kernel
theorem dX6_isAsTold_48 : decode cX6_isAsTold 48 = .ok (.iconst 1, 1) := by decide +kernel
theorem dX6_isAsTold_49 : decode cX6_isAsTold 49 = .ok (.goto 4, 3) := by decide +kernel
theorem dX6_isAsTold_52 : decode cX6_isAsTold 52 = .ok (.iconst 0, 1) := by decide +kernel
theorem dX6_isAsTold_53 : decode cX6_isAsTold 53 = .ok (.ireturn, 1) := by decide +kernel
set_option maxRecDepth 20000 in
theorem ggX6_chanceOf_X6_isAsTold : GoodIn wsX6_chanceOf wsX6_isAsTold := goodIn_r _ [6, 1, 7, 8, 9, 5, 10, 11, 12, 13, 14, 15, 16, 17, 18, 19, 20, 21, 22, 23, 24, 25, 26, 27, 28, 29, 30, 31, 32, 33, 34, 35, 36, 37, 38, 39, 40, 41, 42, 43, 44, 45, 46, 47, 48, 49, 50, 51, 52, 53, 54, 55, 56, 57, 58, 59, 60, 61] (by decide +kernel) (by decide +kernel)
set_option maxRecDepth 20000 in
theorem gX6_chanceOf_X6_isAsTold : GoodIn wsX6_chanceOf (wsV RX6 174 RX6 yX6_isAsTold wsX6_isAsTold) := goodIn_app (goodIn_of _ (by decide +kernel)) ggX6_chanceOf_X6_isAsTold
theorem dX6_chanceOf_0 : decode cX6_chanceOf 0 = .ok (.aload_n 0, 1) := by decide +kernel
theorem dX6_chanceOf_1 : decode cX6_chanceOf 1 = .ok (.iload_n 1, 1) := by decide +kernel
theorem dX6_chanceOf_2 : decode cX6_chanceOf 2 = .ok (.iload_n 2, 1) := by decide +kernel
theorem dX6_chanceOf_3 : decode cX6_chanceOf 3 = .ok (.invokevirtual 174, 3) := by decide +kernel
theorem dX6_chanceOf_6 : decode cX6_chanceOf 6 = .ok (.ifCond .eq 23, 3) := by decide +kernel
theorem dX6_chanceOf_9 : decode cX6_chanceOf 9 = .ok (.sipush 200, 3) := by decide +kernel
theorem dX6_chanceOf_12 : decode cX6_chanceOf 12 = .ok (.iconst 2, 1) := by decide +kernel
theorem dX6_chanceOf_13 : decode cX6_chanceOf 13 = .ok (.aload_n 0, 1) := by decide +kernel
theorem dX6_chanceOf_14 : decode cX6_chanceOf 14 = .ok (.getfield 9, 3) := by decide +kernel
theorem dX6_chanceOf_17 : decode cX6_chanceOf 17 = .ok (.sipush 498, 3) := by decide +kernel
theorem dX6_chanceOf_20 : decode cX6_chanceOf 20 = .ok (.iload_n 1, 1) := by decide +kernel
theorem dX6_chanceOf_21 : decode cX6_chanceOf 21 = .ok (.iadd, 1) := by decide +kernel
theorem dX6_chanceOf_22 : decode cX6_chanceOf 22 = .ok (.iaload, 1) := by decide +kernel
theorem dX6_chanceOf_23 : decode cX6_chanceOf 23 = .ok (.imul, 1) := by decide +kernel
theorem dX6_chanceOf_24 : decode cX6_chanceOf 24 = .ok (.isub, 1) := by decide +kernel
theorem dX6_chanceOf_25 : decode cX6_chanceOf 25 = .ok (.i2l, 1) := by decide +kernel
theorem dX6_chanceOf_26 : decode cX6_chanceOf 26 = .ok (.goto 14, 3) := by decide +kernel
theorem dX6_chanceOf_29 : decode cX6_chanceOf 29 = .ok (.aload_n 0, 1) := by decide +kernel
theorem dX6_chanceOf_30 : decode cX6_chanceOf 30 = .ok (.getfield 9, 3) := by decide +kernel
theorem dX6_chanceOf_33 : decode cX6_chanceOf 33 = .ok (.sipush 498, 3) := by decide +kernel
theorem dX6_chanceOf_36 : decode cX6_chanceOf 36 = .ok (.iload_n 1, 1) := by decide +kernel
theorem dX6_chanceOf_37 : decode cX6_chanceOf 37 = .ok (.iadd, 1) := by decide +kernel
theorem dX6_chanceOf_38 : decode cX6_chanceOf 38 = .ok (.iaload, 1) := by decide +kernel
theorem dX6_chanceOf_39 : decode cX6_chanceOf 39 = .ok (.i2l, 1) := by decide +kernel
theorem dX6_chanceOf_40 : decode cX6_chanceOf 40 = .ok (.lreturn, 1) := by decide +kernel
set_option maxRecDepth 20000 in
theorem ggX6_chance_X6_isLaw : GoodIn wsX6_chance wsX6_isLaw := goodIn_r _ [7, 8, 9, 10, 6, 11, 67, 68, 69, 70, 71, 72, 73, 74, 75, 76, 77, 78, 79, 80, 81, 82, 83, 84] (by decide +kernel) (by decide +kernel)
set_option maxRecDepth 20000 in
theorem gX6_chance_X6_isLaw : GoodIn wsX6_chance (wsV RX6 135 RX6 yX6_isLaw wsX6_isLaw) := goodIn_app (goodIn_of _ (by decide +kernel)) ggX6_chance_X6_isLaw
set_option maxRecDepth 20000 in
theorem ggX6_chance_X6_isAnswer : GoodIn wsX6_chance wsX6_isAnswer := goodIn_r _ [15, 8, 9, 10, 6, 11, 67, 68, 69, 70, 71, 72, 73, 74, 75, 76, 77, 78, 79, 80, 81, 82, 83, 84] (by decide +kernel) (by decide +kernel)
set_option maxRecDepth 20000 in
theorem gX6_chance_X6_isAnswer : GoodIn wsX6_chance (wsV RX6 46 RX6 yX6_isAnswer wsX6_isAnswer) := goodIn_app (goodIn_of _ (by decide +kernel)) ggX6_chance_X6_isAnswer
set_option maxRecDepth 20000 in
theorem ggX6_chance_X6_in : GoodIn wsX6_chance wsX6_in := goodIn_r _ [11] (by decide +kernel) (by decide +kernel)
set_option maxRecDepth 20000 in
theorem gX6_chance_X6_in : GoodIn wsX6_chance (va_wsS RX6 32 yX6_in wsX6_in) := goodIn_app (goodIn_of _ (by decide +kernel)) ggX6_chance_X6_in
set_option maxRecDepth 20000 in
theorem ggX6_chance_X6_chanceOf : GoodIn wsX6_chance wsX6_chanceOf := goodIn_r _ [19, 8, 20, 21, 22, 6, 23, 24, 25, 26, 27, 28, 29, 30, 31, 32, 33, 34, 35, 36, 37, 38, 39, 40, 41, 42, 43, 44, 45, 46, 47, 48, 49, 50, 51, 52, 53, 54, 55, 56, 57, 58, 59, 60, 67, 68, 69, 70, 71, 72, 73, 74, 75, 76, 77, 78, 79, 80, 81, 82, 83, 84] (by decide +kernel) (by decide +kernel)
set_option maxRecDepth 20000 in
theorem gX6_chance_X6_chanceOf : GoodIn wsX6_chance (wsV RX6 180 RX6 yX6_chanceOf wsX6_chanceOf) := goodIn_app (goodIn_of _ (by decide +kernel)) ggX6_chance_X6_chanceOf
set_option maxRecDepth 20000 in
theorem ggX6_chance_X6_lowest : GoodIn wsX6_chance wsX6_lowest := goodIn_r _ [63, 64, 65, 6, 66] (by decide +kernel) (by decide +kernel)
set_option maxRecDepth 20000 in
theorem gX6_chance_X6_lowest : GoodIn wsX6_chance (va_wsS RX6 186 yX6_lowest wsX6_lowest) := goodIn_app (goodIn_of _ (by decide +kernel)) ggX6_chance_X6_lowest
theorem dX6_chance_0 : decode cX6_chance 0 = .ok (.aload_n 0, 1) := by decide +kernel
theorem dX6_chance_1 : decode cX6_chance 1 = .ok (.iload_n 1, 1) := by decide +kernel
theorem dX6_chance_2 : decode cX6_chance 2 = .ok (.invokevirtual 135, 3) := by decide +kernel
theorem dX6_chance_5 : decode cX6_chance 5 = .ok (.ifCond .eq 20, 3) := by decide +kernel
theorem dX6_chance_8 : decode cX6_chance 8 = .ok (.aload_n 0, 1) := by decide +kernel
theorem dX6_chance_9 : decode cX6_chance 9 = .ok (.iload_n 2, 1) := by decide +kernel
theorem dX6_chance_10 : decode cX6_chance 10 = .ok (.invokevirtual 46, 3) := by decide +kernel
theorem dX6_chance_13 : decode cX6_chance 13 = .ok (.ifCond .eq 12, 3) := by decide +kernel
theorem dX6_chance_16 : decode cX6_chance 16 = .ok (.iload_n 3, 1) := by decide +kernel
theorem dX6_chance_17 : decode cX6_chance 17 = .ok (.iconst 0, 1) := by decide +kernel
theorem dX6_chance_18 : decode cX6_chance 18 = .ok (.iconst 1, 1) := by decide +kernel
theorem dX6_chance_19 : decode cX6_chance 19 = .ok (.invokestatic 32, 3) := by decide +kernel
theorem dX6_chance_22 : decode cX6_chance 22 = .ok (.ifCond .ne 7, 3) := by decide +kernel
theorem dX6_chance_25 : decode cX6_chance 25 = .ok (.ldc2_w 178, 3) := by decide +kernel
theorem dX6_chance_28 : decode cX6_chance 28 = .ok (.lreturn, 1) := by decide +kernel
theorem dX6_chance_29 : decode cX6_chance 29 = .ok (.aload_n 0, 1) := by decide +kernel
theorem dX6_chance_30 : decode cX6_chance 30 = .ok (.iload_n 1, 1) := by decide +kernel
theorem dX6_chance_31 : decode cX6_chance 31 = .ok (.iload_n 2, 1) := by decide +kernel
theorem dX6_chance_32 : decode cX6_chance 32 = .ok (.invokevirtual 180, 3) := by decide +kernel
theorem dX6_chance_35 : decode cX6_chance 35 = .ok (.ldc2_w 184, 3) := by decide +kernel
theorem dX6_chance_38 : decode cX6_chance 38 = .ok (.iload_n 3, 1) := by decide +kernel
theorem dX6_chance_39 : decode cX6_chance 39 = .ok (.invokestatic 186, 3) := by decide +kernel
theorem dX6_chance_42 : decode cX6_chance 42 = .ok (.lreturn, 1) := by decide +kernel
theorem dX6_count1_0 : decode cX6_count1 0 = .ok (.iconst 0, 1) := by decide +kernel
theorem dX6_count1_1 : decode cX6_count1 1 = .ok (.istore_n 1, 1) := by decide +kernel
theorem dX6_count1_2 : decode cX6_count1 2 = .ok (.iconst 0, 1) := by decide +kernel
theorem dX6_count1_3 : decode cX6_count1 3 = .ok (.istore_n 2, 1) := by decide +kernel
theorem dX6_count1_4 : decode cX6_count1 4 = .ok (.iload_n 2, 1) := by decide +kernel
theorem dX6_count1_5 : decode cX6_count1 5 = .ok (.bipush 30, 2) := by decide +kernel
theorem dX6_count1_7 : decode cX6_count1 7 = .ok (.if_icmp .ge 17, 3) := by decide +kernel
theorem dX6_count1_10 : decode cX6_count1 10 = .ok (.iload_n 1, 1) := by decide +kernel
theorem dX6_count1_11 : decode cX6_count1 11 = .ok (.iload_n 0, 1) := by decide +kernel
theorem dX6_count1_12 : decode cX6_count1 12 = .ok (.iload_n 2, 1) := by decide +kernel
theorem dX6_count1_13 : decode cX6_count1 13 = .ok (.ishr, 1) := by decide +kernel
theorem dX6_count1_14 : decode cX6_count1 14 = .ok (.iconst 1, 1) := by decide +kernel
theorem dX6_count1_15 : decode cX6_count1 15 = .ok (.iand, 1) := by decide +kernel
theorem dX6_count1_16 : decode cX6_count1 16 = .ok (.iadd, 1) := by decide +kernel
theorem dX6_count1_17 : decode cX6_count1 17 = .ok (.istore_n 1, 1) := by decide +kernel
theorem dX6_count1_18 : decode cX6_count1 18 = .ok (.iinc 2 1, 3) := by decide +kernel
theorem dX6_count1_21 : decode cX6_count1 21 = .ok (.goto (-17), 3) := by decide +kernel
theorem dX6_count1_24 : decode cX6_count1 24 = .ok (.iload_n 1, 1) := by decide +kernel
theorem dX6_count1_25 : decode cX6_count1 25 = .ok (.ireturn, 1) := by decide +kernel
set_option maxRecDepth 20000 in
theorem ggX6_isFew_X6_in : GoodIn wsX6_isFew wsX6_in := goodIn_r _ [5] (by decide +kernel) (by decide +kernel)
set_option maxRecDepth 20000 in
theorem gX6_isFew_X6_in : GoodIn wsX6_isFew (va_wsS RX6 32 yX6_in wsX6_in) := goodIn_app (goodIn_of _ (by decide +kernel)) ggX6_isFew_X6_in
set_option maxRecDepth 20000 in
theorem ggX6_isFew_X6_count1 : GoodIn wsX6_isFew wsX6_count1 := goodIn_r _ [8] (by decide +kernel) (by decide +kernel)
set_option maxRecDepth 20000 in
theorem gX6_isFew_X6_count1 : GoodIn wsX6_isFew (va_wsS RX6 190 yX6_count1 wsX6_count1) := goodIn_app (goodIn_of _ (by decide +kernel)) ggX6_isFew_X6_count1
theorem dX6_isFew_0 : decode cX6_isFew 0 = .ok (.aload_n 0, 1) := by decide +kernel
theorem dX6_isFew_1 : decode cX6_isFew 1 = .ok (.getfield 9, 3) := by decide +kernel
theorem dX6_isFew_4 : decode cX6_isFew 4 = .ok (.iconst 2, 1) := by decide +kernel
theorem dX6_isFew_5 : decode cX6_isFew 5 = .ok (.iaload, 1) := by decide +kernel
theorem dX6_isFew_6 : decode cX6_isFew 6 = .ok (.bipush 30, 2) := by decide +kernel
theorem dX6_isFew_8 : decode cX6_isFew 8 = .ok (.if_icmp .le 8, 3) := by decide +kernel
theorem dX6_isFew_11 : decode cX6_isFew 11 = .ok (.bipush 30, 2) := by decide +kernel
theorem dX6_isFew_13 : decode cX6_isFew 13 = .ok (.goto 9, 3) := by decide +kernel
theorem dX6_isFew_16 : decode cX6_isFew 16 = .ok (.aload_n 0, 1) := by decide +kernel
theorem dX6_isFew_17 : decode cX6_isFew 17 = .ok (.getfield 9, 3) := by decide +kernel
theorem dX6_isFew_20 : decode cX6_isFew 20 = .ok (.iconst 2, 1) := by decide +kernel
theorem dX6_isFew_21 : decode cX6_isFew 21 = .ok (.iaload, 1) := by decide +kernel
theorem dX6_isFew_22 : decode cX6_isFew 22 = .ok (.istore_n 2, 1) := by decide +kernel
theorem dX6_isFew_23 : decode cX6_isFew 23 = .ok (.iload_n 1, 1) := by decide +kernel
theorem dX6_isFew_24 : decode cX6_isFew 24 = .ok (.iconst 0, 1) := by decide +kernel
theorem dX6_isFew_25 : decode cX6_isFew 25 = .ok (.iconst 1, 1) := by decide +kernel
theorem dX6_isFew_26 : decode cX6_isFew 26 = .ok (.iload_n 2, 1) := by decide +kernel
theorem dX6_isFew_27 : decode cX6_isFew 27 = .ok (.ishl, 1) := by decide +kernel
theorem dX6_isFew_28 : decode cX6_isFew 28 = .ok (.iconst 1, 1) := by decide +kernel
theorem dX6_isFew_29 : decode cX6_isFew 29 = .ok (.isub, 1) := by decide +kernel
theorem dX6_isFew_30 : decode cX6_isFew 30 = .ok (.invokestatic 32, 3) := by decide +kernel
theorem dX6_isFew_33 : decode cX6_isFew 33 = .ok (.ifCond .eq 16, 3) := by decide +kernel
theorem dX6_isFew_36 : decode cX6_isFew 36 = .ok (.iload_n 1, 1) := by decide +kernel
theorem dX6_isFew_37 : decode cX6_isFew 37 = .ok (.invokestatic 190, 3) := by decide +kernel
theorem dX6_isFew_40 : decode cX6_isFew 40 = .ok (.bipush 8, 2) := by decide +kernel
theorem dX6_isFew_42 : decode cX6_isFew 42 = .ok (.if_icmp .gt 7, 3) := by decide +kernel
theorem dX6_isFew_45 : decode cX6_isFew 45 = .ok (.iconst 1, 1) := by decide +kernel
theorem dX6_isFew_46 : decode cX6_isFew 46 = .ok (.goto 4, 3) := by decide +kernel
theorem dX6_isFew_49 : decode cX6_isFew 49 = .ok (.iconst 0, 1) := by decide +kernel
theorem dX6_isFew_50 : decode cX6_isFew 50 = .ok (.ireturn, 1) := by decide +kernel
set_option maxRecDepth 20000 in
theorem ggX6_oddsOf_X6_chanceOf : GoodIn wsX6_oddsOf wsX6_chanceOf := goodIn_r _ [5, 6, 7, 8, 9, 4, 10, 11, 12, 13, 14, 15, 16, 17, 18, 19, 20, 21, 22, 23, 24, 25, 26, 27, 28, 29, 30, 31, 32, 33, 34, 35, 36, 37, 38, 39, 40, 41, 42, 43, 44, 45, 46, 47, 48, 49, 50, 51, 52, 53, 54, 55, 56, 57, 58, 59, 60, 61, 62, 63, 64, 65] (by decide +kernel) (by decide +kernel)
set_option maxRecDepth 20000 in
theorem gX6_oddsOf_X6_chanceOf : GoodIn wsX6_oddsOf (wsV RX6 180 RX6 yX6_chanceOf wsX6_chanceOf) := goodIn_app (goodIn_of _ (by decide +kernel)) ggX6_oddsOf_X6_chanceOf
theorem dX6_oddsOf_0 : decode cX6_oddsOf 0 = .ok (.lconst 1, 1) := by decide +kernel
theorem dX6_oddsOf_1 : decode cX6_oddsOf 1 = .ok (.lstore_n 3, 1) := by decide +kernel
theorem dX6_oddsOf_2 : decode cX6_oddsOf 2 = .ok (.iconst 0, 1) := by decide +kernel
theorem dX6_oddsOf_3 : decode cX6_oddsOf 3 = .ok (.istore 5, 2) := by decide +kernel
theorem dX6_oddsOf_5 : decode cX6_oddsOf 5 = .ok (.iload 5, 2) := by decide +kernel
theorem dX6_oddsOf_7 : decode cX6_oddsOf 7 = .ok (.bipush 30, 2) := by decide +kernel
theorem dX6_oddsOf_9 : decode cX6_oddsOf 9 = .ok (.if_icmp .ge 33, 3) := by decide +kernel
theorem dX6_oddsOf_12 : decode cX6_oddsOf 12 = .ok (.iload_n 2, 1) := by decide +kernel
theorem dX6_oddsOf_13 : decode cX6_oddsOf 13 = .ok (.iload 5, 2) := by decide +kernel
theorem dX6_oddsOf_15 : decode cX6_oddsOf 15 = .ok (.ishr, 1) := by decide +kernel
theorem dX6_oddsOf_16 : decode cX6_oddsOf 16 = .ok (.iconst 1, 1) := by decide +kernel
theorem dX6_oddsOf_17 : decode cX6_oddsOf 17 = .ok (.iand, 1) := by decide +kernel
theorem dX6_oddsOf_18 : decode cX6_oddsOf 18 = .ok (.iconst 1, 1) := by decide +kernel
theorem dX6_oddsOf_19 : decode cX6_oddsOf 19 = .ok (.if_icmp .ne 15, 3) := by decide +kernel
theorem dX6_oddsOf_22 : decode cX6_oddsOf 22 = .ok (.lload_n 3, 1) := by decide +kernel
theorem dX6_oddsOf_23 : decode cX6_oddsOf 23 = .ok (.aload_n 0, 1) := by decide +kernel
theorem dX6_oddsOf_24 : decode cX6_oddsOf 24 = .ok (.iload_n 1, 1) := by decide +kernel
theorem dX6_oddsOf_25 : decode cX6_oddsOf 25 = .ok (.iload 5, 2) := by decide +kernel
theorem dX6_oddsOf_27 : decode cX6_oddsOf 27 = .ok (.invokevirtual 180, 3) := by decide +kernel
theorem dX6_oddsOf_30 : decode cX6_oddsOf 30 = .ok (.lmul, 1) := by decide +kernel
theorem dX6_oddsOf_31 : decode cX6_oddsOf 31 = .ok (.goto 4, 3) := by decide +kernel
theorem dX6_oddsOf_34 : decode cX6_oddsOf 34 = .ok (.lload_n 3, 1) := by decide +kernel
theorem dX6_oddsOf_35 : decode cX6_oddsOf 35 = .ok (.lstore_n 3, 1) := by decide +kernel
theorem dX6_oddsOf_36 : decode cX6_oddsOf 36 = .ok (.iinc 5 1, 3) := by decide +kernel
theorem dX6_oddsOf_39 : decode cX6_oddsOf 39 = .ok (.goto (-34), 3) := by decide +kernel
theorem dX6_oddsOf_42 : decode cX6_oddsOf 42 = .ok (.lload_n 3, 1) := by decide +kernel
theorem dX6_oddsOf_43 : decode cX6_oddsOf 43 = .ok (.lreturn, 1) := by decide +kernel
set_option maxRecDepth 20000 in
theorem ggX6_odds_X6_isLaw : GoodIn wsX6_odds wsX6_isLaw := goodIn_r _ [7, 8, 9, 10, 6, 11, 74, 75, 76, 77, 78, 79, 80, 81, 82, 83, 84, 85, 86, 87, 88, 89, 90, 91] (by decide +kernel) (by decide +kernel)
set_option maxRecDepth 20000 in
theorem gX6_odds_X6_isLaw : GoodIn wsX6_odds (wsV RX6 135 RX6 yX6_isLaw wsX6_isLaw) := goodIn_app (goodIn_of _ (by decide +kernel)) ggX6_odds_X6_isLaw
set_option maxRecDepth 20000 in
theorem ggX6_odds_X6_isFew : GoodIn wsX6_odds wsX6_isFew := goodIn_r _ [15, 8, 9, 10, 6, 11, 16, 17, 18, 74, 75, 76, 77, 78, 79, 80, 81, 82, 83, 84, 85, 86, 87, 88, 89, 90, 91] (by decide +kernel) (by decide +kernel)
set_option maxRecDepth 20000 in
theorem gX6_odds_X6_isFew : GoodIn wsX6_odds (wsV RX6 193 RX6 yX6_isFew wsX6_isFew) := goodIn_app (goodIn_of _ (by decide +kernel)) ggX6_odds_X6_isFew
set_option maxRecDepth 20000 in
theorem ggX6_odds_X6_in : GoodIn wsX6_odds wsX6_in := goodIn_r _ [11] (by decide +kernel) (by decide +kernel)
set_option maxRecDepth 20000 in
theorem gX6_odds_X6_in : GoodIn wsX6_odds (va_wsS RX6 32 yX6_in wsX6_in) := goodIn_app (goodIn_of _ (by decide +kernel)) ggX6_odds_X6_in
set_option maxRecDepth 20000 in
theorem ggX6_odds_X6_count1 : GoodIn wsX6_odds wsX6_count1 := goodIn_r _ [18] (by decide +kernel) (by decide +kernel)
set_option maxRecDepth 20000 in
theorem gX6_odds_X6_count1 : GoodIn wsX6_odds (va_wsS RX6 190 yX6_count1 wsX6_count1) := goodIn_app (goodIn_of _ (by decide +kernel)) ggX6_odds_X6_count1
set_option maxRecDepth 20000 in
theorem ggX6_odds_X6_oddsOf : GoodIn wsX6_odds wsX6_oddsOf := goodIn_r _ [22, 23, 24, 25, 6, 26, 8, 27, 28, 29, 30, 31, 32, 33, 34, 35, 36, 37, 38, 39, 40, 41, 42, 43, 44, 45, 46, 47, 48, 49, 50, 51, 52, 53, 54, 55, 56, 57, 58, 59, 60, 61, 62, 63, 64, 65, 66, 67, 74, 75, 76, 77, 78, 79, 80, 81, 82, 83, 84, 85, 86, 87, 88, 89, 90, 91] (by decide +kernel) (by decide +kernel)
set_option maxRecDepth 20000 in
theorem gX6_odds_X6_oddsOf : GoodIn wsX6_odds (wsV RX6 196 RX6 yX6_oddsOf wsX6_oddsOf) := goodIn_app (goodIn_of _ (by decide +kernel)) ggX6_odds_X6_oddsOf
set_option maxRecDepth 20000 in
theorem ggX6_odds_X6_lowest : GoodIn wsX6_odds wsX6_lowest := goodIn_r _ [70, 71, 72, 6, 73] (by decide +kernel) (by decide +kernel)
set_option maxRecDepth 20000 in
theorem gX6_odds_X6_lowest : GoodIn wsX6_odds (va_wsS RX6 186 yX6_lowest wsX6_lowest) := goodIn_app (goodIn_of _ (by decide +kernel)) ggX6_odds_X6_lowest
theorem dX6_odds_0 : decode cX6_odds 0 = .ok (.aload_n 0, 1) := by decide +kernel
theorem dX6_odds_1 : decode cX6_odds 1 = .ok (.iload_n 1, 1) := by decide +kernel
theorem dX6_odds_2 : decode cX6_odds 2 = .ok (.invokevirtual 135, 3) := by decide +kernel
theorem dX6_odds_5 : decode cX6_odds 5 = .ok (.ifCond .eq 20, 3) := by decide +kernel
theorem dX6_odds_8 : decode cX6_odds 8 = .ok (.aload_n 0, 1) := by decide +kernel
theorem dX6_odds_9 : decode cX6_odds 9 = .ok (.iload_n 2, 1) := by decide +kernel
theorem dX6_odds_10 : decode cX6_odds 10 = .ok (.invokevirtual 193, 3) := by decide +kernel
theorem dX6_odds_13 : decode cX6_odds 13 = .ok (.ifCond .eq 12, 3) := by decide +kernel
theorem dX6_odds_16 : decode cX6_odds 16 = .ok (.iload_n 3, 1) := by decide +kernel
theorem dX6_odds_17 : decode cX6_odds 17 = .ok (.iconst 0, 1) := by decide +kernel
theorem dX6_odds_18 : decode cX6_odds 18 = .ok (.iconst 1, 1) := by decide +kernel
theorem dX6_odds_19 : decode cX6_odds 19 = .ok (.invokestatic 32, 3) := by decide +kernel
theorem dX6_odds_22 : decode cX6_odds 22 = .ok (.ifCond .ne 7, 3) := by decide +kernel
theorem dX6_odds_25 : decode cX6_odds 25 = .ok (.ldc2_w 178, 3) := by decide +kernel
theorem dX6_odds_28 : decode cX6_odds 28 = .ok (.lreturn, 1) := by decide +kernel
theorem dX6_odds_29 : decode cX6_odds 29 = .ok (.lconst 1, 1) := by decide +kernel
theorem dX6_odds_30 : decode cX6_odds 30 = .ok (.lstore 4, 2) := by decide +kernel
theorem dX6_odds_32 : decode cX6_odds 32 = .ok (.iload_n 2, 1) := by decide +kernel
theorem dX6_odds_33 : decode cX6_odds 33 = .ok (.invokestatic 190, 3) := by decide +kernel
theorem dX6_odds_36 : decode cX6_odds 36 = .ok (.istore 6, 2) := by decide +kernel
theorem dX6_odds_38 : decode cX6_odds 38 = .ok (.iload 6, 2) := by decide +kernel
theorem dX6_odds_40 : decode cX6_odds 40 = .ok (.ifCond .le 17, 3) := by decide +kernel
theorem dX6_odds_43 : decode cX6_odds 43 = .ok (.lload 4, 2) := by decide +kernel
theorem dX6_odds_45 : decode cX6_odds 45 = .ok (.ldc2_w 184, 3) := by decide +kernel
theorem dX6_odds_48 : decode cX6_odds 48 = .ok (.lmul, 1) := by decide +kernel
theorem dX6_odds_49 : decode cX6_odds 49 = .ok (.lstore 4, 2) := by decide +kernel
theorem dX6_odds_51 : decode cX6_odds 51 = .ok (.iinc 6 (-1), 3) := by decide +kernel
theorem dX6_odds_54 : decode cX6_odds 54 = .ok (.goto (-16), 3) := by decide +kernel
theorem dX6_odds_57 : decode cX6_odds 57 = .ok (.aload_n 0, 1) := by decide +kernel
theorem dX6_odds_58 : decode cX6_odds 58 = .ok (.iload_n 1, 1) := by decide +kernel
theorem dX6_odds_59 : decode cX6_odds 59 = .ok (.iload_n 2, 1) := by decide +kernel
theorem dX6_odds_60 : decode cX6_odds 60 = .ok (.invokevirtual 196, 3) := by decide +kernel
theorem dX6_odds_63 : decode cX6_odds 63 = .ok (.lload 4, 2) := by decide +kernel
theorem dX6_odds_65 : decode cX6_odds 65 = .ok (.iload_n 3, 1) := by decide +kernel
theorem dX6_odds_66 : decode cX6_odds 66 = .ok (.invokestatic 186, 3) := by decide +kernel
theorem dX6_odds_69 : decode cX6_odds 69 = .ok (.lreturn, 1) := by decide +kernel
set_option maxRecDepth 20000 in
theorem ggX6_cannot_X6_isLaw : GoodIn wsX6_cannot wsX6_isLaw := goodIn_r _ [6, 1, 7, 8, 5, 9, 55, 56, 57, 58, 59, 60, 61, 62, 63, 64, 65, 66, 67, 68, 69, 70, 71, 72] (by decide +kernel) (by decide +kernel)
set_option maxRecDepth 20000 in
theorem gX6_cannot_X6_isLaw : GoodIn wsX6_cannot (wsV RX6 135 RX6 yX6_isLaw wsX6_isLaw) := goodIn_app (goodIn_of _ (by decide +kernel)) ggX6_cannot_X6_isLaw
set_option maxRecDepth 20000 in
theorem ggX6_cannot_X6_chanceOf : GoodIn wsX6_cannot wsX6_chanceOf := goodIn_r _ [13, 1, 14, 15, 16, 5, 17, 18, 19, 20, 21, 22, 23, 24, 25, 26, 27, 28, 29, 30, 31, 32, 33, 34, 35, 36, 37, 38, 39, 40, 41, 42, 43, 44, 45, 46, 47, 48, 49, 50, 51, 52, 53, 54, 55, 56, 57, 58, 59, 60, 61, 62, 63, 64, 65, 66, 67, 68, 69, 70, 71, 72] (by decide +kernel) (by decide +kernel)
set_option maxRecDepth 20000 in
theorem gX6_cannot_X6_chanceOf : GoodIn wsX6_cannot (wsV RX6 180 RX6 yX6_chanceOf wsX6_chanceOf) := goodIn_app (goodIn_of _ (by decide +kernel)) ggX6_cannot_X6_chanceOf
theorem dX6_cannot_0 : decode cX6_cannot 0 = .ok (.aload_n 0, 1) := by decide +kernel
theorem dX6_cannot_1 : decode cX6_cannot 1 = .ok (.iload_n 1, 1) := by decide +kernel
theorem dX6_cannot_2 : decode cX6_cannot 2 = .ok (.invokevirtual 135, 3) := by decide +kernel
theorem dX6_cannot_5 : decode cX6_cannot 5 = .ok (.ifCond .ne 5, 3) := by decide +kernel
theorem dX6_cannot_8 : decode cX6_cannot 8 = .ok (.iconst (-1), 1) := by decide +kernel
theorem dX6_cannot_9 : decode cX6_cannot 9 = .ok (.ireturn, 1) := by decide +kernel
theorem dX6_cannot_10 : decode cX6_cannot 10 = .ok (.iconst 0, 1) := by decide +kernel
theorem dX6_cannot_11 : decode cX6_cannot 11 = .ok (.istore_n 2, 1) := by decide +kernel
theorem dX6_cannot_12 : decode cX6_cannot 12 = .ok (.iload_n 2, 1) := by decide +kernel
theorem dX6_cannot_13 : decode cX6_cannot 13 = .ok (.aload_n 0, 1) := by decide +kernel
theorem dX6_cannot_14 : decode cX6_cannot 14 = .ok (.getfield 9, 3) := by decide +kernel
theorem dX6_cannot_17 : decode cX6_cannot 17 = .ok (.iconst 2, 1) := by decide +kernel
theorem dX6_cannot_18 : decode cX6_cannot 18 = .ok (.iaload, 1) := by decide +kernel
theorem dX6_cannot_19 : decode cX6_cannot 19 = .ok (.if_icmp .ge 22, 3) := by decide +kernel
theorem dX6_cannot_22 : decode cX6_cannot 22 = .ok (.aload_n 0, 1) := by decide +kernel
theorem dX6_cannot_23 : decode cX6_cannot 23 = .ok (.iload_n 1, 1) := by decide +kernel
theorem dX6_cannot_24 : decode cX6_cannot 24 = .ok (.iload_n 2, 1) := by decide +kernel
theorem dX6_cannot_25 : decode cX6_cannot 25 = .ok (.invokevirtual 180, 3) := by decide +kernel
theorem dX6_cannot_28 : decode cX6_cannot 28 = .ok (.lconst 0, 1) := by decide +kernel
theorem dX6_cannot_29 : decode cX6_cannot 29 = .ok (.lcmp, 1) := by decide +kernel
theorem dX6_cannot_30 : decode cX6_cannot 30 = .ok (.ifCond .ne 5, 3) := by decide +kernel
theorem dX6_cannot_33 : decode cX6_cannot 33 = .ok (.iload_n 2, 1) := by decide +kernel
theorem dX6_cannot_34 : decode cX6_cannot 34 = .ok (.ireturn, 1) := by decide +kernel
theorem dX6_cannot_35 : decode cX6_cannot 35 = .ok (.iinc 2 1, 3) := by decide +kernel
theorem dX6_cannot_38 : decode cX6_cannot 38 = .ok (.goto (-26), 3) := by decide +kernel
theorem dX6_cannot_41 : decode cX6_cannot 41 = .ok (.bipush (-5), 2) := by decide +kernel
theorem dX6_cannot_43 : decode cX6_cannot 43 = .ok (.ireturn, 1) := by decide +kernel
set_option maxRecDepth 20000 in
theorem ggX6_rightOf_X6_isAsTold : GoodIn wsX6_rightOf wsX6_isAsTold := goodIn_r _ [6, 1, 7, 8, 9, 5, 10, 11, 12, 13, 14, 15, 16, 17, 18, 19, 20, 21, 22, 23, 24, 25, 26, 27, 28, 29, 30, 31, 32, 33, 34, 35, 36, 37, 38, 39, 40, 41, 42, 43, 44, 45, 46, 47, 48, 49, 50, 51, 52, 53, 54, 55, 56, 57, 58, 59, 60, 61] (by decide +kernel) (by decide +kernel)
set_option maxRecDepth 20000 in
theorem gX6_rightOf_X6_isAsTold : GoodIn wsX6_rightOf (wsV RX6 174 RX6 yX6_isAsTold wsX6_isAsTold) := goodIn_app (goodIn_of _ (by decide +kernel)) ggX6_rightOf_X6_isAsTold
theorem dX6_rightOf_0 : decode cX6_rightOf 0 = .ok (.iconst 0, 1) := by decide +kernel
theorem dX6_rightOf_1 : decode cX6_rightOf 1 = .ok (.istore_n 3, 1) := by decide +kernel
theorem dX6_rightOf_2 : decode cX6_rightOf 2 = .ok (.iconst 0, 1) := by decide +kernel
theorem dX6_rightOf_3 : decode cX6_rightOf 3 = .ok (.istore 4, 2) := by decide +kernel
theorem dX6_rightOf_5 : decode cX6_rightOf 5 = .ok (.iload 4, 2) := by decide +kernel
theorem dX6_rightOf_7 : decode cX6_rightOf 7 = .ok (.aload_n 0, 1) := by decide +kernel
theorem dX6_rightOf_8 : decode cX6_rightOf 8 = .ok (.getfield 9, 3) := by decide +kernel
theorem dX6_rightOf_11 : decode cX6_rightOf 11 = .ok (.iconst 2, 1) := by decide +kernel
theorem dX6_rightOf_12 : decode cX6_rightOf 12 = .ok (.iaload, 1) := by decide +kernel
theorem dX6_rightOf_13 : decode cX6_rightOf 13 = .ok (.if_icmp .ge 47, 3) := by decide +kernel
theorem dX6_rightOf_16 : decode cX6_rightOf 16 = .ok (.iload_n 3, 1) := by decide +kernel
theorem dX6_rightOf_17 : decode cX6_rightOf 17 = .ok (.iload_n 2, 1) := by decide +kernel
theorem dX6_rightOf_18 : decode cX6_rightOf 18 = .ok (.iconst (-1), 1) := by decide +kernel
theorem dX6_rightOf_19 : decode cX6_rightOf 19 = .ok (.if_icmp .eq 18, 3) := by decide +kernel
theorem dX6_rightOf_22 : decode cX6_rightOf 22 = .ok (.aload_n 0, 1) := by decide +kernel
theorem dX6_rightOf_23 : decode cX6_rightOf 23 = .ok (.getfield 9, 3) := by decide +kernel
theorem dX6_rightOf_26 : decode cX6_rightOf 26 = .ok (.sipush 282, 3) := by decide +kernel
theorem dX6_rightOf_29 : decode cX6_rightOf 29 = .ok (.iload 4, 2) := by decide +kernel
theorem dX6_rightOf_31 : decode cX6_rightOf 31 = .ok (.iadd, 1) := by decide +kernel
theorem dX6_rightOf_32 : decode cX6_rightOf 32 = .ok (.iaload, 1) := by decide +kernel
theorem dX6_rightOf_33 : decode cX6_rightOf 33 = .ok (.iload_n 2, 1) := by decide +kernel
theorem dX6_rightOf_34 : decode cX6_rightOf 34 = .ok (.if_icmp .ne 17, 3) := by decide +kernel
theorem dX6_rightOf_37 : decode cX6_rightOf 37 = .ok (.aload_n 0, 1) := by decide +kernel
theorem dX6_rightOf_38 : decode cX6_rightOf 38 = .ok (.iload_n 1, 1) := by decide +kernel
theorem dX6_rightOf_39 : decode cX6_rightOf 39 = .ok (.iload 4, 2) := by decide +kernel
theorem dX6_rightOf_41 : decode cX6_rightOf 41 = .ok (.invokevirtual 174, 3) := by decide +kernel
theorem dX6_rightOf_44 : decode cX6_rightOf 44 = .ok (.ifCond .eq 7, 3) := by decide +kernel
theorem dX6_rightOf_47 : decode cX6_rightOf 47 = .ok (.iconst 1, 1) := by decide +kernel
theorem dX6_rightOf_48 : decode cX6_rightOf 48 = .ok (.goto 4, 3) := by decide +kernel
theorem dX6_rightOf_51 : decode cX6_rightOf 51 = .ok (.iconst 0, 1) := by decide +kernel
theorem dX6_rightOf_52 : decode cX6_rightOf 52 = .ok (.iadd, 1) := by decide +kernel
theorem dX6_rightOf_53 : decode cX6_rightOf 53 = .ok (.istore_n 3, 1) := by decide +kernel
theorem dX6_rightOf_54 : decode cX6_rightOf 54 = .ok (.iinc 4 1, 3) := by decide +kernel
theorem dX6_rightOf_57 : decode cX6_rightOf 57 = .ok (.goto (-52), 3) := by decide +kernel
theorem dX6_rightOf_60 : decode cX6_rightOf 60 = .ok (.iload_n 3, 1) := by decide +kernel
theorem dX6_rightOf_61 : decode cX6_rightOf 61 = .ok (.ireturn, 1) := by decide +kernel
set_option maxRecDepth 20000 in
theorem ggX6_right_X6_isLaw : GoodIn wsX6_right wsX6_isLaw := goodIn_r _ [5, 6, 7, 8, 4, 9, 55, 56, 57, 58, 59, 60, 61, 62, 63, 64, 65, 66, 67, 68, 69, 70, 71, 72] (by decide +kernel) (by decide +kernel)
set_option maxRecDepth 20000 in
theorem gX6_right_X6_isLaw : GoodIn wsX6_right (wsV RX6 135 RX6 yX6_isLaw wsX6_isLaw) := goodIn_app (goodIn_of _ (by decide +kernel)) ggX6_right_X6_isLaw
set_option maxRecDepth 20000 in
theorem ggX6_right_X6_rightOf : GoodIn wsX6_right wsX6_rightOf := goodIn_r _ [13, 6, 14, 15, 16, 4, 17, 18, 19, 20, 21, 22, 23, 24, 25, 26, 27, 28, 29, 30, 31, 32, 33, 34, 35, 36, 37, 38, 39, 40, 41, 42, 43, 44, 45, 46, 47, 48, 49, 50, 51, 52, 53, 54, 55, 56, 57, 58, 59, 60, 61, 62, 63, 64, 65, 66, 67, 68, 69, 70, 71, 72] (by decide +kernel) (by decide +kernel)
set_option maxRecDepth 20000 in
theorem gX6_right_X6_rightOf : GoodIn wsX6_right (wsV RX6 199 RX6 yX6_rightOf wsX6_rightOf) := goodIn_app (goodIn_of _ (by decide +kernel)) ggX6_right_X6_rightOf
theorem dX6_right_0 : decode cX6_right 0 = .ok (.aload_n 0, 1) := by decide +kernel
theorem dX6_right_1 : decode cX6_right 1 = .ok (.iload_n 1, 1) := by decide +kernel
theorem dX6_right_2 : decode cX6_right 2 = .ok (.invokevirtual 135, 3) := by decide +kernel
theorem dX6_right_5 : decode cX6_right 5 = .ok (.ifCond .eq 12, 3) := by decide +kernel
theorem dX6_right_8 : decode cX6_right 8 = .ok (.aload_n 0, 1) := by decide +kernel
theorem dX6_right_9 : decode cX6_right 9 = .ok (.iload_n 1, 1) := by decide +kernel
theorem dX6_right_10 : decode cX6_right 10 = .ok (.iconst (-1), 1) := by decide +kernel
theorem dX6_right_11 : decode cX6_right 11 = .ok (.invokevirtual 199, 3) := by decide +kernel
theorem dX6_right_14 : decode cX6_right 14 = .ok (.goto 4, 3) := by decide +kernel
theorem dX6_right_17 : decode cX6_right 17 = .ok (.iconst (-1), 1) := by decide +kernel
theorem dX6_right_18 : decode cX6_right 18 = .ok (.ireturn, 1) := by decide +kernel
set_option maxRecDepth 20000 in
theorem ggX6_likeliest_X6_isFew : GoodIn wsX6_likeliest wsX6_isFew := goodIn_r _ [7, 2, 8, 9, 6, 10, 11, 12, 13, 63, 64, 65, 66, 67, 68, 69, 70, 71, 72, 73, 74, 75, 76, 77, 78, 79, 80] (by decide +kernel) (by decide +kernel)
set_option maxRecDepth 20000 in
theorem gX6_likeliest_X6_isFew : GoodIn wsX6_likeliest (wsV RX6 193 RX6 yX6_isFew wsX6_isFew) := goodIn_app (goodIn_of _ (by decide +kernel)) ggX6_likeliest_X6_isFew
set_option maxRecDepth 20000 in
theorem ggX6_likeliest_X6_oddsOf : GoodIn wsX6_likeliest wsX6_oddsOf := goodIn_r _ [17, 18, 19, 20, 6, 21, 2, 22, 23, 24, 25, 26, 27, 28, 29, 30, 31, 32, 33, 34, 35, 36, 37, 38, 39, 40, 41, 42, 43, 44, 45, 46, 47, 48, 49, 50, 51, 52, 53, 54, 55, 56, 57, 58, 59, 60, 61, 62, 63, 64, 65, 66, 67, 68, 69, 70, 71, 72, 73, 74, 75, 76, 77, 78, 79, 80] (by decide +kernel) (by decide +kernel)
set_option maxRecDepth 20000 in
theorem gX6_likeliest_X6_oddsOf : GoodIn wsX6_likeliest (wsV RX6 196 RX6 yX6_oddsOf wsX6_oddsOf) := goodIn_app (goodIn_of _ (by decide +kernel)) ggX6_likeliest_X6_oddsOf
theorem dX6_likeliest_0 : decode cX6_likeliest 0 = .ok (.aload_n 0, 1) := by decide +kernel
theorem dX6_likeliest_1 : decode cX6_likeliest 1 = .ok (.iload_n 1, 1) := by decide +kernel
theorem dX6_likeliest_2 : decode cX6_likeliest 2 = .ok (.invokevirtual 193, 3) := by decide +kernel
theorem dX6_likeliest_5 : decode cX6_likeliest 5 = .ok (.ifCond .ne 6, 3) := by decide +kernel
theorem dX6_likeliest_8 : decode cX6_likeliest 8 = .ok (.bipush (-2), 2) := by decide +kernel
theorem dX6_likeliest_10 : decode cX6_likeliest 10 = .ok (.ireturn, 1) := by decide +kernel
theorem dX6_likeliest_11 : decode cX6_likeliest 11 = .ok (.bipush (-5), 2) := by decide +kernel
theorem dX6_likeliest_13 : decode cX6_likeliest 13 = .ok (.istore_n 2, 1) := by decide +kernel
theorem dX6_likeliest_14 : decode cX6_likeliest 14 = .ok (.ldc2_w 202, 3) := by decide +kernel
theorem dX6_likeliest_17 : decode cX6_likeliest 17 = .ok (.lstore_n 3, 1) := by decide +kernel
theorem dX6_likeliest_18 : decode cX6_likeliest 18 = .ok (.iconst 0, 1) := by decide +kernel
theorem dX6_likeliest_19 : decode cX6_likeliest 19 = .ok (.istore 5, 2) := by decide +kernel
theorem dX6_likeliest_21 : decode cX6_likeliest 21 = .ok (.iload 5, 2) := by decide +kernel
theorem dX6_likeliest_23 : decode cX6_likeliest 23 = .ok (.aload_n 0, 1) := by decide +kernel
theorem dX6_likeliest_24 : decode cX6_likeliest 24 = .ok (.getfield 9, 3) := by decide +kernel
theorem dX6_likeliest_27 : decode cX6_likeliest 27 = .ok (.iconst 3, 1) := by decide +kernel
theorem dX6_likeliest_28 : decode cX6_likeliest 28 = .ok (.iaload, 1) := by decide +kernel
theorem dX6_likeliest_29 : decode cX6_likeliest 29 = .ok (.if_icmp .ge 46, 3) := by decide +kernel
theorem dX6_likeliest_32 : decode cX6_likeliest 32 = .ok (.aload_n 0, 1) := by decide +kernel
theorem dX6_likeliest_33 : decode cX6_likeliest 33 = .ok (.iload 5, 2) := by decide +kernel
theorem dX6_likeliest_35 : decode cX6_likeliest 35 = .ok (.iload_n 1, 1) := by decide +kernel
theorem dX6_likeliest_36 : decode cX6_likeliest 36 = .ok (.invokevirtual 196, 3) := by decide +kernel
theorem dX6_likeliest_39 : decode cX6_likeliest 39 = .ok (.lstore 6, 2) := by decide +kernel
theorem dX6_likeliest_41 : decode cX6_likeliest 41 = .ok (.lload 6, 2) := by decide +kernel
theorem dX6_likeliest_43 : decode cX6_likeliest 43 = .ok (.lload_n 3, 1) := by decide +kernel
theorem dX6_likeliest_44 : decode cX6_likeliest 44 = .ok (.lcmp, 1) := by decide +kernel
theorem dX6_likeliest_45 : decode cX6_likeliest 45 = .ok (.ifCond .le 8, 3) := by decide +kernel
theorem dX6_likeliest_48 : decode cX6_likeliest 48 = .ok (.iload 5, 2) := by decide +kernel
theorem dX6_likeliest_50 : decode cX6_likeliest 50 = .ok (.goto 4, 3) := by decide +kernel
theorem dX6_likeliest_53 : decode cX6_likeliest 53 = .ok (.iload_n 2, 1) := by decide +kernel
theorem dX6_likeliest_54 : decode cX6_likeliest 54 = .ok (.istore_n 2, 1) := by decide +kernel
theorem dX6_likeliest_55 : decode cX6_likeliest 55 = .ok (.lload 6, 2) := by decide +kernel
theorem dX6_likeliest_57 : decode cX6_likeliest 57 = .ok (.lload_n 3, 1) := by decide +kernel
theorem dX6_likeliest_58 : decode cX6_likeliest 58 = .ok (.lcmp, 1) := by decide +kernel
theorem dX6_likeliest_59 : decode cX6_likeliest 59 = .ok (.ifCond .le 8, 3) := by decide +kernel
theorem dX6_likeliest_62 : decode cX6_likeliest 62 = .ok (.lload 6, 2) := by decide +kernel
theorem dX6_likeliest_64 : decode cX6_likeliest 64 = .ok (.goto 4, 3) := by decide +kernel
theorem dX6_likeliest_67 : decode cX6_likeliest 67 = .ok (.lload_n 3, 1) := by decide +kernel
theorem dX6_likeliest_68 : decode cX6_likeliest 68 = .ok (.lstore_n 3, 1) := by decide +kernel
theorem dX6_likeliest_69 : decode cX6_likeliest 69 = .ok (.iinc 5 1, 3) := by decide +kernel
theorem dX6_likeliest_72 : decode cX6_likeliest 72 = .ok (.goto (-51), 3) := by decide +kernel
theorem dX6_likeliest_75 : decode cX6_likeliest 75 = .ok (.iload_n 2, 1) := by decide +kernel
theorem dX6_likeliest_76 : decode cX6_likeliest 76 = .ok (.ireturn, 1) := by decide +kernel
set_option maxRecDepth 20000 in
theorem ggX6_rule_X6_isChild : GoodIn wsX6_rule wsX6_isChild := goodIn_r _ [6, 1, 7, 8, 5, 9, 55, 56, 57, 58, 59, 60, 61, 62, 63, 64, 65, 66, 67, 68, 69, 70, 71, 72] (by decide +kernel) (by decide +kernel)
set_option maxRecDepth 20000 in
theorem gX6_rule_X6_isChild : GoodIn wsX6_rule (wsV RX6 36 RX6 yX6_isChild wsX6_isChild) := goodIn_app (goodIn_of _ (by decide +kernel)) ggX6_rule_X6_isChild
set_option maxRecDepth 20000 in
theorem ggX6_rule_X6_rightOf : GoodIn wsX6_rule wsX6_rightOf := goodIn_r _ [13, 1, 14, 15, 16, 5, 17, 18, 19, 20, 21, 22, 23, 24, 25, 26, 27, 28, 29, 30, 31, 32, 33, 34, 35, 36, 37, 38, 39, 40, 41, 42, 43, 44, 45, 46, 47, 48, 49, 50, 51, 52, 53, 54, 55, 56, 57, 58, 59, 60, 61, 62, 63, 64, 65, 66, 67, 68, 69, 70, 71, 72] (by decide +kernel) (by decide +kernel)
set_option maxRecDepth 20000 in
theorem gX6_rule_X6_rightOf : GoodIn wsX6_rule (wsV RX6 199 RX6 yX6_rightOf wsX6_rightOf) := goodIn_app (goodIn_of _ (by decide +kernel)) ggX6_rule_X6_rightOf
theorem dX6_rule_0 : decode cX6_rule 0 = .ok (.aload_n 0, 1) := by decide +kernel
theorem dX6_rule_1 : decode cX6_rule 1 = .ok (.iload_n 1, 1) := by decide +kernel
theorem dX6_rule_2 : decode cX6_rule 2 = .ok (.invokevirtual 36, 3) := by decide +kernel
theorem dX6_rule_5 : decode cX6_rule 5 = .ok (.ifCond .ne 5, 3) := by decide +kernel
theorem dX6_rule_8 : decode cX6_rule 8 = .ok (.iconst (-1), 1) := by decide +kernel
theorem dX6_rule_9 : decode cX6_rule 9 = .ok (.ireturn, 1) := by decide +kernel
theorem dX6_rule_10 : decode cX6_rule 10 = .ok (.iconst 0, 1) := by decide +kernel
theorem dX6_rule_11 : decode cX6_rule 11 = .ok (.istore_n 2, 1) := by decide +kernel
theorem dX6_rule_12 : decode cX6_rule 12 = .ok (.iconst 0, 1) := by decide +kernel
theorem dX6_rule_13 : decode cX6_rule 13 = .ok (.istore_n 3, 1) := by decide +kernel
theorem dX6_rule_14 : decode cX6_rule 14 = .ok (.iload_n 3, 1) := by decide +kernel
theorem dX6_rule_15 : decode cX6_rule 15 = .ok (.aload_n 0, 1) := by decide +kernel
theorem dX6_rule_16 : decode cX6_rule 16 = .ok (.getfield 9, 3) := by decide +kernel
theorem dX6_rule_19 : decode cX6_rule 19 = .ok (.iconst 2, 1) := by decide +kernel
theorem dX6_rule_20 : decode cX6_rule 20 = .ok (.iaload, 1) := by decide +kernel
theorem dX6_rule_21 : decode cX6_rule 21 = .ok (.if_icmp .ge 33, 3) := by decide +kernel
theorem dX6_rule_24 : decode cX6_rule 24 = .ok (.iload_n 2, 1) := by decide +kernel
theorem dX6_rule_25 : decode cX6_rule 25 = .ok (.ifCond .ne 17, 3) := by decide +kernel
theorem dX6_rule_28 : decode cX6_rule 28 = .ok (.aload_n 0, 1) := by decide +kernel
theorem dX6_rule_29 : decode cX6_rule 29 = .ok (.getfield 9, 3) := by decide +kernel
theorem dX6_rule_32 : decode cX6_rule 32 = .ok (.sipush 282, 3) := by decide +kernel
theorem dX6_rule_35 : decode cX6_rule 35 = .ok (.iload_n 3, 1) := by decide +kernel
theorem dX6_rule_36 : decode cX6_rule 36 = .ok (.iadd, 1) := by decide +kernel
theorem dX6_rule_37 : decode cX6_rule 37 = .ok (.iaload, 1) := by decide +kernel
theorem dX6_rule_38 : decode cX6_rule 38 = .ok (.iload_n 1, 1) := by decide +kernel
theorem dX6_rule_39 : decode cX6_rule 39 = .ok (.if_icmp .ne 7, 3) := by decide +kernel
theorem dX6_rule_42 : decode cX6_rule 42 = .ok (.iconst 1, 1) := by decide +kernel
theorem dX6_rule_43 : decode cX6_rule 43 = .ok (.goto 4, 3) := by decide +kernel
theorem dX6_rule_46 : decode cX6_rule 46 = .ok (.iconst 0, 1) := by decide +kernel
theorem dX6_rule_47 : decode cX6_rule 47 = .ok (.istore_n 2, 1) := by decide +kernel
theorem dX6_rule_48 : decode cX6_rule 48 = .ok (.iinc 3 1, 3) := by decide +kernel
theorem dX6_rule_51 : decode cX6_rule 51 = .ok (.goto (-37), 3) := by decide +kernel
theorem dX6_rule_54 : decode cX6_rule 54 = .ok (.bipush (-5), 2) := by decide +kernel
theorem dX6_rule_56 : decode cX6_rule 56 = .ok (.istore_n 3, 1) := by decide +kernel
theorem dX6_rule_57 : decode cX6_rule 57 = .ok (.iconst (-1), 1) := by decide +kernel
theorem dX6_rule_58 : decode cX6_rule 58 = .ok (.istore 4, 2) := by decide +kernel
theorem dX6_rule_60 : decode cX6_rule 60 = .ok (.iconst 0, 1) := by decide +kernel
theorem dX6_rule_61 : decode cX6_rule 61 = .ok (.istore 5, 2) := by decide +kernel
theorem dX6_rule_63 : decode cX6_rule 63 = .ok (.iload 5, 2) := by decide +kernel
theorem dX6_rule_65 : decode cX6_rule 65 = .ok (.aload_n 0, 1) := by decide +kernel
theorem dX6_rule_66 : decode cX6_rule 66 = .ok (.getfield 9, 3) := by decide +kernel
theorem dX6_rule_69 : decode cX6_rule 69 = .ok (.iconst 3, 1) := by decide +kernel
theorem dX6_rule_70 : decode cX6_rule 70 = .ok (.iaload, 1) := by decide +kernel
theorem dX6_rule_71 : decode cX6_rule 71 = .ok (.if_icmp .ge 52, 3) := by decide +kernel
theorem dX6_rule_74 : decode cX6_rule 74 = .ok (.iload_n 2, 1) := by decide +kernel
theorem dX6_rule_75 : decode cX6_rule 75 = .ok (.ifCond .eq 48, 3) := by decide +kernel
theorem dX6_rule_78 : decode cX6_rule 78 = .ok (.aload_n 0, 1) := by decide +kernel
theorem dX6_rule_79 : decode cX6_rule 79 = .ok (.iload 5, 2) := by decide +kernel
theorem dX6_rule_81 : decode cX6_rule 81 = .ok (.iload_n 1, 1) := by decide +kernel
theorem dX6_rule_82 : decode cX6_rule 82 = .ok (.invokevirtual 199, 3) := by decide +kernel
theorem dX6_rule_85 : decode cX6_rule 85 = .ok (.istore 6, 2) := by decide +kernel
theorem dX6_rule_87 : decode cX6_rule 87 = .ok (.iload 6, 2) := by decide +kernel
theorem dX6_rule_89 : decode cX6_rule 89 = .ok (.iload 4, 2) := by decide +kernel
theorem dX6_rule_91 : decode cX6_rule 91 = .ok (.if_icmp .le 8, 3) := by decide +kernel
theorem dX6_rule_94 : decode cX6_rule 94 = .ok (.iload 5, 2) := by decide +kernel
theorem dX6_rule_96 : decode cX6_rule 96 = .ok (.goto 4, 3) := by decide +kernel
theorem dX6_rule_99 : decode cX6_rule 99 = .ok (.iload_n 3, 1) := by decide +kernel
theorem dX6_rule_100 : decode cX6_rule 100 = .ok (.istore_n 3, 1) := by decide +kernel
theorem dX6_rule_101 : decode cX6_rule 101 = .ok (.iload 6, 2) := by decide +kernel
theorem dX6_rule_103 : decode cX6_rule 103 = .ok (.iload 4, 2) := by decide +kernel
theorem dX6_rule_105 : decode cX6_rule 105 = .ok (.if_icmp .le 8, 3) := by decide +kernel
theorem dX6_rule_108 : decode cX6_rule 108 = .ok (.iload 6, 2) := by decide +kernel
theorem dX6_rule_110 : decode cX6_rule 110 = .ok (.goto 5, 3) := by decide +kernel
theorem dX6_rule_113 : decode cX6_rule 113 = .ok (.iload 4, 2) := by decide +kernel
theorem dX6_rule_115 : decode cX6_rule 115 = .ok (.istore 4, 2) := by decide +kernel
theorem dX6_rule_117 : decode cX6_rule 117 = .ok (.iinc 5 1, 3) := by decide +kernel
theorem dX6_rule_120 : decode cX6_rule 120 = .ok (.goto (-57), 3) := by decide +kernel
theorem dX6_rule_123 : decode cX6_rule 123 = .ok (.iload_n 3, 1) := by decide +kernel
theorem dX6_rule_124 : decode cX6_rule 124 = .ok (.ireturn, 1) := by decide +kernel
set_option maxRecDepth 20000 in
theorem ggX6_parts_X6_isLaw : GoodIn wsX6_parts wsX6_isLaw := goodIn_r _ [6, 1, 7, 8, 5, 9, 47, 48, 49, 50, 51, 52, 53, 54, 55, 56, 57, 58, 59, 60, 61, 62, 63, 64] (by decide +kernel) (by decide +kernel)
set_option maxRecDepth 20000 in
theorem gX6_parts_X6_isLaw : GoodIn wsX6_parts (wsV RX6 135 RX6 yX6_isLaw wsX6_isLaw) := goodIn_app (goodIn_of _ (by decide +kernel)) ggX6_parts_X6_isLaw
set_option maxRecDepth 20000 in
theorem ggX6_parts_X6_tellsOf : GoodIn wsX6_parts wsX6_tellsOf := goodIn_r _ [13, 14, 15, 16, 5, 17, 1, 18, 19, 20, 21, 22, 23, 24, 25, 26, 27, 28, 29, 30, 31, 32, 33, 34, 35, 36, 37, 38, 39, 40, 41, 42, 43, 44, 45, 46, 47, 48, 49, 50, 51, 52, 53, 54, 55, 56, 57, 58, 59, 60, 61, 62, 63, 64] (by decide +kernel) (by decide +kernel)
set_option maxRecDepth 20000 in
theorem gX6_parts_X6_tellsOf : GoodIn wsX6_parts (wsV RX6 167 RX6 yX6_tellsOf wsX6_tellsOf) := goodIn_app (goodIn_of _ (by decide +kernel)) ggX6_parts_X6_tellsOf
theorem dX6_parts_0 : decode cX6_parts 0 = .ok (.aload_n 0, 1) := by decide +kernel
theorem dX6_parts_1 : decode cX6_parts 1 = .ok (.iload_n 1, 1) := by decide +kernel
theorem dX6_parts_2 : decode cX6_parts 2 = .ok (.invokevirtual 135, 3) := by decide +kernel
theorem dX6_parts_5 : decode cX6_parts 5 = .ok (.ifCond .eq 11, 3) := by decide +kernel
theorem dX6_parts_8 : decode cX6_parts 8 = .ok (.aload_n 0, 1) := by decide +kernel
theorem dX6_parts_9 : decode cX6_parts 9 = .ok (.iload_n 2, 1) := by decide +kernel
theorem dX6_parts_10 : decode cX6_parts 10 = .ok (.invokevirtual 135, 3) := by decide +kernel
theorem dX6_parts_13 : decode cX6_parts 13 = .ok (.ifCond .ne 5, 3) := by decide +kernel
theorem dX6_parts_16 : decode cX6_parts 16 = .ok (.iconst (-1), 1) := by decide +kernel
theorem dX6_parts_17 : decode cX6_parts 17 = .ok (.ireturn, 1) := by decide +kernel
theorem dX6_parts_18 : decode cX6_parts 18 = .ok (.iconst 0, 1) := by decide +kernel
theorem dX6_parts_19 : decode cX6_parts 19 = .ok (.istore_n 3, 1) := by decide +kernel
theorem dX6_parts_20 : decode cX6_parts 20 = .ok (.iconst 0, 1) := by decide +kernel
theorem dX6_parts_21 : decode cX6_parts 21 = .ok (.istore 4, 2) := by decide +kernel
theorem dX6_parts_23 : decode cX6_parts 23 = .ok (.iload 4, 2) := by decide +kernel
theorem dX6_parts_25 : decode cX6_parts 25 = .ok (.aload_n 0, 1) := by decide +kernel
theorem dX6_parts_26 : decode cX6_parts 26 = .ok (.getfield 9, 3) := by decide +kernel
theorem dX6_parts_29 : decode cX6_parts 29 = .ok (.iconst 0, 1) := by decide +kernel
theorem dX6_parts_30 : decode cX6_parts 30 = .ok (.iaload, 1) := by decide +kernel
theorem dX6_parts_31 : decode cX6_parts 31 = .ok (.if_icmp .ge 80, 3) := by decide +kernel
theorem dX6_parts_34 : decode cX6_parts 34 = .ok (.iconst 0, 1) := by decide +kernel
theorem dX6_parts_35 : decode cX6_parts 35 = .ok (.istore 5, 2) := by decide +kernel
theorem dX6_parts_37 : decode cX6_parts 37 = .ok (.iload 5, 2) := by decide +kernel
theorem dX6_parts_39 : decode cX6_parts 39 = .ok (.aload_n 0, 1) := by decide +kernel
theorem dX6_parts_40 : decode cX6_parts 40 = .ok (.getfield 9, 3) := by decide +kernel
theorem dX6_parts_43 : decode cX6_parts 43 = .ok (.iconst 1, 1) := by decide +kernel
theorem dX6_parts_44 : decode cX6_parts 44 = .ok (.iaload, 1) := by decide +kernel
theorem dX6_parts_45 : decode cX6_parts 45 = .ok (.if_icmp .ge 60, 3) := by decide +kernel
theorem dX6_parts_48 : decode cX6_parts 48 = .ok (.iload_n 3, 1) := by decide +kernel
theorem dX6_parts_49 : decode cX6_parts 49 = .ok (.aload_n 0, 1) := by decide +kernel
theorem dX6_parts_50 : decode cX6_parts 50 = .ok (.iload_n 1, 1) := by decide +kernel
theorem dX6_parts_51 : decode cX6_parts 51 = .ok (.iload 4, 2) := by decide +kernel
theorem dX6_parts_53 : decode cX6_parts 53 = .ok (.iload 5, 2) := by decide +kernel
theorem dX6_parts_55 : decode cX6_parts 55 = .ok (.aload_n 0, 1) := by decide +kernel
theorem dX6_parts_56 : decode cX6_parts 56 = .ok (.getfield 9, 3) := by decide +kernel
theorem dX6_parts_59 : decode cX6_parts 59 = .ok (.sipush 130, 3) := by decide +kernel
theorem dX6_parts_62 : decode cX6_parts 62 = .ok (.iload 4, 2) := by decide +kernel
theorem dX6_parts_64 : decode cX6_parts 64 = .ok (.iadd, 1) := by decide +kernel
theorem dX6_parts_65 : decode cX6_parts 65 = .ok (.iaload, 1) := by decide +kernel
theorem dX6_parts_66 : decode cX6_parts 66 = .ok (.invokevirtual 167, 3) := by decide +kernel
theorem dX6_parts_69 : decode cX6_parts 69 = .ok (.aload_n 0, 1) := by decide +kernel
theorem dX6_parts_70 : decode cX6_parts 70 = .ok (.iload_n 2, 1) := by decide +kernel
theorem dX6_parts_71 : decode cX6_parts 71 = .ok (.iload 4, 2) := by decide +kernel
theorem dX6_parts_73 : decode cX6_parts 73 = .ok (.iload 5, 2) := by decide +kernel
theorem dX6_parts_75 : decode cX6_parts 75 = .ok (.aload_n 0, 1) := by decide +kernel
theorem dX6_parts_76 : decode cX6_parts 76 = .ok (.getfield 9, 3) := by decide +kernel
theorem dX6_parts_79 : decode cX6_parts 79 = .ok (.sipush 130, 3) := by decide +kernel
theorem dX6_parts_82 : decode cX6_parts 82 = .ok (.iload 4, 2) := by decide +kernel
theorem dX6_parts_84 : decode cX6_parts 84 = .ok (.iadd, 1) := by decide +kernel
theorem dX6_parts_85 : decode cX6_parts 85 = .ok (.iaload, 1) := by decide +kernel
theorem dX6_parts_86 : decode cX6_parts 86 = .ok (.invokevirtual 167, 3) := by decide +kernel
theorem dX6_parts_89 : decode cX6_parts 89 = .ok (.if_icmp .eq 7, 3) := by decide +kernel
theorem dX6_parts_92 : decode cX6_parts 92 = .ok (.iconst 1, 1) := by decide +kernel
theorem dX6_parts_93 : decode cX6_parts 93 = .ok (.goto 4, 3) := by decide +kernel
theorem dX6_parts_96 : decode cX6_parts 96 = .ok (.iconst 0, 1) := by decide +kernel
theorem dX6_parts_97 : decode cX6_parts 97 = .ok (.iadd, 1) := by decide +kernel
theorem dX6_parts_98 : decode cX6_parts 98 = .ok (.istore_n 3, 1) := by decide +kernel
theorem dX6_parts_99 : decode cX6_parts 99 = .ok (.iinc 5 1, 3) := by decide +kernel
theorem dX6_parts_102 : decode cX6_parts 102 = .ok (.goto (-65), 3) := by decide +kernel
theorem dX6_parts_105 : decode cX6_parts 105 = .ok (.iinc 4 1, 3) := by decide +kernel
theorem dX6_parts_108 : decode cX6_parts 108 = .ok (.goto (-85), 3) := by decide +kernel
theorem dX6_parts_111 : decode cX6_parts 111 = .ok (.iload_n 3, 1) := by decide +kernel
theorem dX6_parts_112 : decode cX6_parts 112 = .ok (.ireturn, 1) := by decide +kernel
set_option maxRecDepth 20000 in
theorem ggX6_next_X6_isChild : GoodIn wsX6_next wsX6_isChild := goodIn_r _ [7, 1, 8, 9, 6, 10, 48, 49, 50, 51, 52, 53, 54, 55, 56, 57, 58, 59, 60, 61, 62, 63, 64, 65] (by decide +kernel) (by decide +kernel)
set_option maxRecDepth 20000 in
theorem gX6_next_X6_isChild : GoodIn wsX6_next (wsV RX6 36 RX6 yX6_isChild wsX6_isChild) := goodIn_app (goodIn_of _ (by decide +kernel)) ggX6_next_X6_isChild
set_option maxRecDepth 20000 in
theorem ggX6_next_X6_tellsOf : GoodIn wsX6_next wsX6_tellsOf := goodIn_r _ [14, 15, 16, 17, 6, 18, 1, 19, 20, 21, 22, 23, 24, 25, 26, 27, 28, 29, 30, 31, 32, 33, 34, 35, 36, 37, 38, 39, 40, 41, 42, 43, 44, 45, 46, 47, 48, 49, 50, 51, 52, 53, 54, 55, 56, 57, 58, 59, 60, 61, 62, 63, 64, 65] (by decide +kernel) (by decide +kernel)
set_option maxRecDepth 20000 in
theorem gX6_next_X6_tellsOf : GoodIn wsX6_next (wsV RX6 167 RX6 yX6_tellsOf wsX6_tellsOf) := goodIn_app (goodIn_of _ (by decide +kernel)) ggX6_next_X6_tellsOf
theorem dX6_next_0 : decode cX6_next 0 = .ok (.aload_n 0, 1) := by decide +kernel
theorem dX6_next_1 : decode cX6_next 1 = .ok (.iload_n 1, 1) := by decide +kernel
theorem dX6_next_2 : decode cX6_next 2 = .ok (.invokevirtual 36, 3) := by decide +kernel
theorem dX6_next_5 : decode cX6_next 5 = .ok (.ifCond .ne 5, 3) := by decide +kernel
theorem dX6_next_8 : decode cX6_next 8 = .ok (.iconst (-1), 1) := by decide +kernel
theorem dX6_next_9 : decode cX6_next 9 = .ok (.ireturn, 1) := by decide +kernel
theorem dX6_next_10 : decode cX6_next 10 = .ok (.bipush (-5), 2) := by decide +kernel
theorem dX6_next_12 : decode cX6_next 12 = .ok (.istore_n 2, 1) := by decide +kernel
theorem dX6_next_13 : decode cX6_next 13 = .ok (.aload_n 0, 1) := by decide +kernel
theorem dX6_next_14 : decode cX6_next 14 = .ok (.getfield 9, 3) := by decide +kernel
theorem dX6_next_17 : decode cX6_next 17 = .ok (.iconst 3, 1) := by decide +kernel
theorem dX6_next_18 : decode cX6_next 18 = .ok (.iaload, 1) := by decide +kernel
theorem dX6_next_19 : decode cX6_next 19 = .ok (.istore_n 3, 1) := by decide +kernel
theorem dX6_next_20 : decode cX6_next 20 = .ok (.iconst 0, 1) := by decide +kernel
theorem dX6_next_21 : decode cX6_next 21 = .ok (.istore 4, 2) := by decide +kernel
theorem dX6_next_23 : decode cX6_next 23 = .ok (.iload 4, 2) := by decide +kernel
theorem dX6_next_25 : decode cX6_next 25 = .ok (.aload_n 0, 1) := by decide +kernel
theorem dX6_next_26 : decode cX6_next 26 = .ok (.getfield 9, 3) := by decide +kernel
theorem dX6_next_29 : decode cX6_next 29 = .ok (.iconst 1, 1) := by decide +kernel
theorem dX6_next_30 : decode cX6_next 30 = .ok (.iaload, 1) := by decide +kernel
theorem dX6_next_31 : decode cX6_next 31 = .ok (.if_icmp .ge 160, 3) := by decide +kernel
theorem dX6_next_34 : decode cX6_next 34 = .ok (.aload_n 0, 1) := by decide +kernel
theorem dX6_next_35 : decode cX6_next 35 = .ok (.getfield 22, 3) := by decide +kernel
theorem dX6_next_38 : decode cX6_next 38 = .ok (.iconst 0, 1) := by decide +kernel
theorem dX6_next_39 : decode cX6_next 39 = .ok (.iconst 0, 1) := by decide +kernel
theorem dX6_next_40 : decode cX6_next 40 = .ok (.iastore, 1) := by decide +kernel
theorem dX6_next_41 : decode cX6_next 41 = .ok (.aload_n 0, 1) := by decide +kernel
theorem dX6_next_42 : decode cX6_next 42 = .ok (.getfield 22, 3) := by decide +kernel
theorem dX6_next_45 : decode cX6_next 45 = .ok (.iconst 1, 1) := by decide +kernel
theorem dX6_next_46 : decode cX6_next 46 = .ok (.iconst 0, 1) := by decide +kernel
theorem dX6_next_47 : decode cX6_next 47 = .ok (.iastore, 1) := by decide +kernel
theorem dX6_next_48 : decode cX6_next 48 = .ok (.aload_n 0, 1) := by decide +kernel
theorem dX6_next_49 : decode cX6_next 49 = .ok (.getfield 22, 3) := by decide +kernel
theorem dX6_next_52 : decode cX6_next 52 = .ok (.iconst 2, 1) := by decide +kernel
theorem dX6_next_53 : decode cX6_next 53 = .ok (.iconst 0, 1) := by decide +kernel
theorem dX6_next_54 : decode cX6_next 54 = .ok (.iastore, 1) := by decide +kernel
theorem dX6_next_55 : decode cX6_next 55 = .ok (.iconst 0, 1) := by decide +kernel
theorem dX6_next_56 : decode cX6_next 56 = .ok (.istore 5, 2) := by decide +kernel
theorem dX6_next_58 : decode cX6_next 58 = .ok (.iload 5, 2) := by decide +kernel
theorem dX6_next_60 : decode cX6_next 60 = .ok (.aload_n 0, 1) := by decide +kernel
theorem dX6_next_61 : decode cX6_next 61 = .ok (.getfield 9, 3) := by decide +kernel
theorem dX6_next_64 : decode cX6_next 64 = .ok (.iconst 3, 1) := by decide +kernel
theorem dX6_next_65 : decode cX6_next 65 = .ok (.iaload, 1) := by decide +kernel
theorem dX6_next_66 : decode cX6_next 66 = .ok (.if_icmp .ge 37, 3) := by decide +kernel
theorem dX6_next_69 : decode cX6_next 69 = .ok (.aload_n 0, 1) := by decide +kernel
theorem dX6_next_70 : decode cX6_next 70 = .ok (.getfield 22, 3) := by decide +kernel
theorem dX6_next_73 : decode cX6_next 73 = .ok (.aload_n 0, 1) := by decide +kernel
theorem dX6_next_74 : decode cX6_next 74 = .ok (.iload 5, 2) := by decide +kernel
theorem dX6_next_76 : decode cX6_next 76 = .ok (.iload_n 1, 1) := by decide +kernel
theorem dX6_next_77 : decode cX6_next 77 = .ok (.iload 4, 2) := by decide +kernel
theorem dX6_next_79 : decode cX6_next 79 = .ok (.aload_n 0, 1) := by decide +kernel
theorem dX6_next_80 : decode cX6_next 80 = .ok (.getfield 9, 3) := by decide +kernel
theorem dX6_next_83 : decode cX6_next 83 = .ok (.sipush 130, 3) := by decide +kernel
theorem dX6_next_86 : decode cX6_next 86 = .ok (.iload_n 1, 1) := by decide +kernel
theorem dX6_next_87 : decode cX6_next 87 = .ok (.iadd, 1) := by decide +kernel
theorem dX6_next_88 : decode cX6_next 88 = .ok (.iaload, 1) := by decide +kernel
theorem dX6_next_89 : decode cX6_next 89 = .ok (.invokevirtual 167, 3) := by decide +kernel
theorem dX6_next_92 : decode cX6_next 92 = .ok (.dup2, 1) := by decide +kernel
theorem dX6_next_93 : decode cX6_next 93 = .ok (.iaload, 1) := by decide +kernel
theorem dX6_next_94 : decode cX6_next 94 = .ok (.iconst 1, 1) := by decide +kernel
theorem dX6_next_95 : decode cX6_next 95 = .ok (.iadd, 1) := by decide +kernel
theorem dX6_next_96 : decode cX6_next 96 = .ok (.iastore, 1) := by decide +kernel
theorem dX6_next_97 : decode cX6_next 97 = .ok (.iinc 5 1, 3) := by decide +kernel
theorem dX6_next_100 : decode cX6_next 100 = .ok (.goto (-42), 3) := by decide +kernel
theorem dX6_next_103 : decode cX6_next 103 = .ok (.aload_n 0, 1) := by decide +kernel
theorem dX6_next_104 : decode cX6_next 104 = .ok (.getfield 22, 3) := by decide +kernel
theorem dX6_next_107 : decode cX6_next 107 = .ok (.iconst 0, 1) := by decide +kernel
theorem dX6_next_108 : decode cX6_next 108 = .ok (.iaload, 1) := by decide +kernel
theorem dX6_next_109 : decode cX6_next 109 = .ok (.aload_n 0, 1) := by decide +kernel
theorem dX6_next_110 : decode cX6_next 110 = .ok (.getfield 22, 3) := by decide +kernel
theorem dX6_next_113 : decode cX6_next 113 = .ok (.iconst 1, 1) := by decide +kernel
theorem dX6_next_114 : decode cX6_next 114 = .ok (.iaload, 1) := by decide +kernel
theorem dX6_next_115 : decode cX6_next 115 = .ok (.if_icmp .le 12, 3) := by decide +kernel
theorem dX6_next_118 : decode cX6_next 118 = .ok (.aload_n 0, 1) := by decide +kernel
theorem dX6_next_119 : decode cX6_next 119 = .ok (.getfield 22, 3) := by decide +kernel
theorem dX6_next_122 : decode cX6_next 122 = .ok (.iconst 0, 1) := by decide +kernel
theorem dX6_next_123 : decode cX6_next 123 = .ok (.iaload, 1) := by decide +kernel
theorem dX6_next_124 : decode cX6_next 124 = .ok (.goto 9, 3) := by decide +kernel
theorem dX6_next_127 : decode cX6_next 127 = .ok (.aload_n 0, 1) := by decide +kernel
theorem dX6_next_128 : decode cX6_next 128 = .ok (.getfield 22, 3) := by decide +kernel
theorem dX6_next_131 : decode cX6_next 131 = .ok (.iconst 1, 1) := by decide +kernel
theorem dX6_next_132 : decode cX6_next 132 = .ok (.iaload, 1) := by decide +kernel
theorem dX6_next_133 : decode cX6_next 133 = .ok (.istore 5, 2) := by decide +kernel
theorem dX6_next_135 : decode cX6_next 135 = .ok (.aload_n 0, 1) := by decide +kernel
theorem dX6_next_136 : decode cX6_next 136 = .ok (.getfield 22, 3) := by decide +kernel
theorem dX6_next_139 : decode cX6_next 139 = .ok (.iconst 2, 1) := by decide +kernel
theorem dX6_next_140 : decode cX6_next 140 = .ok (.iaload, 1) := by decide +kernel
theorem dX6_next_141 : decode cX6_next 141 = .ok (.iload 5, 2) := by decide +kernel
theorem dX6_next_143 : decode cX6_next 143 = .ok (.if_icmp .le 12, 3) := by decide +kernel
theorem dX6_next_146 : decode cX6_next 146 = .ok (.aload_n 0, 1) := by decide +kernel
theorem dX6_next_147 : decode cX6_next 147 = .ok (.getfield 22, 3) := by decide +kernel
theorem dX6_next_150 : decode cX6_next 150 = .ok (.iconst 2, 1) := by decide +kernel
theorem dX6_next_151 : decode cX6_next 151 = .ok (.iaload, 1) := by decide +kernel
theorem dX6_next_152 : decode cX6_next 152 = .ok (.goto 5, 3) := by decide +kernel
theorem dX6_next_155 : decode cX6_next 155 = .ok (.iload 5, 2) := by decide +kernel
theorem dX6_next_157 : decode cX6_next 157 = .ok (.istore 5, 2) := by decide +kernel
theorem dX6_next_159 : decode cX6_next 159 = .ok (.iload 5, 2) := by decide +kernel
theorem dX6_next_161 : decode cX6_next 161 = .ok (.iload_n 3, 1) := by decide +kernel
theorem dX6_next_162 : decode cX6_next 162 = .ok (.if_icmp .ge 8, 3) := by decide +kernel
theorem dX6_next_165 : decode cX6_next 165 = .ok (.iload 4, 2) := by decide +kernel
theorem dX6_next_167 : decode cX6_next 167 = .ok (.goto 4, 3) := by decide +kernel
theorem dX6_next_170 : decode cX6_next 170 = .ok (.iload_n 2, 1) := by decide +kernel
theorem dX6_next_171 : decode cX6_next 171 = .ok (.istore_n 2, 1) := by decide +kernel
theorem dX6_next_172 : decode cX6_next 172 = .ok (.iload 5, 2) := by decide +kernel
theorem dX6_next_174 : decode cX6_next 174 = .ok (.iload_n 3, 1) := by decide +kernel
theorem dX6_next_175 : decode cX6_next 175 = .ok (.if_icmp .ge 8, 3) := by decide +kernel
theorem dX6_next_178 : decode cX6_next 178 = .ok (.iload 5, 2) := by decide +kernel
theorem dX6_next_180 : decode cX6_next 180 = .ok (.goto 4, 3) := by decide +kernel
theorem dX6_next_183 : decode cX6_next 183 = .ok (.iload_n 3, 1) := by decide +kernel
theorem dX6_next_184 : decode cX6_next 184 = .ok (.istore_n 3, 1) := by decide +kernel
theorem dX6_next_185 : decode cX6_next 185 = .ok (.iinc 4 1, 3) := by decide +kernel
theorem dX6_next_188 : decode cX6_next 188 = .ok (.goto (-165), 3) := by decide +kernel
theorem dX6_next_191 : decode cX6_next 191 = .ok (.iload_n 2, 1) := by decide +kernel
theorem dX6_next_192 : decode cX6_next 192 = .ok (.ireturn, 1) := by decide +kernel
theorem dX6_isUnchanged_0 : decode cX6_isUnchanged 0 = .ok (.aload_n 0, 1) := by decide +kernel
theorem dX6_isUnchanged_1 : decode cX6_isUnchanged 1 = .ok (.getfield 9, 3) := by decide +kernel
theorem dX6_isUnchanged_4 : decode cX6_isUnchanged 4 = .ok (.sipush 266, 3) := by decide +kernel
theorem dX6_isUnchanged_7 : decode cX6_isUnchanged 7 = .ok (.aload_n 0, 1) := by decide +kernel
theorem dX6_isUnchanged_8 : decode cX6_isUnchanged 8 = .ok (.getfield 9, 3) := by decide +kernel
theorem dX6_isUnchanged_11 : decode cX6_isUnchanged 11 = .ok (.sipush 322, 3) := by decide +kernel
theorem dX6_isUnchanged_14 : decode cX6_isUnchanged 14 = .ok (.iload_n 1, 1) := by decide +kernel
theorem dX6_isUnchanged_15 : decode cX6_isUnchanged 15 = .ok (.iadd, 1) := by decide +kernel
theorem dX6_isUnchanged_16 : decode cX6_isUnchanged 16 = .ok (.iaload, 1) := by decide +kernel
theorem dX6_isUnchanged_17 : decode cX6_isUnchanged 17 = .ok (.iadd, 1) := by decide +kernel
theorem dX6_isUnchanged_18 : decode cX6_isUnchanged 18 = .ok (.iaload, 1) := by decide +kernel
theorem dX6_isUnchanged_19 : decode cX6_isUnchanged 19 = .ok (.ifCond .ne 7, 3) := by decide +kernel
theorem dX6_isUnchanged_22 : decode cX6_isUnchanged 22 = .ok (.iconst 1, 1) := by decide +kernel
theorem dX6_isUnchanged_23 : decode cX6_isUnchanged 23 = .ok (.goto 4, 3) := by decide +kernel
theorem dX6_isUnchanged_26 : decode cX6_isUnchanged 26 = .ok (.iconst 0, 1) := by decide +kernel
theorem dX6_isUnchanged_27 : decode cX6_isUnchanged 27 = .ok (.ireturn, 1) := by decide +kernel
set_option maxRecDepth 20000 in
theorem ggX6_counts_X6_isUnchanged : GoodIn wsX6_counts wsX6_isUnchanged := goodIn_r _ [8, 3, 9, 10, 11, 12, 13, 14, 15, 16, 17, 18, 19, 20, 21, 22, 23, 24, 25, 26] (by decide +kernel) (by decide +kernel)
set_option maxRecDepth 20000 in
theorem gX6_counts_X6_isUnchanged : GoodIn wsX6_counts (wsV RX6 211 RX6 yX6_isUnchanged wsX6_isUnchanged) := goodIn_app (goodIn_of _ (by decide +kernel)) ggX6_counts_X6_isUnchanged
theorem dX6_counts_0 : decode cX6_counts 0 = .ok (.aload_n 0, 1) := by decide +kernel
theorem dX6_counts_1 : decode cX6_counts 1 = .ok (.lconst 0, 1) := by decide +kernel
theorem dX6_counts_2 : decode cX6_counts 2 = .ok (.putfield 204, 3) := by decide +kernel
theorem dX6_counts_5 : decode cX6_counts 5 = .ok (.aload_n 0, 1) := by decide +kernel
theorem dX6_counts_6 : decode cX6_counts 6 = .ok (.lconst 0, 1) := by decide +kernel
theorem dX6_counts_7 : decode cX6_counts 7 = .ok (.putfield 208, 3) := by decide +kernel
theorem dX6_counts_10 : decode cX6_counts 10 = .ok (.iconst 0, 1) := by decide +kernel
theorem dX6_counts_11 : decode cX6_counts 11 = .ok (.istore_n 3, 1) := by decide +kernel
theorem dX6_counts_12 : decode cX6_counts 12 = .ok (.iload_n 3, 1) := by decide +kernel
theorem dX6_counts_13 : decode cX6_counts 13 = .ok (.aload_n 0, 1) := by decide +kernel
theorem dX6_counts_14 : decode cX6_counts 14 = .ok (.getfield 9, 3) := by decide +kernel
theorem dX6_counts_17 : decode cX6_counts 17 = .ok (.iconst 2, 1) := by decide +kernel
theorem dX6_counts_18 : decode cX6_counts 18 = .ok (.iaload, 1) := by decide +kernel
theorem dX6_counts_19 : decode cX6_counts 19 = .ok (.if_icmp .ge 101, 3) := by decide +kernel
theorem dX6_counts_22 : decode cX6_counts 22 = .ok (.aload_n 0, 1) := by decide +kernel
theorem dX6_counts_23 : decode cX6_counts 23 = .ok (.getfield 9, 3) := by decide +kernel
theorem dX6_counts_26 : decode cX6_counts 26 = .ok (.sipush 322, 3) := by decide +kernel
theorem dX6_counts_29 : decode cX6_counts 29 = .ok (.iload_n 3, 1) := by decide +kernel
theorem dX6_counts_30 : decode cX6_counts 30 = .ok (.iadd, 1) := by decide +kernel
theorem dX6_counts_31 : decode cX6_counts 31 = .ok (.iaload, 1) := by decide +kernel
theorem dX6_counts_32 : decode cX6_counts 32 = .ok (.istore 4, 2) := by decide +kernel
theorem dX6_counts_34 : decode cX6_counts 34 = .ok (.aload_n 0, 1) := by decide +kernel
theorem dX6_counts_35 : decode cX6_counts 35 = .ok (.iload_n 3, 1) := by decide +kernel
theorem dX6_counts_36 : decode cX6_counts 36 = .ok (.invokevirtual 211, 3) := by decide +kernel
theorem dX6_counts_39 : decode cX6_counts 39 = .ok (.ifCond .eq 75, 3) := by decide +kernel
theorem dX6_counts_42 : decode cX6_counts 42 = .ok (.aload_n 0, 1) := by decide +kernel
theorem dX6_counts_43 : decode cX6_counts 43 = .ok (.getfield 9, 3) := by decide +kernel
theorem dX6_counts_46 : decode cX6_counts 46 = .ok (.sipush 186, 3) := by decide +kernel
theorem dX6_counts_49 : decode cX6_counts 49 = .ok (.iload 4, 2) := by decide +kernel
theorem dX6_counts_51 : decode cX6_counts 51 = .ok (.iadd, 1) := by decide +kernel
theorem dX6_counts_52 : decode cX6_counts 52 = .ok (.iaload, 1) := by decide +kernel
theorem dX6_counts_53 : decode cX6_counts 53 = .ok (.iload_n 1, 1) := by decide +kernel
theorem dX6_counts_54 : decode cX6_counts 54 = .ok (.if_icmp .ne 60, 3) := by decide +kernel
theorem dX6_counts_57 : decode cX6_counts 57 = .ok (.iload_n 2, 1) := by decide +kernel
theorem dX6_counts_58 : decode cX6_counts 58 = .ok (.ifCond .eq 18, 3) := by decide +kernel
theorem dX6_counts_61 : decode cX6_counts 61 = .ok (.aload_n 0, 1) := by decide +kernel
theorem dX6_counts_62 : decode cX6_counts 62 = .ok (.getfield 9, 3) := by decide +kernel
theorem dX6_counts_65 : decode cX6_counts 65 = .ok (.sipush 202, 3) := by decide +kernel
theorem dX6_counts_68 : decode cX6_counts 68 = .ok (.iload 4, 2) := by decide +kernel
theorem dX6_counts_70 : decode cX6_counts 70 = .ok (.iadd, 1) := by decide +kernel
theorem dX6_counts_71 : decode cX6_counts 71 = .ok (.iaload, 1) := by decide +kernel
theorem dX6_counts_72 : decode cX6_counts 72 = .ok (.iload_n 2, 1) := by decide +kernel
theorem dX6_counts_73 : decode cX6_counts 73 = .ok (.if_icmp .ne 41, 3) := by decide +kernel
theorem dX6_counts_76 : decode cX6_counts 76 = .ok (.aload_n 0, 1) := by decide +kernel
theorem dX6_counts_77 : decode cX6_counts 77 = .ok (.dup, 1) := by decide +kernel
theorem dX6_counts_78 : decode cX6_counts 78 = .ok (.getfield 204, 3) := by decide +kernel
theorem dX6_counts_81 : decode cX6_counts 81 = .ok (.lconst 1, 1) := by decide +kernel
theorem dX6_counts_82 : decode cX6_counts 82 = .ok (.ladd, 1) := by decide +kernel
theorem dX6_counts_83 : decode cX6_counts 83 = .ok (.putfield 204, 3) := by decide +kernel
theorem dX6_counts_86 : decode cX6_counts 86 = .ok (.aload_n 0, 1) := by decide +kernel
theorem dX6_counts_87 : decode cX6_counts 87 = .ok (.dup, 1) := by decide +kernel
theorem dX6_counts_88 : decode cX6_counts 88 = .ok (.getfield 208, 3) := by decide +kernel
theorem dX6_counts_91 : decode cX6_counts 91 = .ok (.aload_n 0, 1) := by decide +kernel
theorem dX6_counts_92 : decode cX6_counts 92 = .ok (.getfield 9, 3) := by decide +kernel
theorem dX6_counts_95 : decode cX6_counts 95 = .ok (.sipush 362, 3) := by decide +kernel
theorem dX6_counts_98 : decode cX6_counts 98 = .ok (.iload_n 3, 1) := by decide +kernel
theorem dX6_counts_99 : decode cX6_counts 99 = .ok (.iadd, 1) := by decide +kernel
theorem dX6_counts_100 : decode cX6_counts 100 = .ok (.iaload, 1) := by decide +kernel
theorem dX6_counts_101 : decode cX6_counts 101 = .ok (.iconst 1, 1) := by decide +kernel
theorem dX6_counts_102 : decode cX6_counts 102 = .ok (.if_icmp .ne 7, 3) := by decide +kernel
theorem dX6_counts_105 : decode cX6_counts 105 = .ok (.lconst 1, 1) := by decide +kernel
theorem dX6_counts_106 : decode cX6_counts 106 = .ok (.goto 4, 3) := by decide +kernel
theorem dX6_counts_109 : decode cX6_counts 109 = .ok (.lconst 0, 1) := by decide +kernel
theorem dX6_counts_110 : decode cX6_counts 110 = .ok (.ladd, 1) := by decide +kernel
theorem dX6_counts_111 : decode cX6_counts 111 = .ok (.putfield 208, 3) := by decide +kernel
theorem dX6_counts_114 : decode cX6_counts 114 = .ok (.iinc 3 1, 3) := by decide +kernel
theorem dX6_counts_117 : decode cX6_counts 117 = .ok (.goto (-105), 3) := by decide +kernel
theorem dX6_counts_120 : decode cX6_counts 120 = .ok (.aload_n 0, 1) := by decide +kernel
theorem dX6_counts_121 : decode cX6_counts 121 = .ok (.aload_n 0, 1) := by decide +kernel
theorem dX6_counts_122 : decode cX6_counts 122 = .ok (.getfield 204, 3) := by decide +kernel
theorem dX6_counts_125 : decode cX6_counts 125 = .ok (.lconst 0, 1) := by decide +kernel
theorem dX6_counts_126 : decode cX6_counts 126 = .ok (.lcmp, 1) := by decide +kernel
theorem dX6_counts_127 : decode cX6_counts 127 = .ok (.ifCond .ne 7, 3) := by decide +kernel
theorem dX6_counts_130 : decode cX6_counts 130 = .ok (.lconst 1, 1) := by decide +kernel
theorem dX6_counts_131 : decode cX6_counts 131 = .ok (.goto 7, 3) := by decide +kernel
theorem dX6_counts_134 : decode cX6_counts 134 = .ok (.aload_n 0, 1) := by decide +kernel
theorem dX6_counts_135 : decode cX6_counts 135 = .ok (.getfield 204, 3) := by decide +kernel
theorem dX6_counts_138 : decode cX6_counts 138 = .ok (.putfield 204, 3) := by decide +kernel
theorem dX6_counts_141 : decode cX6_counts 141 = .ok (.return_, 1) := by decide +kernel
set_option maxRecDepth 20000 in
theorem ggX6_moves_X6_in : GoodIn wsX6_moves wsX6_in := goodIn_r _ [7] (by decide +kernel) (by decide +kernel)
set_option maxRecDepth 20000 in
theorem gX6_moves_X6_in : GoodIn wsX6_moves (va_wsS RX6 32 yX6_in wsX6_in) := goodIn_app (goodIn_of _ (by decide +kernel)) ggX6_moves_X6_in
set_option maxRecDepth 20000 in
theorem ggX6_moves_X6_counts : GoodIn wsX6_moves wsX6_counts := goodIn_r _ [11, 3, 2, 12, 13, 14, 15, 6, 16, 23, 24, 25, 26, 27, 28, 29, 30, 31, 32, 33, 34, 35, 36, 37, 38, 39, 40] (by decide +kernel) (by decide +kernel)
set_option maxRecDepth 20000 in
theorem gX6_moves_X6_counts : GoodIn wsX6_moves (wsV RX6 214 RX6 yX6_counts wsX6_counts) := goodIn_app (goodIn_of _ (by decide +kernel)) ggX6_moves_X6_counts
set_option maxRecDepth 20000 in
theorem ggX6_moves_X6_lowest : GoodIn wsX6_moves wsX6_lowest := goodIn_r _ [19, 20, 21, 6, 22] (by decide +kernel) (by decide +kernel)
set_option maxRecDepth 20000 in
theorem gX6_moves_X6_lowest : GoodIn wsX6_moves (va_wsS RX6 186 yX6_lowest wsX6_lowest) := goodIn_app (goodIn_of _ (by decide +kernel)) ggX6_moves_X6_lowest
theorem dX6_moves_0 : decode cX6_moves 0 = .ok (.iload_n 1, 1) := by decide +kernel
theorem dX6_moves_1 : decode cX6_moves 1 = .ok (.iconst 0, 1) := by decide +kernel
theorem dX6_moves_2 : decode cX6_moves 2 = .ok (.iconst 1, 1) := by decide +kernel
theorem dX6_moves_3 : decode cX6_moves 3 = .ok (.invokestatic 32, 3) := by decide +kernel
theorem dX6_moves_6 : decode cX6_moves 6 = .ok (.ifCond .eq 12, 3) := by decide +kernel
theorem dX6_moves_9 : decode cX6_moves 9 = .ok (.iload_n 2, 1) := by decide +kernel
theorem dX6_moves_10 : decode cX6_moves 10 = .ok (.iconst 0, 1) := by decide +kernel
theorem dX6_moves_11 : decode cX6_moves 11 = .ok (.iconst 1, 1) := by decide +kernel
theorem dX6_moves_12 : decode cX6_moves 12 = .ok (.invokestatic 32, 3) := by decide +kernel
theorem dX6_moves_15 : decode cX6_moves 15 = .ok (.ifCond .ne 7, 3) := by decide +kernel
theorem dX6_moves_18 : decode cX6_moves 18 = .ok (.ldc2_w 178, 3) := by decide +kernel
theorem dX6_moves_21 : decode cX6_moves 21 = .ok (.lreturn, 1) := by decide +kernel
theorem dX6_moves_22 : decode cX6_moves 22 = .ok (.aload_n 0, 1) := by decide +kernel
theorem dX6_moves_23 : decode cX6_moves 23 = .ok (.iload_n 1, 1) := by decide +kernel
theorem dX6_moves_24 : decode cX6_moves 24 = .ok (.ifCond .ne 7, 3) := by decide +kernel
theorem dX6_moves_27 : decode cX6_moves 27 = .ok (.iconst 0, 1) := by decide +kernel
theorem dX6_moves_28 : decode cX6_moves 28 = .ok (.goto 4, 3) := by decide +kernel
theorem dX6_moves_31 : decode cX6_moves 31 = .ok (.iconst 1, 1) := by decide +kernel
theorem dX6_moves_32 : decode cX6_moves 32 = .ok (.iload_n 1, 1) := by decide +kernel
theorem dX6_moves_33 : decode cX6_moves 33 = .ok (.ifCond .ne 7, 3) := by decide +kernel
theorem dX6_moves_36 : decode cX6_moves 36 = .ok (.iconst 2, 1) := by decide +kernel
theorem dX6_moves_37 : decode cX6_moves 37 = .ok (.goto 4, 3) := by decide +kernel
theorem dX6_moves_40 : decode cX6_moves 40 = .ok (.iconst 0, 1) := by decide +kernel
theorem dX6_moves_41 : decode cX6_moves 41 = .ok (.invokevirtual 214, 3) := by decide +kernel
theorem dX6_moves_44 : decode cX6_moves 44 = .ok (.aload_n 0, 1) := by decide +kernel
theorem dX6_moves_45 : decode cX6_moves 45 = .ok (.getfield 208, 3) := by decide +kernel
theorem dX6_moves_48 : decode cX6_moves 48 = .ok (.lstore_n 3, 1) := by decide +kernel
theorem dX6_moves_49 : decode cX6_moves 49 = .ok (.aload_n 0, 1) := by decide +kernel
theorem dX6_moves_50 : decode cX6_moves 50 = .ok (.getfield 204, 3) := by decide +kernel
theorem dX6_moves_53 : decode cX6_moves 53 = .ok (.lstore 5, 2) := by decide +kernel
theorem dX6_moves_55 : decode cX6_moves 55 = .ok (.aload_n 0, 1) := by decide +kernel
theorem dX6_moves_56 : decode cX6_moves 56 = .ok (.iconst 0, 1) := by decide +kernel
theorem dX6_moves_57 : decode cX6_moves 57 = .ok (.iload_n 1, 1) := by decide +kernel
theorem dX6_moves_58 : decode cX6_moves 58 = .ok (.ifCond .ne 7, 3) := by decide +kernel
theorem dX6_moves_61 : decode cX6_moves 61 = .ok (.iconst 1, 1) := by decide +kernel
theorem dX6_moves_62 : decode cX6_moves 62 = .ok (.goto 4, 3) := by decide +kernel
theorem dX6_moves_65 : decode cX6_moves 65 = .ok (.iconst 0, 1) := by decide +kernel
theorem dX6_moves_66 : decode cX6_moves 66 = .ok (.invokevirtual 214, 3) := by decide +kernel
theorem dX6_moves_69 : decode cX6_moves 69 = .ok (.lload_n 3, 1) := by decide +kernel
theorem dX6_moves_70 : decode cX6_moves 70 = .ok (.aload_n 0, 1) := by decide +kernel
theorem dX6_moves_71 : decode cX6_moves 71 = .ok (.getfield 204, 3) := by decide +kernel
theorem dX6_moves_74 : decode cX6_moves 74 = .ok (.lmul, 1) := by decide +kernel
theorem dX6_moves_75 : decode cX6_moves 75 = .ok (.aload_n 0, 1) := by decide +kernel
theorem dX6_moves_76 : decode cX6_moves 76 = .ok (.getfield 208, 3) := by decide +kernel
theorem dX6_moves_79 : decode cX6_moves 79 = .ok (.lload 5, 2) := by decide +kernel
theorem dX6_moves_81 : decode cX6_moves 81 = .ok (.lmul, 1) := by decide +kernel
theorem dX6_moves_82 : decode cX6_moves 82 = .ok (.lsub, 1) := by decide +kernel
theorem dX6_moves_83 : decode cX6_moves 83 = .ok (.lload 5, 2) := by decide +kernel
theorem dX6_moves_85 : decode cX6_moves 85 = .ok (.aload_n 0, 1) := by decide +kernel
theorem dX6_moves_86 : decode cX6_moves 86 = .ok (.getfield 204, 3) := by decide +kernel
theorem dX6_moves_89 : decode cX6_moves 89 = .ok (.lmul, 1) := by decide +kernel
theorem dX6_moves_90 : decode cX6_moves 90 = .ok (.iload_n 2, 1) := by decide +kernel
theorem dX6_moves_91 : decode cX6_moves 91 = .ok (.invokestatic 186, 3) := by decide +kernel
theorem dX6_moves_94 : decode cX6_moves 94 = .ok (.lreturn, 1) := by decide +kernel
set_option maxRecDepth 20000 in
theorem ggX6_fooled_X6_isUnchanged : GoodIn wsX6_fooled wsX6_isUnchanged := goodIn_r _ [6, 1, 7, 8, 9, 10, 11, 12, 13, 14, 15, 16, 17, 18, 19, 20, 21, 22, 23, 24] (by decide +kernel) (by decide +kernel)
set_option maxRecDepth 20000 in
theorem gX6_fooled_X6_isUnchanged : GoodIn wsX6_fooled (wsV RX6 211 RX6 yX6_isUnchanged wsX6_isUnchanged) := goodIn_app (goodIn_of _ (by decide +kernel)) ggX6_fooled_X6_isUnchanged
theorem dX6_fooled_0 : decode cX6_fooled 0 = .ok (.iconst 0, 1) := by decide +kernel
theorem dX6_fooled_1 : decode cX6_fooled 1 = .ok (.istore_n 1, 1) := by decide +kernel
theorem dX6_fooled_2 : decode cX6_fooled 2 = .ok (.iconst 0, 1) := by decide +kernel
theorem dX6_fooled_3 : decode cX6_fooled 3 = .ok (.istore_n 2, 1) := by decide +kernel
theorem dX6_fooled_4 : decode cX6_fooled 4 = .ok (.iload_n 2, 1) := by decide +kernel
theorem dX6_fooled_5 : decode cX6_fooled 5 = .ok (.aload_n 0, 1) := by decide +kernel
theorem dX6_fooled_6 : decode cX6_fooled 6 = .ok (.getfield 9, 3) := by decide +kernel
theorem dX6_fooled_9 : decode cX6_fooled 9 = .ok (.iconst 2, 1) := by decide +kernel
theorem dX6_fooled_10 : decode cX6_fooled 10 = .ok (.iaload, 1) := by decide +kernel
theorem dX6_fooled_11 : decode cX6_fooled 11 = .ok (.if_icmp .ge 50, 3) := by decide +kernel
theorem dX6_fooled_14 : decode cX6_fooled 14 = .ok (.iload_n 1, 1) := by decide +kernel
theorem dX6_fooled_15 : decode cX6_fooled 15 = .ok (.aload_n 0, 1) := by decide +kernel
theorem dX6_fooled_16 : decode cX6_fooled 16 = .ok (.iload_n 2, 1) := by decide +kernel
theorem dX6_fooled_17 : decode cX6_fooled 17 = .ok (.invokevirtual 211, 3) := by decide +kernel
theorem dX6_fooled_20 : decode cX6_fooled 20 = .ok (.ifCond .ne 32, 3) := by decide +kernel
theorem dX6_fooled_23 : decode cX6_fooled 23 = .ok (.aload_n 0, 1) := by decide +kernel
theorem dX6_fooled_24 : decode cX6_fooled 24 = .ok (.getfield 9, 3) := by decide +kernel
theorem dX6_fooled_27 : decode cX6_fooled 27 = .ok (.sipush 362, 3) := by decide +kernel
theorem dX6_fooled_30 : decode cX6_fooled 30 = .ok (.iload_n 2, 1) := by decide +kernel
theorem dX6_fooled_31 : decode cX6_fooled 31 = .ok (.iadd, 1) := by decide +kernel
theorem dX6_fooled_32 : decode cX6_fooled 32 = .ok (.iaload, 1) := by decide +kernel
theorem dX6_fooled_33 : decode cX6_fooled 33 = .ok (.iconst 1, 1) := by decide +kernel
theorem dX6_fooled_34 : decode cX6_fooled 34 = .ok (.if_icmp .ne 18, 3) := by decide +kernel
theorem dX6_fooled_37 : decode cX6_fooled 37 = .ok (.iconst 1, 1) := by decide +kernel
theorem dX6_fooled_38 : decode cX6_fooled 38 = .ok (.aload_n 0, 1) := by decide +kernel
theorem dX6_fooled_39 : decode cX6_fooled 39 = .ok (.getfield 9, 3) := by decide +kernel
theorem dX6_fooled_42 : decode cX6_fooled 42 = .ok (.sipush 282, 3) := by decide +kernel
theorem dX6_fooled_45 : decode cX6_fooled 45 = .ok (.iload_n 2, 1) := by decide +kernel
theorem dX6_fooled_46 : decode cX6_fooled 46 = .ok (.iadd, 1) := by decide +kernel
theorem dX6_fooled_47 : decode cX6_fooled 47 = .ok (.iaload, 1) := by decide +kernel
theorem dX6_fooled_48 : decode cX6_fooled 48 = .ok (.ishl, 1) := by decide +kernel
theorem dX6_fooled_49 : decode cX6_fooled 49 = .ok (.goto 4, 3) := by decide +kernel
theorem dX6_fooled_52 : decode cX6_fooled 52 = .ok (.iconst 0, 1) := by decide +kernel
theorem dX6_fooled_53 : decode cX6_fooled 53 = .ok (.ior, 1) := by decide +kernel
theorem dX6_fooled_54 : decode cX6_fooled 54 = .ok (.istore_n 1, 1) := by decide +kernel
theorem dX6_fooled_55 : decode cX6_fooled 55 = .ok (.iinc 2 1, 3) := by decide +kernel
theorem dX6_fooled_58 : decode cX6_fooled 58 = .ok (.goto (-54), 3) := by decide +kernel
theorem dX6_fooled_61 : decode cX6_fooled 61 = .ok (.iload_n 1, 1) := by decide +kernel
theorem dX6_fooled_62 : decode cX6_fooled 62 = .ok (.ireturn, 1) := by decide +kernel
set_option maxRecDepth 20000 in
theorem ggX6_step_X6_isUnchanged : GoodIn wsX6_step wsX6_isUnchanged := goodIn_r _ [6, 1, 7, 8, 9, 10, 11, 12, 13, 14, 15, 16, 17, 18, 19, 20, 21, 22, 23, 24] (by decide +kernel) (by decide +kernel)
set_option maxRecDepth 20000 in
theorem gX6_step_X6_isUnchanged : GoodIn wsX6_step (wsV RX6 211 RX6 yX6_isUnchanged wsX6_isUnchanged) := goodIn_app (goodIn_of _ (by decide +kernel)) ggX6_step_X6_isUnchanged
theorem dX6_step_0 : decode cX6_step 0 = .ok (.iconst (-1), 1) := by decide +kernel
theorem dX6_step_1 : decode cX6_step 1 = .ok (.istore_n 3, 1) := by decide +kernel
theorem dX6_step_2 : decode cX6_step 2 = .ok (.iconst 0, 1) := by decide +kernel
theorem dX6_step_3 : decode cX6_step 3 = .ok (.istore 4, 2) := by decide +kernel
theorem dX6_step_5 : decode cX6_step 5 = .ok (.iload 4, 2) := by decide +kernel
theorem dX6_step_7 : decode cX6_step 7 = .ok (.aload_n 0, 1) := by decide +kernel
theorem dX6_step_8 : decode cX6_step 8 = .ok (.getfield 9, 3) := by decide +kernel
theorem dX6_step_11 : decode cX6_step 11 = .ok (.iconst 2, 1) := by decide +kernel
theorem dX6_step_12 : decode cX6_step 12 = .ok (.iaload, 1) := by decide +kernel
theorem dX6_step_13 : decode cX6_step 13 = .ok (.if_icmp .ge 87, 3) := by decide +kernel
theorem dX6_step_16 : decode cX6_step 16 = .ok (.aload_n 0, 1) := by decide +kernel
theorem dX6_step_17 : decode cX6_step 17 = .ok (.getfield 9, 3) := by decide +kernel
theorem dX6_step_20 : decode cX6_step 20 = .ok (.sipush 282, 3) := by decide +kernel
theorem dX6_step_23 : decode cX6_step 23 = .ok (.iload 4, 2) := by decide +kernel
theorem dX6_step_25 : decode cX6_step 25 = .ok (.iadd, 1) := by decide +kernel
theorem dX6_step_26 : decode cX6_step 26 = .ok (.iaload, 1) := by decide +kernel
theorem dX6_step_27 : decode cX6_step 27 = .ok (.iload_n 1, 1) := by decide +kernel
theorem dX6_step_28 : decode cX6_step 28 = .ok (.if_icmp .ne 66, 3) := by decide +kernel
theorem dX6_step_31 : decode cX6_step 31 = .ok (.aload_n 0, 1) := by decide +kernel
theorem dX6_step_32 : decode cX6_step 32 = .ok (.getfield 9, 3) := by decide +kernel
theorem dX6_step_35 : decode cX6_step 35 = .ok (.sipush 170, 3) := by decide +kernel
theorem dX6_step_38 : decode cX6_step 38 = .ok (.aload_n 0, 1) := by decide +kernel
theorem dX6_step_39 : decode cX6_step 39 = .ok (.getfield 9, 3) := by decide +kernel
theorem dX6_step_42 : decode cX6_step 42 = .ok (.sipush 322, 3) := by decide +kernel
theorem dX6_step_45 : decode cX6_step 45 = .ok (.iload 4, 2) := by decide +kernel
theorem dX6_step_47 : decode cX6_step 47 = .ok (.iadd, 1) := by decide +kernel
theorem dX6_step_48 : decode cX6_step 48 = .ok (.iaload, 1) := by decide +kernel
theorem dX6_step_49 : decode cX6_step 49 = .ok (.iadd, 1) := by decide +kernel
theorem dX6_step_50 : decode cX6_step 50 = .ok (.iaload, 1) := by decide +kernel
theorem dX6_step_51 : decode cX6_step 51 = .ok (.iload_n 2, 1) := by decide +kernel
theorem dX6_step_52 : decode cX6_step 52 = .ok (.if_icmp .ne 42, 3) := by decide +kernel
theorem dX6_step_55 : decode cX6_step 55 = .ok (.aload_n 0, 1) := by decide +kernel
theorem dX6_step_56 : decode cX6_step 56 = .ok (.iload 4, 2) := by decide +kernel
theorem dX6_step_58 : decode cX6_step 58 = .ok (.invokevirtual 211, 3) := by decide +kernel
theorem dX6_step_61 : decode cX6_step 61 = .ok (.ifCond .eq 33, 3) := by decide +kernel
theorem dX6_step_64 : decode cX6_step 64 = .ok (.aload_n 0, 1) := by decide +kernel
theorem dX6_step_65 : decode cX6_step 65 = .ok (.getfield 9, 3) := by decide +kernel
theorem dX6_step_68 : decode cX6_step 68 = .ok (.sipush 362, 3) := by decide +kernel
theorem dX6_step_71 : decode cX6_step 71 = .ok (.iload 4, 2) := by decide +kernel
theorem dX6_step_73 : decode cX6_step 73 = .ok (.iadd, 1) := by decide +kernel
theorem dX6_step_74 : decode cX6_step 74 = .ok (.iaload, 1) := by decide +kernel
theorem dX6_step_75 : decode cX6_step 75 = .ok (.iconst 1, 1) := by decide +kernel
theorem dX6_step_76 : decode cX6_step 76 = .ok (.if_icmp .eq 7, 3) := by decide +kernel
theorem dX6_step_79 : decode cX6_step 79 = .ok (.iconst 0, 1) := by decide +kernel
theorem dX6_step_80 : decode cX6_step 80 = .ok (.goto 13, 3) := by decide +kernel
theorem dX6_step_83 : decode cX6_step 83 = .ok (.iload_n 3, 1) := by decide +kernel
theorem dX6_step_84 : decode cX6_step 84 = .ok (.iconst (-1), 1) := by decide +kernel
theorem dX6_step_85 : decode cX6_step 85 = .ok (.if_icmp .ne 7, 3) := by decide +kernel
theorem dX6_step_88 : decode cX6_step 88 = .ok (.iconst 1, 1) := by decide +kernel
theorem dX6_step_89 : decode cX6_step 89 = .ok (.goto 4, 3) := by decide +kernel
theorem dX6_step_92 : decode cX6_step 92 = .ok (.iload_n 3, 1) := by decide +kernel
theorem dX6_step_93 : decode cX6_step 93 = .ok (.istore_n 3, 1) := by decide +kernel
theorem dX6_step_94 : decode cX6_step 94 = .ok (.iinc 4 1, 3) := by decide +kernel
theorem dX6_step_97 : decode cX6_step 97 = .ok (.goto (-92), 3) := by decide +kernel
theorem dX6_step_100 : decode cX6_step 100 = .ok (.iload_n 3, 1) := by decide +kernel
theorem dX6_step_101 : decode cX6_step 101 = .ok (.ireturn, 1) := by decide +kernel
set_option maxRecDepth 20000 in
theorem ggX6_once_X6_step : GoodIn wsX6_once wsX6_step := goodIn_r _ [6, 1, 7, 8, 9, 5, 10, 11, 12, 13, 14, 15, 16, 17, 18, 19, 20, 21, 22, 23, 24, 25, 26, 27, 28] (by decide +kernel) (by decide +kernel)
set_option maxRecDepth 20000 in
theorem gX6_once_X6_step : GoodIn wsX6_once (wsV RX6 218 RX6 yX6_step wsX6_step) := goodIn_app (goodIn_of _ (by decide +kernel)) ggX6_once_X6_step
theorem dX6_once_0 : decode cX6_once 0 = .ok (.iconst 0, 1) := by decide +kernel
theorem dX6_once_1 : decode cX6_once 1 = .ok (.istore_n 1, 1) := by decide +kernel
theorem dX6_once_2 : decode cX6_once 2 = .ok (.iconst 0, 1) := by decide +kernel
theorem dX6_once_3 : decode cX6_once 3 = .ok (.istore_n 2, 1) := by decide +kernel
theorem dX6_once_4 : decode cX6_once 4 = .ok (.iload_n 2, 1) := by decide +kernel
theorem dX6_once_5 : decode cX6_once 5 = .ok (.aload_n 0, 1) := by decide +kernel
theorem dX6_once_6 : decode cX6_once 6 = .ok (.getfield 9, 3) := by decide +kernel
theorem dX6_once_9 : decode cX6_once 9 = .ok (.iconst 0, 1) := by decide +kernel
theorem dX6_once_10 : decode cX6_once 10 = .ok (.iaload, 1) := by decide +kernel
theorem dX6_once_11 : decode cX6_once 11 = .ok (.if_icmp .ge 94, 3) := by decide +kernel
theorem dX6_once_14 : decode cX6_once 14 = .ok (.iconst 0, 1) := by decide +kernel
theorem dX6_once_15 : decode cX6_once 15 = .ok (.istore_n 3, 1) := by decide +kernel
theorem dX6_once_16 : decode cX6_once 16 = .ok (.iconst 0, 1) := by decide +kernel
theorem dX6_once_17 : decode cX6_once 17 = .ok (.istore 4, 2) := by decide +kernel
theorem dX6_once_19 : decode cX6_once 19 = .ok (.iconst 0, 1) := by decide +kernel
theorem dX6_once_20 : decode cX6_once 20 = .ok (.istore 5, 2) := by decide +kernel
theorem dX6_once_22 : decode cX6_once 22 = .ok (.iload 5, 2) := by decide +kernel
theorem dX6_once_24 : decode cX6_once 24 = .ok (.iconst 4, 1) := by decide +kernel
theorem dX6_once_25 : decode cX6_once 25 = .ok (.if_icmp .ge 47, 3) := by decide +kernel
theorem dX6_once_28 : decode cX6_once 28 = .ok (.aload_n 0, 1) := by decide +kernel
theorem dX6_once_29 : decode cX6_once 29 = .ok (.iload_n 2, 1) := by decide +kernel
theorem dX6_once_30 : decode cX6_once 30 = .ok (.iload 5, 2) := by decide +kernel
theorem dX6_once_32 : decode cX6_once 32 = .ok (.invokevirtual 218, 3) := by decide +kernel
theorem dX6_once_35 : decode cX6_once 35 = .ok (.istore 6, 2) := by decide +kernel
theorem dX6_once_37 : decode cX6_once 37 = .ok (.iload_n 3, 1) := by decide +kernel
theorem dX6_once_38 : decode cX6_once 38 = .ok (.iload 6, 2) := by decide +kernel
theorem dX6_once_40 : decode cX6_once 40 = .ok (.iconst 1, 1) := by decide +kernel
theorem dX6_once_41 : decode cX6_once 41 = .ok (.if_icmp .ne 7, 3) := by decide +kernel
theorem dX6_once_44 : decode cX6_once 44 = .ok (.iconst 1, 1) := by decide +kernel
theorem dX6_once_45 : decode cX6_once 45 = .ok (.goto 4, 3) := by decide +kernel
theorem dX6_once_48 : decode cX6_once 48 = .ok (.iconst 0, 1) := by decide +kernel
theorem dX6_once_49 : decode cX6_once 49 = .ok (.iadd, 1) := by decide +kernel
theorem dX6_once_50 : decode cX6_once 50 = .ok (.istore_n 3, 1) := by decide +kernel
theorem dX6_once_51 : decode cX6_once 51 = .ok (.iload 4, 2) := by decide +kernel
theorem dX6_once_53 : decode cX6_once 53 = .ok (.iload 6, 2) := by decide +kernel
theorem dX6_once_55 : decode cX6_once 55 = .ok (.ifCond .ne 7, 3) := by decide +kernel
theorem dX6_once_58 : decode cX6_once 58 = .ok (.iconst 1, 1) := by decide +kernel
theorem dX6_once_59 : decode cX6_once 59 = .ok (.goto 4, 3) := by decide +kernel
theorem dX6_once_62 : decode cX6_once 62 = .ok (.iconst 0, 1) := by decide +kernel
theorem dX6_once_63 : decode cX6_once 63 = .ok (.iadd, 1) := by decide +kernel
theorem dX6_once_64 : decode cX6_once 64 = .ok (.istore 4, 2) := by decide +kernel
theorem dX6_once_66 : decode cX6_once 66 = .ok (.iinc 5 1, 3) := by decide +kernel
theorem dX6_once_69 : decode cX6_once 69 = .ok (.goto (-47), 3) := by decide +kernel
theorem dX6_once_72 : decode cX6_once 72 = .ok (.iload_n 1, 1) := by decide +kernel
theorem dX6_once_73 : decode cX6_once 73 = .ok (.iload_n 3, 1) := by decide +kernel
theorem dX6_once_74 : decode cX6_once 74 = .ok (.iload 4, 2) := by decide +kernel
theorem dX6_once_76 : decode cX6_once 76 = .ok (.iadd, 1) := by decide +kernel
theorem dX6_once_77 : decode cX6_once 77 = .ok (.iconst 1, 1) := by decide +kernel
theorem dX6_once_78 : decode cX6_once 78 = .ok (.if_icmp .le 18, 3) := by decide +kernel
theorem dX6_once_81 : decode cX6_once 81 = .ok (.iload_n 3, 1) := by decide +kernel
theorem dX6_once_82 : decode cX6_once 82 = .ok (.ifCond .eq 8, 3) := by decide +kernel
theorem dX6_once_85 : decode cX6_once 85 = .ok (.iload 4, 2) := by decide +kernel
theorem dX6_once_87 : decode cX6_once 87 = .ok (.ifCond .ne 9, 3) := by decide +kernel
theorem dX6_once_90 : decode cX6_once 90 = .ok (.iconst 1, 1) := by decide +kernel
theorem dX6_once_91 : decode cX6_once 91 = .ok (.iload_n 2, 1) := by decide +kernel
theorem dX6_once_92 : decode cX6_once 92 = .ok (.ishl, 1) := by decide +kernel
theorem dX6_once_93 : decode cX6_once 93 = .ok (.goto 4, 3) := by decide +kernel
theorem dX6_once_96 : decode cX6_once 96 = .ok (.iconst 0, 1) := by decide +kernel
theorem dX6_once_97 : decode cX6_once 97 = .ok (.ior, 1) := by decide +kernel
theorem dX6_once_98 : decode cX6_once 98 = .ok (.istore_n 1, 1) := by decide +kernel
theorem dX6_once_99 : decode cX6_once 99 = .ok (.iinc 2 1, 3) := by decide +kernel
theorem dX6_once_102 : decode cX6_once 102 = .ok (.goto (-98), 3) := by decide +kernel
theorem dX6_once_105 : decode cX6_once 105 = .ok (.iload_n 1, 1) := by decide +kernel
theorem dX6_once_106 : decode cX6_once 106 = .ok (.ireturn, 1) := by decide +kernel
set_option maxRecDepth 20000 in
theorem ggX6_order_X6_isStuff : GoodIn wsX6_order wsX6_isStuff := goodIn_r _ [5, 6, 7, 4, 8] (by decide +kernel) (by decide +kernel)
set_option maxRecDepth 20000 in
theorem gX6_order_X6_isStuff : GoodIn wsX6_order (va_wsS RX6 40 yX6_isStuff wsX6_isStuff) := goodIn_app (goodIn_of _ (by decide +kernel)) ggX6_order_X6_isStuff
set_option maxRecDepth 20000 in
theorem ggX6_order_X6_step : GoodIn wsX6_order wsX6_step := goodIn_r _ [12, 1, 13, 14, 15, 4, 16, 17, 18, 19, 20, 21, 22, 23, 24, 25, 26, 27, 28, 29, 30, 31, 32, 33, 34] (by decide +kernel) (by decide +kernel)
set_option maxRecDepth 20000 in
theorem gX6_order_X6_step : GoodIn wsX6_order (wsV RX6 218 RX6 yX6_step wsX6_step) := goodIn_app (goodIn_of _ (by decide +kernel)) ggX6_order_X6_step
theorem dX6_order_0 : decode cX6_order 0 = .ok (.iload_n 1, 1) := by decide +kernel
theorem dX6_order_1 : decode cX6_order 1 = .ok (.invokestatic 40, 3) := by decide +kernel
theorem dX6_order_4 : decode cX6_order 4 = .ok (.ifCond .eq 10, 3) := by decide +kernel
theorem dX6_order_7 : decode cX6_order 7 = .ok (.iload_n 2, 1) := by decide +kernel
theorem dX6_order_8 : decode cX6_order 8 = .ok (.invokestatic 40, 3) := by decide +kernel
theorem dX6_order_11 : decode cX6_order 11 = .ok (.ifCond .ne 5, 3) := by decide +kernel
theorem dX6_order_14 : decode cX6_order 14 = .ok (.iconst (-1), 1) := by decide +kernel
theorem dX6_order_15 : decode cX6_order 15 = .ok (.ireturn, 1) := by decide +kernel
theorem dX6_order_16 : decode cX6_order 16 = .ok (.iload_n 1, 1) := by decide +kernel
theorem dX6_order_17 : decode cX6_order 17 = .ok (.iload_n 2, 1) := by decide +kernel
theorem dX6_order_18 : decode cX6_order 18 = .ok (.if_icmp .ne 6, 3) := by decide +kernel
theorem dX6_order_21 : decode cX6_order 21 = .ok (.bipush (-2), 2) := by decide +kernel
theorem dX6_order_23 : decode cX6_order 23 = .ok (.ireturn, 1) := by decide +kernel
theorem dX6_order_24 : decode cX6_order 24 = .ok (.iconst 0, 1) := by decide +kernel
theorem dX6_order_25 : decode cX6_order 25 = .ok (.istore_n 3, 1) := by decide +kernel
theorem dX6_order_26 : decode cX6_order 26 = .ok (.iconst 0, 1) := by decide +kernel
theorem dX6_order_27 : decode cX6_order 27 = .ok (.istore 4, 2) := by decide +kernel
theorem dX6_order_29 : decode cX6_order 29 = .ok (.iload 4, 2) := by decide +kernel
theorem dX6_order_31 : decode cX6_order 31 = .ok (.aload_n 0, 1) := by decide +kernel
theorem dX6_order_32 : decode cX6_order 32 = .ok (.getfield 9, 3) := by decide +kernel
theorem dX6_order_35 : decode cX6_order 35 = .ok (.iconst 0, 1) := by decide +kernel
theorem dX6_order_36 : decode cX6_order 36 = .ok (.iaload, 1) := by decide +kernel
theorem dX6_order_37 : decode cX6_order 37 = .ok (.if_icmp .ge 38, 3) := by decide +kernel
theorem dX6_order_40 : decode cX6_order 40 = .ok (.iload_n 3, 1) := by decide +kernel
theorem dX6_order_41 : decode cX6_order 41 = .ok (.aload_n 0, 1) := by decide +kernel
theorem dX6_order_42 : decode cX6_order 42 = .ok (.iload 4, 2) := by decide +kernel
theorem dX6_order_44 : decode cX6_order 44 = .ok (.iload_n 1, 1) := by decide +kernel
theorem dX6_order_45 : decode cX6_order 45 = .ok (.invokevirtual 218, 3) := by decide +kernel
theorem dX6_order_48 : decode cX6_order 48 = .ok (.iconst 1, 1) := by decide +kernel
theorem dX6_order_49 : decode cX6_order 49 = .ok (.if_icmp .ne 17, 3) := by decide +kernel
theorem dX6_order_52 : decode cX6_order 52 = .ok (.aload_n 0, 1) := by decide +kernel
theorem dX6_order_53 : decode cX6_order 53 = .ok (.iload 4, 2) := by decide +kernel
theorem dX6_order_55 : decode cX6_order 55 = .ok (.iload_n 2, 1) := by decide +kernel
theorem dX6_order_56 : decode cX6_order 56 = .ok (.invokevirtual 218, 3) := by decide +kernel
theorem dX6_order_59 : decode cX6_order 59 = .ok (.ifCond .ne 7, 3) := by decide +kernel
theorem dX6_order_62 : decode cX6_order 62 = .ok (.iconst 1, 1) := by decide +kernel
theorem dX6_order_63 : decode cX6_order 63 = .ok (.goto 4, 3) := by decide +kernel
theorem dX6_order_66 : decode cX6_order 66 = .ok (.iconst 0, 1) := by decide +kernel
theorem dX6_order_67 : decode cX6_order 67 = .ok (.iadd, 1) := by decide +kernel
theorem dX6_order_68 : decode cX6_order 68 = .ok (.istore_n 3, 1) := by decide +kernel
theorem dX6_order_69 : decode cX6_order 69 = .ok (.iinc 4 1, 3) := by decide +kernel
theorem dX6_order_72 : decode cX6_order 72 = .ok (.goto (-43), 3) := by decide +kernel
theorem dX6_order_75 : decode cX6_order 75 = .ok (.iload_n 3, 1) := by decide +kernel
theorem dX6_order_76 : decode cX6_order 76 = .ok (.ireturn, 1) := by decide +kernel
set_option maxRecDepth 20000 in
theorem ggX6_from_X6_isStuff : GoodIn wsX6_from wsX6_isStuff := goodIn_r _ [5, 6, 7, 4, 8] (by decide +kernel) (by decide +kernel)
set_option maxRecDepth 20000 in
theorem gX6_from_X6_isStuff : GoodIn wsX6_from (va_wsS RX6 40 yX6_isStuff wsX6_isStuff) := goodIn_app (goodIn_of _ (by decide +kernel)) ggX6_from_X6_isStuff
set_option maxRecDepth 20000 in
theorem ggX6_from_X6_isUnchanged : GoodIn wsX6_from wsX6_isUnchanged := goodIn_r _ [12, 1, 13, 14, 15, 16, 17, 18, 19, 20, 21, 22, 23, 24, 25, 26, 27, 28, 29, 30] (by decide +kernel) (by decide +kernel)
set_option maxRecDepth 20000 in
theorem gX6_from_X6_isUnchanged : GoodIn wsX6_from (wsV RX6 211 RX6 yX6_isUnchanged wsX6_isUnchanged) := goodIn_app (goodIn_of _ (by decide +kernel)) ggX6_from_X6_isUnchanged
theorem dX6_from_0 : decode cX6_from 0 = .ok (.iload_n 1, 1) := by decide +kernel
theorem dX6_from_1 : decode cX6_from 1 = .ok (.invokestatic 40, 3) := by decide +kernel
theorem dX6_from_4 : decode cX6_from 4 = .ok (.ifCond .ne 5, 3) := by decide +kernel
theorem dX6_from_7 : decode cX6_from 7 = .ok (.iconst (-1), 1) := by decide +kernel
theorem dX6_from_8 : decode cX6_from 8 = .ok (.ireturn, 1) := by decide +kernel
theorem dX6_from_9 : decode cX6_from 9 = .ok (.bipush 24, 2) := by decide +kernel
theorem dX6_from_11 : decode cX6_from 11 = .ok (.istore_n 3, 1) := by decide +kernel
theorem dX6_from_12 : decode cX6_from 12 = .ok (.iload_n 3, 1) := by decide +kernel
theorem dX6_from_13 : decode cX6_from 13 = .ok (.bipush 120, 2) := by decide +kernel
theorem dX6_from_15 : decode cX6_from 15 = .ok (.if_icmp .gt 141, 3) := by decide +kernel
theorem dX6_from_18 : decode cX6_from 18 = .ok (.iconst 0, 1) := by decide +kernel
theorem dX6_from_19 : decode cX6_from 19 = .ok (.istore 4, 2) := by decide +kernel
theorem dX6_from_21 : decode cX6_from 21 = .ok (.iconst 0, 1) := by decide +kernel
theorem dX6_from_22 : decode cX6_from 22 = .ok (.istore 5, 2) := by decide +kernel
theorem dX6_from_24 : decode cX6_from 24 = .ok (.iconst 0, 1) := by decide +kernel
theorem dX6_from_25 : decode cX6_from 25 = .ok (.istore 6, 2) := by decide +kernel
theorem dX6_from_27 : decode cX6_from 27 = .ok (.iload 6, 2) := by decide +kernel
theorem dX6_from_29 : decode cX6_from 29 = .ok (.aload_n 0, 1) := by decide +kernel
theorem dX6_from_30 : decode cX6_from 30 = .ok (.getfield 9, 3) := by decide +kernel
theorem dX6_from_33 : decode cX6_from 33 = .ok (.iconst 2, 1) := by decide +kernel
theorem dX6_from_34 : decode cX6_from 34 = .ok (.iaload, 1) := by decide +kernel
theorem dX6_from_35 : decode cX6_from 35 = .ok (.if_icmp .ge 104, 3) := by decide +kernel
theorem dX6_from_38 : decode cX6_from 38 = .ok (.aload_n 0, 1) := by decide +kernel
theorem dX6_from_39 : decode cX6_from 39 = .ok (.getfield 9, 3) := by decide +kernel
theorem dX6_from_42 : decode cX6_from 42 = .ok (.sipush 170, 3) := by decide +kernel
theorem dX6_from_45 : decode cX6_from 45 = .ok (.aload_n 0, 1) := by decide +kernel
theorem dX6_from_46 : decode cX6_from 46 = .ok (.getfield 9, 3) := by decide +kernel
theorem dX6_from_49 : decode cX6_from 49 = .ok (.sipush 322, 3) := by decide +kernel
theorem dX6_from_52 : decode cX6_from 52 = .ok (.iload 6, 2) := by decide +kernel
theorem dX6_from_54 : decode cX6_from 54 = .ok (.iadd, 1) := by decide +kernel
theorem dX6_from_55 : decode cX6_from 55 = .ok (.iaload, 1) := by decide +kernel
theorem dX6_from_56 : decode cX6_from 56 = .ok (.iadd, 1) := by decide +kernel
theorem dX6_from_57 : decode cX6_from 57 = .ok (.iaload, 1) := by decide +kernel
theorem dX6_from_58 : decode cX6_from 58 = .ok (.iload_n 1, 1) := by decide +kernel
theorem dX6_from_59 : decode cX6_from 59 = .ok (.if_icmp .ne 74, 3) := by decide +kernel
theorem dX6_from_62 : decode cX6_from 62 = .ok (.aload_n 0, 1) := by decide +kernel
theorem dX6_from_63 : decode cX6_from 63 = .ok (.iload 6, 2) := by decide +kernel
theorem dX6_from_65 : decode cX6_from 65 = .ok (.invokevirtual 211, 3) := by decide +kernel
theorem dX6_from_68 : decode cX6_from 68 = .ok (.ifCond .eq 65, 3) := by decide +kernel
theorem dX6_from_71 : decode cX6_from 71 = .ok (.aload_n 0, 1) := by decide +kernel
theorem dX6_from_72 : decode cX6_from 72 = .ok (.getfield 9, 3) := by decide +kernel
theorem dX6_from_75 : decode cX6_from 75 = .ok (.sipush 442, 3) := by decide +kernel
theorem dX6_from_78 : decode cX6_from 78 = .ok (.iload 6, 2) := by decide +kernel
theorem dX6_from_80 : decode cX6_from 80 = .ok (.iadd, 1) := by decide +kernel
theorem dX6_from_81 : decode cX6_from 81 = .ok (.iaload, 1) := by decide +kernel
theorem dX6_from_82 : decode cX6_from 82 = .ok (.iload_n 3, 1) := by decide +kernel
theorem dX6_from_83 : decode cX6_from 83 = .ok (.if_icmp .lt 50, 3) := by decide +kernel
theorem dX6_from_86 : decode cX6_from 86 = .ok (.iinc 4 1, 3) := by decide +kernel
theorem dX6_from_89 : decode cX6_from 89 = .ok (.iload 5, 2) := by decide +kernel
theorem dX6_from_91 : decode cX6_from 91 = .ok (.aload_n 0, 1) := by decide +kernel
theorem dX6_from_92 : decode cX6_from 92 = .ok (.getfield 9, 3) := by decide +kernel
theorem dX6_from_95 : decode cX6_from 95 = .ok (.sipush 362, 3) := by decide +kernel
theorem dX6_from_98 : decode cX6_from 98 = .ok (.iload 6, 2) := by decide +kernel
theorem dX6_from_100 : decode cX6_from 100 = .ok (.iadd, 1) := by decide +kernel
theorem dX6_from_101 : decode cX6_from 101 = .ok (.iaload, 1) := by decide +kernel
theorem dX6_from_102 : decode cX6_from 102 = .ok (.iconst 1, 1) := by decide +kernel
theorem dX6_from_103 : decode cX6_from 103 = .ok (.if_icmp .ne 26, 3) := by decide +kernel
theorem dX6_from_106 : decode cX6_from 106 = .ok (.iload_n 2, 1) := by decide +kernel
theorem dX6_from_107 : decode cX6_from 107 = .ok (.ifCond .eq 18, 3) := by decide +kernel
theorem dX6_from_110 : decode cX6_from 110 = .ok (.aload_n 0, 1) := by decide +kernel
theorem dX6_from_111 : decode cX6_from 111 = .ok (.getfield 9, 3) := by decide +kernel
theorem dX6_from_114 : decode cX6_from 114 = .ok (.sipush 402, 3) := by decide +kernel
theorem dX6_from_117 : decode cX6_from 117 = .ok (.iload 6, 2) := by decide +kernel
theorem dX6_from_119 : decode cX6_from 119 = .ok (.iadd, 1) := by decide +kernel
theorem dX6_from_120 : decode cX6_from 120 = .ok (.iaload, 1) := by decide +kernel
theorem dX6_from_121 : decode cX6_from 121 = .ok (.iconst 1, 1) := by decide +kernel
theorem dX6_from_122 : decode cX6_from 122 = .ok (.if_icmp .ne 7, 3) := by decide +kernel
theorem dX6_from_125 : decode cX6_from 125 = .ok (.iconst 1, 1) := by decide +kernel
theorem dX6_from_126 : decode cX6_from 126 = .ok (.goto 4, 3) := by decide +kernel
theorem dX6_from_129 : decode cX6_from 129 = .ok (.iconst 0, 1) := by decide +kernel
theorem dX6_from_130 : decode cX6_from 130 = .ok (.iadd, 1) := by decide +kernel
theorem dX6_from_131 : decode cX6_from 131 = .ok (.istore 5, 2) := by decide +kernel
theorem dX6_from_133 : decode cX6_from 133 = .ok (.iinc 6 1, 3) := by decide +kernel
theorem dX6_from_136 : decode cX6_from 136 = .ok (.goto (-109), 3) := by decide +kernel
theorem dX6_from_139 : decode cX6_from 139 = .ok (.iconst 2, 1) := by decide +kernel
theorem dX6_from_140 : decode cX6_from 140 = .ok (.iload 5, 2) := by decide +kernel
theorem dX6_from_142 : decode cX6_from 142 = .ok (.imul, 1) := by decide +kernel
theorem dX6_from_143 : decode cX6_from 143 = .ok (.iload 4, 2) := by decide +kernel
theorem dX6_from_145 : decode cX6_from 145 = .ok (.if_icmp .le 5, 3) := by decide +kernel
theorem dX6_from_148 : decode cX6_from 148 = .ok (.iload_n 3, 1) := by decide +kernel
theorem dX6_from_149 : decode cX6_from 149 = .ok (.ireturn, 1) := by decide +kernel
theorem dX6_from_150 : decode cX6_from 150 = .ok (.iinc 3 1, 3) := by decide +kernel
theorem dX6_from_153 : decode cX6_from 153 = .ok (.goto (-141), 3) := by decide +kernel
theorem dX6_from_156 : decode cX6_from 156 = .ok (.bipush (-5), 2) := by decide +kernel
theorem dX6_from_158 : decode cX6_from 158 = .ok (.ireturn, 1) := by decide +kernel
set_option maxRecDepth 20000 in
theorem ggX6_spread_X6_isLaw : GoodIn wsX6_spread wsX6_isLaw := goodIn_r _ [6, 1, 7, 8, 5, 9, 18, 19, 20, 21, 22, 23, 24, 25, 26, 27, 28, 29, 30, 31, 32, 33, 34, 35] (by decide +kernel) (by decide +kernel)
set_option maxRecDepth 20000 in
theorem gX6_spread_X6_isLaw : GoodIn wsX6_spread (wsV RX6 135 RX6 yX6_isLaw wsX6_isLaw) := goodIn_app (goodIn_of _ (by decide +kernel)) ggX6_spread_X6_isLaw
set_option maxRecDepth 20000 in
theorem ggX6_spread_X6_isChild : GoodIn wsX6_spread wsX6_isChild := goodIn_r _ [13, 1, 7, 8, 5, 9, 18, 19, 20, 21, 22, 23, 24, 25, 26, 27, 28, 29, 30, 31, 32, 33, 34, 35] (by decide +kernel) (by decide +kernel)
set_option maxRecDepth 20000 in
theorem gX6_spread_X6_isChild : GoodIn wsX6_spread (wsV RX6 36 RX6 yX6_isChild wsX6_isChild) := goodIn_app (goodIn_of _ (by decide +kernel)) ggX6_spread_X6_isChild
set_option maxRecDepth 20000 in
theorem ggX6_spread_X6_in : GoodIn wsX6_spread wsX6_in := goodIn_r _ [9] (by decide +kernel) (by decide +kernel)
set_option maxRecDepth 20000 in
theorem gX6_spread_X6_in : GoodIn wsX6_spread (va_wsS RX6 32 yX6_in wsX6_in) := goodIn_app (goodIn_of _ (by decide +kernel)) ggX6_spread_X6_in
set_option maxRecDepth 20000 in
theorem ggX6_spread_X6_isKept : GoodIn wsX6_spread wsX6_isKept := goodIn_r _ [17, 1, 18, 19, 20, 21, 22, 23, 24, 25, 26, 27, 28, 29, 30, 31, 32, 33, 34, 35] (by decide +kernel) (by decide +kernel)
set_option maxRecDepth 20000 in
theorem gX6_spread_X6_isKept : GoodIn wsX6_spread (wsV RX6 138 RX6 yX6_isKept wsX6_isKept) := goodIn_app (goodIn_of _ (by decide +kernel)) ggX6_spread_X6_isKept
theorem dX6_spread_0 : decode cX6_spread 0 = .ok (.aload_n 0, 1) := by decide +kernel
theorem dX6_spread_1 : decode cX6_spread 1 = .ok (.iload_n 1, 1) := by decide +kernel
theorem dX6_spread_2 : decode cX6_spread 2 = .ok (.invokevirtual 135, 3) := by decide +kernel
theorem dX6_spread_5 : decode cX6_spread 5 = .ok (.ifCond .eq 11, 3) := by decide +kernel
theorem dX6_spread_8 : decode cX6_spread 8 = .ok (.aload_n 0, 1) := by decide +kernel
theorem dX6_spread_9 : decode cX6_spread 9 = .ok (.iload_n 2, 1) := by decide +kernel
theorem dX6_spread_10 : decode cX6_spread 10 = .ok (.invokevirtual 36, 3) := by decide +kernel
theorem dX6_spread_13 : decode cX6_spread 13 = .ok (.ifCond .ne 5, 3) := by decide +kernel
theorem dX6_spread_16 : decode cX6_spread 16 = .ok (.iconst (-1), 1) := by decide +kernel
theorem dX6_spread_17 : decode cX6_spread 17 = .ok (.ireturn, 1) := by decide +kernel
theorem dX6_spread_18 : decode cX6_spread 18 = .ok (.iload_n 3, 1) := by decide +kernel
theorem dX6_spread_19 : decode cX6_spread 19 = .ok (.iconst 0, 1) := by decide +kernel
theorem dX6_spread_20 : decode cX6_spread 20 = .ok (.bipush 99, 2) := by decide +kernel
theorem dX6_spread_22 : decode cX6_spread 22 = .ok (.invokestatic 32, 3) := by decide +kernel
theorem dX6_spread_25 : decode cX6_spread 25 = .ok (.ifCond .ne 6, 3) := by decide +kernel
theorem dX6_spread_28 : decode cX6_spread 28 = .ok (.bipush (-2), 2) := by decide +kernel
theorem dX6_spread_30 : decode cX6_spread 30 = .ok (.ireturn, 1) := by decide +kernel
theorem dX6_spread_31 : decode cX6_spread 31 = .ok (.iconst 0, 1) := by decide +kernel
theorem dX6_spread_32 : decode cX6_spread 32 = .ok (.istore 4, 2) := by decide +kernel
theorem dX6_spread_34 : decode cX6_spread 34 = .ok (.iconst 0, 1) := by decide +kernel
theorem dX6_spread_35 : decode cX6_spread 35 = .ok (.istore 5, 2) := by decide +kernel
theorem dX6_spread_37 : decode cX6_spread 37 = .ok (.iconst 0, 1) := by decide +kernel
theorem dX6_spread_38 : decode cX6_spread 38 = .ok (.istore 6, 2) := by decide +kernel
theorem dX6_spread_40 : decode cX6_spread 40 = .ok (.iload 6, 2) := by decide +kernel
theorem dX6_spread_42 : decode cX6_spread 42 = .ok (.iconst 4, 1) := by decide +kernel
theorem dX6_spread_43 : decode cX6_spread 43 = .ok (.if_icmp .ge 76, 3) := by decide +kernel
theorem dX6_spread_46 : decode cX6_spread 46 = .ok (.iload 4, 2) := by decide +kernel
theorem dX6_spread_48 : decode cX6_spread 48 = .ok (.ifCond .ne 22, 3) := by decide +kernel
theorem dX6_spread_51 : decode cX6_spread 51 = .ok (.aload_n 0, 1) := by decide +kernel
theorem dX6_spread_52 : decode cX6_spread 52 = .ok (.getfield 9, 3) := by decide +kernel
theorem dX6_spread_55 : decode cX6_spread 55 = .ok (.sipush 138, 3) := by decide +kernel
theorem dX6_spread_58 : decode cX6_spread 58 = .ok (.iconst 4, 1) := by decide +kernel
theorem dX6_spread_59 : decode cX6_spread 59 = .ok (.iload_n 2, 1) := by decide +kernel
theorem dX6_spread_60 : decode cX6_spread 60 = .ok (.imul, 1) := by decide +kernel
theorem dX6_spread_61 : decode cX6_spread 61 = .ok (.iadd, 1) := by decide +kernel
theorem dX6_spread_62 : decode cX6_spread 62 = .ok (.iload 6, 2) := by decide +kernel
theorem dX6_spread_64 : decode cX6_spread 64 = .ok (.iadd, 1) := by decide +kernel
theorem dX6_spread_65 : decode cX6_spread 65 = .ok (.iaload, 1) := by decide +kernel
theorem dX6_spread_66 : decode cX6_spread 66 = .ok (.iconst (-1), 1) := by decide +kernel
theorem dX6_spread_67 : decode cX6_spread 67 = .ok (.if_icmp .eq 7, 3) := by decide +kernel
theorem dX6_spread_70 : decode cX6_spread 70 = .ok (.iconst 1, 1) := by decide +kernel
theorem dX6_spread_71 : decode cX6_spread 71 = .ok (.goto 4, 3) := by decide +kernel
theorem dX6_spread_74 : decode cX6_spread 74 = .ok (.iconst 0, 1) := by decide +kernel
theorem dX6_spread_75 : decode cX6_spread 75 = .ok (.istore 4, 2) := by decide +kernel
theorem dX6_spread_77 : decode cX6_spread 77 = .ok (.iload 5, 2) := by decide +kernel
theorem dX6_spread_79 : decode cX6_spread 79 = .ok (.aload_n 0, 1) := by decide +kernel
theorem dX6_spread_80 : decode cX6_spread 80 = .ok (.iload_n 1, 1) := by decide +kernel
theorem dX6_spread_81 : decode cX6_spread 81 = .ok (.iload_n 2, 1) := by decide +kernel
theorem dX6_spread_82 : decode cX6_spread 82 = .ok (.iload 6, 2) := by decide +kernel
theorem dX6_spread_84 : decode cX6_spread 84 = .ok (.aload_n 0, 1) := by decide +kernel
theorem dX6_spread_85 : decode cX6_spread 85 = .ok (.getfield 9, 3) := by decide +kernel
theorem dX6_spread_88 : decode cX6_spread 88 = .ok (.sipush 130, 3) := by decide +kernel
theorem dX6_spread_91 : decode cX6_spread 91 = .ok (.iload_n 2, 1) := by decide +kernel
theorem dX6_spread_92 : decode cX6_spread 92 = .ok (.iadd, 1) := by decide +kernel
theorem dX6_spread_93 : decode cX6_spread 93 = .ok (.iaload, 1) := by decide +kernel
theorem dX6_spread_94 : decode cX6_spread 94 = .ok (.iload_n 3, 1) := by decide +kernel
theorem dX6_spread_95 : decode cX6_spread 95 = .ok (.iadd, 1) := by decide +kernel
theorem dX6_spread_96 : decode cX6_spread 96 = .ok (.invokevirtual 138, 3) := by decide +kernel
theorem dX6_spread_99 : decode cX6_spread 99 = .ok (.ifCond .eq 10, 3) := by decide +kernel
theorem dX6_spread_102 : decode cX6_spread 102 = .ok (.iconst 1, 1) := by decide +kernel
theorem dX6_spread_103 : decode cX6_spread 103 = .ok (.iload 6, 2) := by decide +kernel
theorem dX6_spread_105 : decode cX6_spread 105 = .ok (.ishl, 1) := by decide +kernel
theorem dX6_spread_106 : decode cX6_spread 106 = .ok (.goto 4, 3) := by decide +kernel
theorem dX6_spread_109 : decode cX6_spread 109 = .ok (.iconst 0, 1) := by decide +kernel
theorem dX6_spread_110 : decode cX6_spread 110 = .ok (.ior, 1) := by decide +kernel
theorem dX6_spread_111 : decode cX6_spread 111 = .ok (.istore 5, 2) := by decide +kernel
theorem dX6_spread_113 : decode cX6_spread 113 = .ok (.iinc 6 1, 3) := by decide +kernel
theorem dX6_spread_116 : decode cX6_spread 116 = .ok (.goto (-76), 3) := by decide +kernel
theorem dX6_spread_119 : decode cX6_spread 119 = .ok (.iload 4, 2) := by decide +kernel
theorem dX6_spread_121 : decode cX6_spread 121 = .ok (.ifCond .eq 8, 3) := by decide +kernel
theorem dX6_spread_124 : decode cX6_spread 124 = .ok (.iload 5, 2) := by decide +kernel
theorem dX6_spread_126 : decode cX6_spread 126 = .ok (.goto 5, 3) := by decide +kernel
theorem dX6_spread_129 : decode cX6_spread 129 = .ok (.bipush (-3), 2) := by decide +kernel
theorem dX6_spread_131 : decode cX6_spread 131 = .ok (.ireturn, 1) := by decide +kernel
theorem dX6_runs_0 : decode cX6_runs 0 = .ok (.aload_n 0, 1) := by decide +kernel
theorem dX6_runs_1 : decode cX6_runs 1 = .ok (.getfield 221, 3) := by decide +kernel
theorem dX6_runs_4 : decode cX6_runs 4 = .ok (.bipush 20, 2) := by decide +kernel
theorem dX6_runs_6 : decode cX6_runs 6 = .ok (.if_icmp .ge 13, 3) := by decide +kernel
theorem dX6_runs_9 : decode cX6_runs 9 = .ok (.aload_n 0, 1) := by decide +kernel
theorem dX6_runs_10 : decode cX6_runs 10 = .ok (.getfield 25, 3) := by decide +kernel
theorem dX6_runs_13 : decode cX6_runs 13 = .ok (.aload_n 0, 1) := by decide +kernel
theorem dX6_runs_14 : decode cX6_runs 14 = .ok (.getfield 221, 3) := by decide +kernel
theorem dX6_runs_17 : decode cX6_runs 17 = .ok (.iload_n 1, 1) := by decide +kernel
theorem dX6_runs_18 : decode cX6_runs 18 = .ok (.iastore, 1) := by decide +kernel
theorem dX6_runs_19 : decode cX6_runs 19 = .ok (.aload_n 0, 1) := by decide +kernel
theorem dX6_runs_20 : decode cX6_runs 20 = .ok (.dup, 1) := by decide +kernel
theorem dX6_runs_21 : decode cX6_runs 21 = .ok (.getfield 221, 3) := by decide +kernel
theorem dX6_runs_24 : decode cX6_runs 24 = .ok (.iconst 1, 1) := by decide +kernel
theorem dX6_runs_25 : decode cX6_runs 25 = .ok (.iadd, 1) := by decide +kernel
theorem dX6_runs_26 : decode cX6_runs 26 = .ok (.putfield 221, 3) := by decide +kernel
theorem dX6_runs_29 : decode cX6_runs 29 = .ok (.return_, 1) := by decide +kernel
theorem dX6_isUnder_0 : decode cX6_isUnder 0 = .ok (.iload_n 1, 1) := by decide +kernel
theorem dX6_isUnder_1 : decode cX6_isUnder 1 = .ok (.ifCond .eq 50, 3) := by decide +kernel
theorem dX6_isUnder_4 : decode cX6_isUnder 4 = .ok (.iload_n 1, 1) := by decide +kernel
theorem dX6_isUnder_5 : decode cX6_isUnder 5 = .ok (.iload_n 0, 1) := by decide +kernel
theorem dX6_isUnder_6 : decode cX6_isUnder 6 = .ok (.if_icmp .eq 45, 3) := by decide +kernel
theorem dX6_isUnder_9 : decode cX6_isUnder 9 = .ok (.iload_n 1, 1) := by decide +kernel
theorem dX6_isUnder_10 : decode cX6_isUnder 10 = .ok (.iconst 1, 1) := by decide +kernel
theorem dX6_isUnder_11 : decode cX6_isUnder 11 = .ok (.if_icmp .ne 8, 3) := by decide +kernel
theorem dX6_isUnder_14 : decode cX6_isUnder 14 = .ok (.iload_n 0, 1) := by decide +kernel
theorem dX6_isUnder_15 : decode cX6_isUnder 15 = .ok (.iconst 4, 1) := by decide +kernel
theorem dX6_isUnder_16 : decode cX6_isUnder 16 = .ok (.if_icmp .eq 35, 3) := by decide +kernel
theorem dX6_isUnder_19 : decode cX6_isUnder 19 = .ok (.iload_n 1, 1) := by decide +kernel
theorem dX6_isUnder_20 : decode cX6_isUnder 20 = .ok (.iconst 2, 1) := by decide +kernel
theorem dX6_isUnder_21 : decode cX6_isUnder 21 = .ok (.if_icmp .ne 19, 3) := by decide +kernel
theorem dX6_isUnder_24 : decode cX6_isUnder 24 = .ok (.iload_n 0, 1) := by decide +kernel
theorem dX6_isUnder_25 : decode cX6_isUnder 25 = .ok (.iconst 3, 1) := by decide +kernel
theorem dX6_isUnder_26 : decode cX6_isUnder 26 = .ok (.if_icmp .eq 25, 3) := by decide +kernel
theorem dX6_isUnder_29 : decode cX6_isUnder 29 = .ok (.iload_n 0, 1) := by decide +kernel
theorem dX6_isUnder_30 : decode cX6_isUnder 30 = .ok (.iconst 5, 1) := by decide +kernel
theorem dX6_isUnder_31 : decode cX6_isUnder 31 = .ok (.if_icmp .eq 20, 3) := by decide +kernel
theorem dX6_isUnder_34 : decode cX6_isUnder 34 = .ok (.iload_n 0, 1) := by decide +kernel
theorem dX6_isUnder_35 : decode cX6_isUnder 35 = .ok (.bipush 6, 2) := by decide +kernel
theorem dX6_isUnder_37 : decode cX6_isUnder 37 = .ok (.if_icmp .eq 14, 3) := by decide +kernel
theorem dX6_isUnder_40 : decode cX6_isUnder 40 = .ok (.iload_n 1, 1) := by decide +kernel
theorem dX6_isUnder_41 : decode cX6_isUnder 41 = .ok (.iconst 3, 1) := by decide +kernel
theorem dX6_isUnder_42 : decode cX6_isUnder 42 = .ok (.if_icmp .ne 13, 3) := by decide +kernel
theorem dX6_isUnder_45 : decode cX6_isUnder 45 = .ok (.iload_n 0, 1) := by decide +kernel
theorem dX6_isUnder_46 : decode cX6_isUnder 46 = .ok (.bipush 6, 2) := by decide +kernel
theorem dX6_isUnder_48 : decode cX6_isUnder 48 = .ok (.if_icmp .ne 7, 3) := by decide +kernel
theorem dX6_isUnder_51 : decode cX6_isUnder 51 = .ok (.iconst 1, 1) := by decide +kernel
theorem dX6_isUnder_52 : decode cX6_isUnder 52 = .ok (.goto 4, 3) := by decide +kernel
theorem dX6_isUnder_55 : decode cX6_isUnder 55 = .ok (.iconst 0, 1) := by decide +kernel
theorem dX6_isUnder_56 : decode cX6_isUnder 56 = .ok (.ireturn, 1) := by decide +kernel
set_option maxRecDepth 20000 in
theorem ggX6_plainRules_X6_runs : GoodIn wsX6_plainRules wsX6_runs := goodIn_r _ [6, 7, 8, 9, 10, 11, 12, 13, 14, 15, 16, 17, 18, 19, 20, 21, 22, 23, 24, 25, 26] (by decide +kernel) (by decide +kernel)
set_option maxRecDepth 20000 in
theorem gX6_plainRules_X6_runs : GoodIn wsX6_plainRules (wsV RX6 224 RX6 yX6_runs wsX6_runs) := goodIn_app (goodIn_of _ (by decide +kernel)) ggX6_plainRules_X6_runs
theorem dX6_plainRules_0 : decode cX6_plainRules 0 = .ok (.aload_n 0, 1) := by decide +kernel
theorem dX6_plainRules_1 : decode cX6_plainRules 1 = .ok (.iconst 1, 1) := by decide +kernel
theorem dX6_plainRules_2 : decode cX6_plainRules 2 = .ok (.invokevirtual 224, 3) := by decide +kernel
theorem dX6_plainRules_5 : decode cX6_plainRules 5 = .ok (.iload_n 1, 1) := by decide +kernel
theorem dX6_plainRules_6 : decode cX6_plainRules 6 = .ok (.aload_n 0, 1) := by decide +kernel
theorem dX6_plainRules_7 : decode cX6_plainRules 7 = .ok (.getfield 227, 3) := by decide +kernel
theorem dX6_plainRules_10 : decode cX6_plainRules 10 = .ok (.iadd, 1) := by decide +kernel
theorem dX6_plainRules_11 : decode cX6_plainRules 11 = .ok (.ireturn, 1) := by decide +kernel
set_option maxRecDepth 20000 in
theorem ggX6_rulesActs_X6_isUnder : GoodIn wsX6_rulesActs wsX6_isUnder := goodIn_r _ [6] (by decide +kernel) (by decide +kernel)
set_option maxRecDepth 20000 in
theorem gX6_rulesActs_X6_isUnder : GoodIn wsX6_rulesActs (va_wsS RX6 233 yX6_isUnder wsX6_isUnder) := goodIn_app (goodIn_of _ (by decide +kernel)) ggX6_rulesActs_X6_isUnder
set_option maxRecDepth 20000 in
theorem ggX6_rulesActs_X6_runs : GoodIn wsX6_rulesActs wsX6_runs := goodIn_r _ [10, 11, 12, 17, 18, 19, 20, 21, 22, 23, 24, 25, 26, 27, 28, 29, 30, 31, 32, 33, 34] (by decide +kernel) (by decide +kernel)
set_option maxRecDepth 20000 in
theorem gX6_rulesActs_X6_runs : GoodIn wsX6_rulesActs (wsV RX6 224 RX6 yX6_runs wsX6_runs) := goodIn_app (goodIn_of _ (by decide +kernel)) ggX6_rulesActs_X6_runs
set_option maxRecDepth 20000 in
theorem ggX6_rulesActs_X6_plainRules : GoodIn wsX6_rulesActs wsX6_plainRules := goodIn_r _ [16, 2, 7, 8, 9, 5, 10, 11, 12, 17, 18, 19, 20, 21, 22, 23, 24, 25, 26, 27, 28, 29, 30, 31, 32, 33, 34] (by decide +kernel) (by decide +kernel)
set_option maxRecDepth 20000 in
theorem gX6_rulesActs_X6_plainRules : GoodIn wsX6_rulesActs (wsV RX6 236 RX6 yX6_plainRules wsX6_plainRules) := goodIn_app (goodIn_of _ (by decide +kernel)) ggX6_rulesActs_X6_plainRules
theorem dX6_rulesActs_0 : decode cX6_rulesActs 0 = .ok (.aload_n 0, 1) := by decide +kernel
theorem dX6_rulesActs_1 : decode cX6_rulesActs 1 = .ok (.getfield 230, 3) := by decide +kernel
theorem dX6_rulesActs_4 : decode cX6_rulesActs 4 = .ok (.iconst 1, 1) := by decide +kernel
theorem dX6_rulesActs_5 : decode cX6_rulesActs 5 = .ok (.invokestatic 233, 3) := by decide +kernel
theorem dX6_rulesActs_8 : decode cX6_rulesActs 8 = .ok (.ifCond .eq 17, 3) := by decide +kernel
theorem dX6_rulesActs_11 : decode cX6_rulesActs 11 = .ok (.aload_n 0, 1) := by decide +kernel
theorem dX6_rulesActs_12 : decode cX6_rulesActs 12 = .ok (.bipush 11, 2) := by decide +kernel
theorem dX6_rulesActs_14 : decode cX6_rulesActs 14 = .ok (.invokevirtual 224, 3) := by decide +kernel
theorem dX6_rulesActs_17 : decode cX6_rulesActs 17 = .ok (.aload_n 0, 1) := by decide +kernel
theorem dX6_rulesActs_18 : decode cX6_rulesActs 18 = .ok (.iload_n 1, 1) := by decide +kernel
theorem dX6_rulesActs_19 : decode cX6_rulesActs 19 = .ok (.iconst 3, 1) := by decide +kernel
theorem dX6_rulesActs_20 : decode cX6_rulesActs 20 = .ok (.imul, 1) := by decide +kernel
theorem dX6_rulesActs_21 : decode cX6_rulesActs 21 = .ok (.invokevirtual 236, 3) := by decide +kernel
theorem dX6_rulesActs_24 : decode cX6_rulesActs 24 = .ok (.ireturn, 1) := by decide +kernel
theorem dX6_rulesActs_25 : decode cX6_rulesActs 25 = .ok (.aload_n 0, 1) := by decide +kernel
theorem dX6_rulesActs_26 : decode cX6_rulesActs 26 = .ok (.getfield 230, 3) := by decide +kernel
theorem dX6_rulesActs_29 : decode cX6_rulesActs 29 = .ok (.iconst 5, 1) := by decide +kernel
theorem dX6_rulesActs_30 : decode cX6_rulesActs 30 = .ok (.if_icmp .ne 20, 3) := by decide +kernel
theorem dX6_rulesActs_33 : decode cX6_rulesActs 33 = .ok (.aload_n 0, 1) := by decide +kernel
theorem dX6_rulesActs_34 : decode cX6_rulesActs 34 = .ok (.bipush 51, 2) := by decide +kernel
theorem dX6_rulesActs_36 : decode cX6_rulesActs 36 = .ok (.invokevirtual 224, 3) := by decide +kernel
theorem dX6_rulesActs_39 : decode cX6_rulesActs 39 = .ok (.aload_n 0, 1) := by decide +kernel
theorem dX6_rulesActs_40 : decode cX6_rulesActs 40 = .ok (.iload_n 1, 1) := by decide +kernel
theorem dX6_rulesActs_41 : decode cX6_rulesActs 41 = .ok (.invokevirtual 236, 3) := by decide +kernel
theorem dX6_rulesActs_44 : decode cX6_rulesActs 44 = .ok (.aload_n 0, 1) := by decide +kernel
theorem dX6_rulesActs_45 : decode cX6_rulesActs 45 = .ok (.getfield 227, 3) := by decide +kernel
theorem dX6_rulesActs_48 : decode cX6_rulesActs 48 = .ok (.ixor, 1) := by decide +kernel
theorem dX6_rulesActs_49 : decode cX6_rulesActs 49 = .ok (.ireturn, 1) := by decide +kernel
theorem dX6_rulesActs_50 : decode cX6_rulesActs 50 = .ok (.aload_n 0, 1) := by decide +kernel
theorem dX6_rulesActs_51 : decode cX6_rulesActs 51 = .ok (.iload_n 1, 1) := by decide +kernel
theorem dX6_rulesActs_52 : decode cX6_rulesActs 52 = .ok (.invokevirtual 236, 3) := by decide +kernel
theorem dX6_rulesActs_55 : decode cX6_rulesActs 55 = .ok (.ireturn, 1) := by decide +kernel
set_option maxRecDepth 20000 in
theorem ggX6_plainReads_X6_runs : GoodIn wsX6_plainReads wsX6_runs := goodIn_r _ [6, 7, 8, 22, 23, 24, 25, 26, 27, 28, 29, 30, 31, 32, 33, 34, 35, 36, 37, 38, 39] (by decide +kernel) (by decide +kernel)
set_option maxRecDepth 20000 in
theorem gX6_plainReads_X6_runs : GoodIn wsX6_plainReads (wsV RX6 224 RX6 yX6_runs wsX6_runs) := goodIn_app (goodIn_of _ (by decide +kernel)) ggX6_plainReads_X6_runs
set_option maxRecDepth 20000 in
theorem ggX6_plainReads_X6_rulesActs : GoodIn wsX6_plainReads wsX6_rulesActs := goodIn_r _ [12, 13, 14, 15, 16, 5, 17, 2, 3, 4, 6, 7, 8, 18, 19, 20, 21, 22, 23, 24, 25, 26, 27, 28, 29, 30, 31, 32, 33, 34, 35, 36, 37, 38, 39] (by decide +kernel) (by decide +kernel)
set_option maxRecDepth 20000 in
theorem gX6_plainReads_X6_rulesActs : GoodIn wsX6_plainReads (wsV RX6 239 RX6 yX6_rulesActs wsX6_rulesActs) := goodIn_app (goodIn_of _ (by decide +kernel)) ggX6_plainReads_X6_rulesActs
theorem dX6_plainReads_0 : decode cX6_plainReads 0 = .ok (.aload_n 0, 1) := by decide +kernel
theorem dX6_plainReads_1 : decode cX6_plainReads 1 = .ok (.iconst 2, 1) := by decide +kernel
theorem dX6_plainReads_2 : decode cX6_plainReads 2 = .ok (.invokevirtual 224, 3) := by decide +kernel
theorem dX6_plainReads_5 : decode cX6_plainReads 5 = .ok (.aload_n 0, 1) := by decide +kernel
theorem dX6_plainReads_6 : decode cX6_plainReads 6 = .ok (.iload_n 1, 1) := by decide +kernel
theorem dX6_plainReads_7 : decode cX6_plainReads 7 = .ok (.invokevirtual 239, 3) := by decide +kernel
theorem dX6_plainReads_10 : decode cX6_plainReads 10 = .ok (.aload_n 0, 1) := by decide +kernel
theorem dX6_plainReads_11 : decode cX6_plainReads 11 = .ok (.getfield 242, 3) := by decide +kernel
theorem dX6_plainReads_14 : decode cX6_plainReads 14 = .ok (.isub, 1) := by decide +kernel
theorem dX6_plainReads_15 : decode cX6_plainReads 15 = .ok (.ireturn, 1) := by decide +kernel
set_option maxRecDepth 20000 in
theorem ggX6_keptReads_X6_runs : GoodIn wsX6_keptReads wsX6_runs := goodIn_r _ [5, 6, 7, 26, 27, 28, 29, 30, 31, 32, 33, 34, 35, 36, 37, 38, 39, 40, 41, 42, 43] (by decide +kernel) (by decide +kernel)
set_option maxRecDepth 20000 in
theorem gX6_keptReads_X6_runs : GoodIn wsX6_keptReads (wsV RX6 224 RX6 yX6_runs wsX6_runs) := goodIn_app (goodIn_of _ (by decide +kernel)) ggX6_keptReads_X6_runs
set_option maxRecDepth 20000 in
theorem ggX6_keptReads_X6_plainReads : GoodIn wsX6_keptReads wsX6_plainReads := goodIn_r _ [11, 12, 1, 2, 3, 4, 5, 6, 7, 13, 14, 15, 16, 17, 18, 19, 20, 21, 22, 23, 24, 25, 26, 27, 28, 29, 30, 31, 32, 33, 34, 35, 36, 37, 38, 39, 40, 41, 42, 43] (by decide +kernel) (by decide +kernel)
set_option maxRecDepth 20000 in
theorem gX6_keptReads_X6_plainReads : GoodIn wsX6_keptReads (wsV RX6 245 RX6 yX6_plainReads wsX6_plainReads) := goodIn_app (goodIn_of _ (by decide +kernel)) ggX6_keptReads_X6_plainReads
theorem dX6_keptReads_0 : decode cX6_keptReads 0 = .ok (.aload_n 0, 1) := by decide +kernel
theorem dX6_keptReads_1 : decode cX6_keptReads 1 = .ok (.bipush 21, 2) := by decide +kernel
theorem dX6_keptReads_3 : decode cX6_keptReads 3 = .ok (.invokevirtual 224, 3) := by decide +kernel
theorem dX6_keptReads_6 : decode cX6_keptReads 6 = .ok (.aload_n 0, 1) := by decide +kernel
theorem dX6_keptReads_7 : decode cX6_keptReads 7 = .ok (.iload_n 1, 1) := by decide +kernel
theorem dX6_keptReads_8 : decode cX6_keptReads 8 = .ok (.invokevirtual 245, 3) := by decide +kernel
theorem dX6_keptReads_11 : decode cX6_keptReads 11 = .ok (.ineg, 1) := by decide +kernel
theorem dX6_keptReads_12 : decode cX6_keptReads 12 = .ok (.ireturn, 1) := by decide +kernel
set_option maxRecDepth 20000 in
theorem ggX6_readsActs_X6_runs : GoodIn wsX6_readsActs wsX6_runs := goodIn_r _ [7, 8, 9, 30, 31, 32, 33, 34, 35, 36, 37, 38, 39, 40, 41, 42, 43, 44, 45, 46, 47] (by decide +kernel) (by decide +kernel)
set_option maxRecDepth 20000 in
theorem gX6_readsActs_X6_runs : GoodIn wsX6_readsActs (wsV RX6 224 RX6 yX6_runs wsX6_runs) := goodIn_app (goodIn_of _ (by decide +kernel)) ggX6_readsActs_X6_runs
set_option maxRecDepth 20000 in
theorem ggX6_readsActs_X6_keptReads : GoodIn wsX6_readsActs wsX6_keptReads := goodIn_r _ [13, 3, 4, 5, 6, 7, 8, 9, 14, 15, 16, 17, 2, 18, 19, 20, 21, 1, 22, 23, 24, 25, 26, 27, 28, 29, 30, 31, 32, 33, 34, 35, 36, 37, 38, 39, 40, 41, 42, 43, 44, 45, 46, 47] (by decide +kernel) (by decide +kernel)
set_option maxRecDepth 20000 in
theorem gX6_readsActs_X6_keptReads : GoodIn wsX6_readsActs (wsV RX6 248 RX6 yX6_keptReads wsX6_keptReads) := goodIn_app (goodIn_of _ (by decide +kernel)) ggX6_readsActs_X6_keptReads
set_option maxRecDepth 20000 in
theorem ggX6_readsActs_X6_isUnder : GoodIn wsX6_readsActs wsX6_isUnder := goodIn_r _ [25] (by decide +kernel) (by decide +kernel)
set_option maxRecDepth 20000 in
theorem gX6_readsActs_X6_isUnder : GoodIn wsX6_readsActs (va_wsS RX6 233 yX6_isUnder wsX6_isUnder) := goodIn_app (goodIn_of _ (by decide +kernel)) ggX6_readsActs_X6_isUnder
set_option maxRecDepth 20000 in
theorem ggX6_readsActs_X6_plainReads : GoodIn wsX6_readsActs wsX6_plainReads := goodIn_r _ [17, 2, 3, 4, 5, 6, 7, 8, 9, 18, 19, 20, 21, 1, 22, 23, 24, 25, 26, 27, 28, 29, 30, 31, 32, 33, 34, 35, 36, 37, 38, 39, 40, 41, 42, 43, 44, 45, 46, 47] (by decide +kernel) (by decide +kernel)
set_option maxRecDepth 20000 in
theorem gX6_readsActs_X6_plainReads : GoodIn wsX6_readsActs (wsV RX6 245 RX6 yX6_plainReads wsX6_plainReads) := goodIn_app (goodIn_of _ (by decide +kernel)) ggX6_readsActs_X6_plainReads
theorem dX6_readsActs_0 : decode cX6_readsActs 0 = .ok (.aload_n 0, 1) := by decide +kernel
theorem dX6_readsActs_1 : decode cX6_readsActs 1 = .ok (.getfield 230, 3) := by decide +kernel
theorem dX6_readsActs_4 : decode cX6_readsActs 4 = .ok (.bipush 6, 2) := by decide +kernel
theorem dX6_readsActs_6 : decode cX6_readsActs 6 = .ok (.if_icmp .ne 20, 3) := by decide +kernel
theorem dX6_readsActs_9 : decode cX6_readsActs 9 = .ok (.aload_n 0, 1) := by decide +kernel
theorem dX6_readsActs_10 : decode cX6_readsActs 10 = .ok (.bipush 61, 2) := by decide +kernel
theorem dX6_readsActs_12 : decode cX6_readsActs 12 = .ok (.invokevirtual 224, 3) := by decide +kernel
theorem dX6_readsActs_15 : decode cX6_readsActs 15 = .ok (.aload_n 0, 1) := by decide +kernel
theorem dX6_readsActs_16 : decode cX6_readsActs 16 = .ok (.iload_n 1, 1) := by decide +kernel
theorem dX6_readsActs_17 : decode cX6_readsActs 17 = .ok (.invokevirtual 248, 3) := by decide +kernel
theorem dX6_readsActs_20 : decode cX6_readsActs 20 = .ok (.aload_n 0, 1) := by decide +kernel
theorem dX6_readsActs_21 : decode cX6_readsActs 21 = .ok (.getfield 242, 3) := by decide +kernel
theorem dX6_readsActs_24 : decode cX6_readsActs 24 = .ok (.iadd, 1) := by decide +kernel
theorem dX6_readsActs_25 : decode cX6_readsActs 25 = .ok (.ireturn, 1) := by decide +kernel
theorem dX6_readsActs_26 : decode cX6_readsActs 26 = .ok (.aload_n 0, 1) := by decide +kernel
theorem dX6_readsActs_27 : decode cX6_readsActs 27 = .ok (.getfield 230, 3) := by decide +kernel
theorem dX6_readsActs_30 : decode cX6_readsActs 30 = .ok (.iconst 2, 1) := by decide +kernel
theorem dX6_readsActs_31 : decode cX6_readsActs 31 = .ok (.invokestatic 233, 3) := by decide +kernel
theorem dX6_readsActs_34 : decode cX6_readsActs 34 = .ok (.ifCond .eq 11, 3) := by decide +kernel
theorem dX6_readsActs_37 : decode cX6_readsActs 37 = .ok (.aload_n 0, 1) := by decide +kernel
theorem dX6_readsActs_38 : decode cX6_readsActs 38 = .ok (.iload_n 1, 1) := by decide +kernel
theorem dX6_readsActs_39 : decode cX6_readsActs 39 = .ok (.invokevirtual 248, 3) := by decide +kernel
theorem dX6_readsActs_42 : decode cX6_readsActs 42 = .ok (.goto 8, 3) := by decide +kernel
theorem dX6_readsActs_45 : decode cX6_readsActs 45 = .ok (.aload_n 0, 1) := by decide +kernel
theorem dX6_readsActs_46 : decode cX6_readsActs 46 = .ok (.iload_n 1, 1) := by decide +kernel
theorem dX6_readsActs_47 : decode cX6_readsActs 47 = .ok (.invokevirtual 245, 3) := by decide +kernel
theorem dX6_readsActs_50 : decode cX6_readsActs 50 = .ok (.ireturn, 1) := by decide +kernel
set_option maxRecDepth 20000 in
theorem ggX6_plainAnswers_X6_runs : GoodIn wsX6_plainAnswers wsX6_runs := goodIn_r _ [5, 6, 7, 34, 35, 36, 37, 38, 39, 40, 41, 42, 43, 44, 45, 46, 47, 48, 49, 50, 51] (by decide +kernel) (by decide +kernel)
set_option maxRecDepth 20000 in
theorem gX6_plainAnswers_X6_runs : GoodIn wsX6_plainAnswers (wsV RX6 224 RX6 yX6_runs wsX6_runs) := goodIn_app (goodIn_of _ (by decide +kernel)) ggX6_plainAnswers_X6_runs
set_option maxRecDepth 20000 in
theorem ggX6_plainAnswers_X6_readsActs : GoodIn wsX6_plainAnswers wsX6_readsActs := goodIn_r _ [11, 12, 13, 1, 2, 3, 4, 5, 6, 7, 14, 15, 16, 17, 18, 19, 20, 21, 22, 23, 24, 25, 26, 27, 28, 29, 30, 31, 32, 33, 34, 35, 36, 37, 38, 39, 40, 41, 42, 43, 44, 45, 46, 47, 48, 49, 50, 51] (by decide +kernel) (by decide +kernel)
set_option maxRecDepth 20000 in
theorem gX6_plainAnswers_X6_readsActs : GoodIn wsX6_plainAnswers (wsV RX6 251 RX6 yX6_readsActs wsX6_readsActs) := goodIn_app (goodIn_of _ (by decide +kernel)) ggX6_plainAnswers_X6_readsActs
theorem dX6_plainAnswers_0 : decode cX6_plainAnswers 0 = .ok (.aload_n 0, 1) := by decide +kernel
theorem dX6_plainAnswers_1 : decode cX6_plainAnswers 1 = .ok (.iconst 3, 1) := by decide +kernel
theorem dX6_plainAnswers_2 : decode cX6_plainAnswers 2 = .ok (.invokevirtual 224, 3) := by decide +kernel
theorem dX6_plainAnswers_5 : decode cX6_plainAnswers 5 = .ok (.aload_n 0, 1) := by decide +kernel
theorem dX6_plainAnswers_6 : decode cX6_plainAnswers 6 = .ok (.iload_n 1, 1) := by decide +kernel
theorem dX6_plainAnswers_7 : decode cX6_plainAnswers 7 = .ok (.invokevirtual 251, 3) := by decide +kernel
theorem dX6_plainAnswers_10 : decode cX6_plainAnswers 10 = .ok (.iconst 2, 1) := by decide +kernel
theorem dX6_plainAnswers_11 : decode cX6_plainAnswers 11 = .ok (.imul, 1) := by decide +kernel
theorem dX6_plainAnswers_12 : decode cX6_plainAnswers 12 = .ok (.ireturn, 1) := by decide +kernel
set_option maxRecDepth 20000 in
theorem ggX6_answersActs_X6_isUnder : GoodIn wsX6_answersActs wsX6_isUnder := goodIn_r _ [5] (by decide +kernel) (by decide +kernel)
set_option maxRecDepth 20000 in
theorem gX6_answersActs_X6_isUnder : GoodIn wsX6_answersActs (va_wsS RX6 233 yX6_isUnder wsX6_isUnder) := goodIn_app (goodIn_of _ (by decide +kernel)) ggX6_answersActs_X6_isUnder
set_option maxRecDepth 20000 in
theorem ggX6_answersActs_X6_runs : GoodIn wsX6_answersActs wsX6_runs := goodIn_r _ [9, 10, 11, 38, 39, 40, 41, 42, 43, 44, 45, 46, 47, 48, 49, 50, 51, 52, 53, 54, 55] (by decide +kernel) (by decide +kernel)
set_option maxRecDepth 20000 in
theorem gX6_answersActs_X6_runs : GoodIn wsX6_answersActs (wsV RX6 224 RX6 yX6_runs wsX6_runs) := goodIn_app (goodIn_of _ (by decide +kernel)) ggX6_answersActs_X6_runs
set_option maxRecDepth 20000 in
theorem ggX6_answersActs_X6_plainAnswers : GoodIn wsX6_answersActs wsX6_plainAnswers := goodIn_r _ [15, 6, 7, 8, 4, 9, 10, 11, 16, 17, 18, 19, 1, 20, 21, 22, 23, 24, 25, 26, 27, 28, 29, 30, 31, 32, 33, 2, 3, 5, 34, 35, 36, 37, 38, 39, 40, 41, 42, 43, 44, 45, 46, 47, 48, 49, 50, 51, 52, 53, 54, 55] (by decide +kernel) (by decide +kernel)
set_option maxRecDepth 20000 in
theorem gX6_answersActs_X6_plainAnswers : GoodIn wsX6_answersActs (wsV RX6 254 RX6 yX6_plainAnswers wsX6_plainAnswers) := goodIn_app (goodIn_of _ (by decide +kernel)) ggX6_answersActs_X6_plainAnswers
set_option maxRecDepth 20000 in
theorem ggX6_answersActs_X6_rulesActs : GoodIn wsX6_answersActs wsX6_rulesActs := goodIn_r _ [32, 1, 33, 2, 3, 4, 5, 6, 7, 8, 9, 10, 11, 34, 35, 36, 37, 38, 39, 40, 41, 42, 43, 44, 45, 46, 47, 48, 49, 50, 51, 52, 53, 54, 55] (by decide +kernel) (by decide +kernel)
set_option maxRecDepth 20000 in
theorem gX6_answersActs_X6_rulesActs : GoodIn wsX6_answersActs (wsV RX6 239 RX6 yX6_rulesActs wsX6_rulesActs) := goodIn_app (goodIn_of _ (by decide +kernel)) ggX6_answersActs_X6_rulesActs
theorem dX6_answersActs_0 : decode cX6_answersActs 0 = .ok (.aload_n 0, 1) := by decide +kernel
theorem dX6_answersActs_1 : decode cX6_answersActs 1 = .ok (.getfield 230, 3) := by decide +kernel
theorem dX6_answersActs_4 : decode cX6_answersActs 4 = .ok (.iconst 3, 1) := by decide +kernel
theorem dX6_answersActs_5 : decode cX6_answersActs 5 = .ok (.invokestatic 233, 3) := by decide +kernel
theorem dX6_answersActs_8 : decode cX6_answersActs 8 = .ok (.ifCond .eq 18, 3) := by decide +kernel
theorem dX6_answersActs_11 : decode cX6_answersActs 11 = .ok (.aload_n 0, 1) := by decide +kernel
theorem dX6_answersActs_12 : decode cX6_answersActs 12 = .ok (.bipush 31, 2) := by decide +kernel
theorem dX6_answersActs_14 : decode cX6_answersActs 14 = .ok (.invokevirtual 224, 3) := by decide +kernel
theorem dX6_answersActs_17 : decode cX6_answersActs 17 = .ok (.aload_n 0, 1) := by decide +kernel
theorem dX6_answersActs_18 : decode cX6_answersActs 18 = .ok (.iload_n 1, 1) := by decide +kernel
theorem dX6_answersActs_19 : decode cX6_answersActs 19 = .ok (.invokevirtual 254, 3) := by decide +kernel
theorem dX6_answersActs_22 : decode cX6_answersActs 22 = .ok (.bipush 7, 2) := by decide +kernel
theorem dX6_answersActs_24 : decode cX6_answersActs 24 = .ok (.ixor, 1) := by decide +kernel
theorem dX6_answersActs_25 : decode cX6_answersActs 25 = .ok (.ireturn, 1) := by decide +kernel
theorem dX6_answersActs_26 : decode cX6_answersActs 26 = .ok (.aload_n 0, 1) := by decide +kernel
theorem dX6_answersActs_27 : decode cX6_answersActs 27 = .ok (.getfield 230, 3) := by decide +kernel
theorem dX6_answersActs_30 : decode cX6_answersActs 30 = .ok (.iconst 4, 1) := by decide +kernel
theorem dX6_answersActs_31 : decode cX6_answersActs 31 = .ok (.if_icmp .ne 25, 3) := by decide +kernel
theorem dX6_answersActs_34 : decode cX6_answersActs 34 = .ok (.aload_n 0, 1) := by decide +kernel
theorem dX6_answersActs_35 : decode cX6_answersActs 35 = .ok (.bipush 41, 2) := by decide +kernel
theorem dX6_answersActs_37 : decode cX6_answersActs 37 = .ok (.invokevirtual 224, 3) := by decide +kernel
theorem dX6_answersActs_40 : decode cX6_answersActs 40 = .ok (.aload_n 0, 1) := by decide +kernel
theorem dX6_answersActs_41 : decode cX6_answersActs 41 = .ok (.iload_n 1, 1) := by decide +kernel
theorem dX6_answersActs_42 : decode cX6_answersActs 42 = .ok (.iconst 1, 1) := by decide +kernel
theorem dX6_answersActs_43 : decode cX6_answersActs 43 = .ok (.isub, 1) := by decide +kernel
theorem dX6_answersActs_44 : decode cX6_answersActs 44 = .ok (.invokevirtual 254, 3) := by decide +kernel
theorem dX6_answersActs_47 : decode cX6_answersActs 47 = .ok (.istore_n 2, 1) := by decide +kernel
theorem dX6_answersActs_48 : decode cX6_answersActs 48 = .ok (.iload_n 2, 1) := by decide +kernel
theorem dX6_answersActs_49 : decode cX6_answersActs 49 = .ok (.aload_n 0, 1) := by decide +kernel
theorem dX6_answersActs_50 : decode cX6_answersActs 50 = .ok (.iconst 2, 1) := by decide +kernel
theorem dX6_answersActs_51 : decode cX6_answersActs 51 = .ok (.invokevirtual 239, 3) := by decide +kernel
theorem dX6_answersActs_54 : decode cX6_answersActs 54 = .ok (.iadd, 1) := by decide +kernel
theorem dX6_answersActs_55 : decode cX6_answersActs 55 = .ok (.ireturn, 1) := by decide +kernel
theorem dX6_answersActs_56 : decode cX6_answersActs 56 = .ok (.aload_n 0, 1) := by decide +kernel
theorem dX6_answersActs_57 : decode cX6_answersActs 57 = .ok (.iload_n 1, 1) := by decide +kernel
theorem dX6_answersActs_58 : decode cX6_answersActs 58 = .ok (.invokevirtual 254, 3) := by decide +kernel
theorem dX6_answersActs_61 : decode cX6_answersActs 61 = .ok (.ireturn, 1) := by decide +kernel
set_option maxRecDepth 20000 in
theorem ggX6_act_X6_isLaw : GoodIn wsX6_act wsX6_isLaw := goodIn_r _ [10, 2, 11, 12, 9, 13, 50, 51, 52, 53, 54, 55, 56, 57, 58, 59, 60, 61, 62, 63, 64, 65, 66, 67] (by decide +kernel) (by decide +kernel)
set_option maxRecDepth 20000 in
theorem gX6_act_X6_isLaw : GoodIn wsX6_act (wsV RX6 135 RX6 yX6_isLaw wsX6_isLaw) := goodIn_app (goodIn_of _ (by decide +kernel)) ggX6_act_X6_isLaw
set_option maxRecDepth 20000 in
theorem ggX6_act_X6_in : GoodIn wsX6_act wsX6_in := goodIn_r _ [13] (by decide +kernel) (by decide +kernel)
set_option maxRecDepth 20000 in
theorem gX6_act_X6_in : GoodIn wsX6_act (va_wsS RX6 32 yX6_in wsX6_in) := goodIn_app (goodIn_of _ (by decide +kernel)) ggX6_act_X6_in
set_option maxRecDepth 20000 in
theorem ggX6_act_X6_rulesActs : GoodIn wsX6_act wsX6_rulesActs := goodIn_r _ [17, 3, 4, 18, 19, 9, 20, 21, 22, 23, 24, 1, 25, 26, 27, 28, 29, 50, 51, 52, 53, 54, 55, 56, 57, 58, 59, 60, 61, 62, 63, 64, 65, 66, 67] (by decide +kernel) (by decide +kernel)
set_option maxRecDepth 20000 in
theorem gX6_act_X6_rulesActs : GoodIn wsX6_act (wsV RX6 239 RX6 yX6_rulesActs wsX6_rulesActs) := goodIn_app (goodIn_of _ (by decide +kernel)) ggX6_act_X6_rulesActs
set_option maxRecDepth 20000 in
theorem ggX6_act_X6_readsActs : GoodIn wsX6_act wsX6_readsActs := goodIn_r _ [33, 3, 5, 21, 22, 23, 9, 24, 1, 25, 34, 35, 36, 37, 38, 39, 40, 41, 14, 15, 16, 17, 4, 18, 19, 20, 26, 27, 28, 29, 50, 51, 52, 53, 54, 55, 56, 57, 58, 59, 60, 61, 62, 63, 64, 65, 66, 67] (by decide +kernel) (by decide +kernel)
set_option maxRecDepth 20000 in
theorem gX6_act_X6_readsActs : GoodIn wsX6_act (wsV RX6 251 RX6 yX6_readsActs wsX6_readsActs) := goodIn_app (goodIn_of _ (by decide +kernel)) ggX6_act_X6_readsActs
set_option maxRecDepth 20000 in
theorem ggX6_act_X6_answersActs : GoodIn wsX6_act wsX6_answersActs := goodIn_r _ [45, 3, 18, 19, 9, 20, 21, 22, 23, 24, 1, 25, 46, 47, 48, 49, 30, 31, 32, 33, 5, 34, 35, 36, 37, 38, 39, 40, 41, 14, 15, 16, 17, 4, 26, 27, 28, 29, 50, 51, 52, 53, 54, 55, 56, 57, 58, 59, 60, 61, 62, 63, 64, 65, 66, 67] (by decide +kernel) (by decide +kernel)
set_option maxRecDepth 20000 in
theorem gX6_act_X6_answersActs : GoodIn wsX6_act (wsV RX6 257 RX6 yX6_answersActs wsX6_answersActs) := goodIn_app (goodIn_of _ (by decide +kernel)) ggX6_act_X6_answersActs
