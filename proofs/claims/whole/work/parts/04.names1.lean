theorem inlX0 : ∀ w ∈ wsX00, w ∈ wsL_law := fun _ h => List.mem_append_left _ (List.mem_append_left _ (List.mem_append_left _ (List.mem_append_left _ (List.mem_append_right _ h))))
theorem inX0 : ∀ w ∈ wsX00, w ∈ lw_tbl := fun w h => wsL_law_in w (inlX0 w h)
theorem inlX1 : ∀ w ∈ wsX10, w ∈ wsL_law := fun _ h => List.mem_append_left _ (List.mem_append_right _ h)
theorem inX1 : ∀ w ∈ wsX10, w ∈ lw_tbl := fun w h => wsL_law_in w (inlX1 w h)
theorem inlX2 : ∀ w ∈ wsX20, w ∈ wsL_law := fun _ h => List.mem_append_left _ (List.mem_append_left _ (List.mem_append_left _ (List.mem_append_right _ h)))
theorem inX2 : ∀ w ∈ wsX20, w ∈ lw_tbl := fun w h => wsL_law_in w (inlX2 w h)
theorem inlX3 : ∀ w ∈ wsX30, w ∈ wsL_law := fun _ h => List.mem_append_left _ (List.mem_append_left _ (List.mem_append_right _ h))
theorem inX3 : ∀ w ∈ wsX30, w ∈ lw_tbl := fun w h => wsL_law_in w (inlX3 w h)
theorem inlX4 : ∀ w ∈ wsX40, w ∈ wsL_law := fun _ h => List.mem_append_left _ (List.mem_append_left _ (List.mem_append_left _ (List.mem_append_left _ (List.mem_append_left _ (List.mem_append_right _ h)))))
theorem inX4 : ∀ w ∈ wsX40, w ∈ lw_tbl := fun w h => wsL_law_in w (inlX4 w h)
theorem inlX5 : ∀ w ∈ wsX50, w ∈ wsL_law := fun _ h => List.mem_append_left _ (List.mem_append_left _ (List.mem_append_left _ (List.mem_append_left _ (List.mem_append_left _ (List.mem_append_left _ (List.mem_append_left _ (List.mem_append_right _ h)))))))
theorem inX5 : ∀ w ∈ wsX50, w ∈ lw_tbl := fun w h => wsL_law_in w (inlX5 w h)
theorem inlX6 : ∀ w ∈ wsX60, w ∈ wsL_law := fun _ h => List.mem_append_left _ (List.mem_append_left _ (List.mem_append_left _ (List.mem_append_left _ (List.mem_append_left _ (List.mem_append_left _ (List.mem_append_right _ h))))))
theorem inX6 : ∀ w ∈ wsX60, w ∈ lw_tbl := fun w h => wsL_law_in w (inlX6 w h)
theorem inJ11 : ∀ w ∈ wsJ110, w ∈ lw_tbl := by decide +kernel
theorem inJ6 : ∀ w ∈ wsJ60, w ∈ lw_tbl := by decide +kernel
theorem inJ9 : ∀ w ∈ wsJ90, w ∈ lw_tbl := by decide +kernel
theorem inJ0 : ∀ w ∈ wsJ00, w ∈ lw_tbl := by decide +kernel
theorem inJ1 : ∀ w ∈ wsJ10, w ∈ lw_tbl := by decide +kernel
theorem inJ2 : ∀ w ∈ wsJ20, w ∈ lw_tbl := by decide +kernel
theorem inJ10 : ∀ w ∈ wsJ100, w ∈ lw_tbl := by decide +kernel
theorem inJ3 : ∀ w ∈ wsJ30, w ∈ lw_tbl := by decide +kernel
theorem dX0_init_0 : decode cX0_init 0 = .ok (.aload_n 0, 1) := by decide +kernel
theorem dX0_init_1 : decode cX0_init 1 = .ok (.invokespecial 3, 3) := by decide +kernel
theorem dX0_init_4 : decode cX0_init 4 = .ok (.aload_n 0, 1) := by decide +kernel
theorem dX0_init_5 : decode cX0_init 5 = .ok (.bipush 20, 2) := by decide +kernel
theorem dX0_init_7 : decode cX0_init 7 = .ok (.newarray .int, 2) := by decide +kernel
theorem dX0_init_9 : decode cX0_init 9 = .ok (.putfield 9, 3) := by decide +kernel
theorem dX0_init_12 : decode cX0_init 12 = .ok (.return_, 1) := by decide +kernel
theorem dX0_begin_0 : decode cX0_begin 0 = .ok (.aload_n 0, 1) := by decide +kernel
theorem dX0_begin_1 : decode cX0_begin 1 = .ok (.getfield 15, 3) := by decide +kernel
theorem dX0_begin_4 : decode cX0_begin 4 = .ok (.bipush 20, 2) := by decide +kernel
theorem dX0_begin_6 : decode cX0_begin 6 = .ok (.if_icmp .ge 13, 3) := by decide +kernel
theorem dX0_begin_9 : decode cX0_begin 9 = .ok (.aload_n 0, 1) := by decide +kernel
theorem dX0_begin_10 : decode cX0_begin 10 = .ok (.getfield 9, 3) := by decide +kernel
theorem dX0_begin_13 : decode cX0_begin 13 = .ok (.aload_n 0, 1) := by decide +kernel
theorem dX0_begin_14 : decode cX0_begin 14 = .ok (.getfield 15, 3) := by decide +kernel
theorem dX0_begin_17 : decode cX0_begin 17 = .ok (.iload_n 1, 1) := by decide +kernel
theorem dX0_begin_18 : decode cX0_begin 18 = .ok (.iastore, 1) := by decide +kernel
theorem dX0_begin_19 : decode cX0_begin 19 = .ok (.aload_n 0, 1) := by decide +kernel
theorem dX0_begin_20 : decode cX0_begin 20 = .ok (.dup, 1) := by decide +kernel
theorem dX0_begin_21 : decode cX0_begin 21 = .ok (.getfield 15, 3) := by decide +kernel
theorem dX0_begin_24 : decode cX0_begin 24 = .ok (.iconst 1, 1) := by decide +kernel
theorem dX0_begin_25 : decode cX0_begin 25 = .ok (.iadd, 1) := by decide +kernel
theorem dX0_begin_26 : decode cX0_begin 26 = .ok (.putfield 15, 3) := by decide +kernel
theorem dX0_begin_29 : decode cX0_begin 29 = .ok (.return_, 1) := by decide +kernel
set_option maxRecDepth 20000 in
theorem ggX0_run_X0_holderOf : GoodIn wsX0_run wsX0_holderOf := goodIn_r _ [7, 8, 9, 10] (by decide +kernel) (by decide +kernel)
set_option maxRecDepth 20000 in
theorem gX0_run_X0_holderOf : GoodIn wsX0_run (va_wsS RX0 19 yX0_holderOf wsX0_holderOf) := goodIn_app (goodIn_of _ (by decide +kernel)) ggX0_run_X0_holderOf
set_option maxRecDepth 20000 in
theorem ggX0_run_X0_begin : GoodIn wsX0_run wsX0_begin := goodIn_r _ [14, 15, 16, 28, 29] (by decide +kernel) (by decide +kernel)
set_option maxRecDepth 20000 in
theorem gX0_run_X0_begin : GoodIn wsX0_run (wsV RX0 34 RX0 yX0_begin wsX0_begin) := goodIn_app (goodIn_of _ (by decide +kernel)) ggX0_run_X0_begin
set_option maxRecDepth 20000 in
theorem ggX0_run_X0_run : GoodIn wsX0_run wsX0_run := goodIn_r _ [0, 1, 2, 3, 4, 5, 6, 7, 8, 9, 10, 11, 12, 13, 14, 15, 16, 17, 18, 19, 20, 21, 22, 23, 24, 25, 26, 27, 28, 29] (by decide +kernel) (by decide +kernel)
set_option maxRecDepth 20000 in
theorem gX0_run_X0_run : GoodIn wsX0_run (wsV RX0 41 RX0 yX0_run wsX0_run) := goodIn_app (goodIn_of _ (by decide +kernel)) ggX0_run_X0_run
theorem dX0_run_0 : decode cX0_run 0 = .ok (.iload_n 2, 1) := by decide +kernel
theorem dX0_run_1 : decode cX0_run 1 = .ok (.iload_n 3, 1) := by decide +kernel
theorem dX0_run_2 : decode cX0_run 2 = .ok (.invokestatic 19, 3) := by decide +kernel
theorem dX0_run_5 : decode cX0_run 5 = .ok (.istore 6, 2) := by decide +kernel
theorem dX0_run_7 : decode cX0_run 7 = .ok (.iload 6, 2) := by decide +kernel
theorem dX0_run_9 : decode cX0_run 9 = .ok (.ifCond .lt 10, 3) := by decide +kernel
theorem dX0_run_12 : decode cX0_run 12 = .ok (.iload 5, 2) := by decide +kernel
theorem dX0_run_14 : decode cX0_run 14 = .ok (.bipush 40, 2) := by decide +kernel
theorem dX0_run_16 : decode cX0_run 16 = .ok (.if_icmp .le 5, 3) := by decide +kernel
theorem dX0_run_19 : decode cX0_run 19 = .ok (.iconst 0, 1) := by decide +kernel
theorem dX0_run_20 : decode cX0_run 20 = .ok (.ireturn, 1) := by decide +kernel
theorem dX0_run_21 : decode cX0_run 21 = .ok (.aload_n 1, 1) := by decide +kernel
theorem dX0_run_22 : decode cX0_run 22 = .ok (.getfield 23, 3) := by decide +kernel
theorem dX0_run_25 : decode cX0_run 25 = .ok (.istore 7, 2) := by decide +kernel
theorem dX0_run_27 : decode cX0_run 27 = .ok (.getstatic 28, 3) := by decide +kernel
theorem dX0_run_30 : decode cX0_run 30 = .ok (.iload 6, 2) := by decide +kernel
theorem dX0_run_32 : decode cX0_run 32 = .ok (.iaload, 1) := by decide +kernel
theorem dX0_run_33 : decode cX0_run 33 = .ok (.istore 8, 2) := by decide +kernel
theorem dX0_run_35 : decode cX0_run 35 = .ok (.iload 5, 2) := by decide +kernel
theorem dX0_run_37 : decode cX0_run 37 = .ok (.iconst 1, 1) := by decide +kernel
theorem dX0_run_38 : decode cX0_run 38 = .ok (.iadd, 1) := by decide +kernel
theorem dX0_run_39 : decode cX0_run 39 = .ok (.istore 9, 2) := by decide +kernel
theorem dX0_run_41 : decode cX0_run 41 = .ok (.getstatic 31, 3) := by decide +kernel
theorem dX0_run_44 : decode cX0_run 44 = .ok (.iload 6, 2) := by decide +kernel
theorem dX0_run_46 : decode cX0_run 46 = .ok (.iconst 3, 1) := by decide +kernel
theorem dX0_run_47 : decode cX0_run 47 = .ok (.imul, 1) := by decide +kernel
theorem dX0_run_48 : decode cX0_run 48 = .ok (.iload_n 3, 1) := by decide +kernel
theorem dX0_run_49 : decode cX0_run 49 = .ok (.iadd, 1) := by decide +kernel
theorem dX0_run_50 : decode cX0_run 50 = .ok (.iaload, 1) := by decide +kernel
theorem dX0_run_51 : decode cX0_run 51 = .ok (.istore 10, 2) := by decide +kernel
theorem dX0_run_53 : decode cX0_run 53 = .ok (.aload_n 0, 1) := by decide +kernel
theorem dX0_run_54 : decode cX0_run 54 = .ok (.iload 10, 2) := by decide +kernel
theorem dX0_run_56 : decode cX0_run 56 = .ok (.invokevirtual 34, 3) := by decide +kernel
theorem dX0_run_59 : decode cX0_run 59 = .ok (.iload 10, 2) := by decide +kernel
theorem dX0_run_61 : decode cX0_run 61 = .ok (.lookupswitch 232 #[(1, 83), (2, 91), (3, 109), (11, 124), (21, 139), (31, 153), (41, 169), (51, 196), (61, 214)], 83) := by decide +kernel
theorem dX0_run_144 : decode cX0_run 144 = .ok (.iload 4, 2) := by decide +kernel
theorem dX0_run_146 : decode cX0_run 146 = .ok (.aload_n 1, 1) := by decide +kernel
theorem dX0_run_147 : decode cX0_run 147 = .ok (.getfield 38, 3) := by decide +kernel
theorem dX0_run_150 : decode cX0_run 150 = .ok (.iadd, 1) := by decide +kernel
theorem dX0_run_151 : decode cX0_run 151 = .ok (.ireturn, 1) := by decide +kernel
theorem dX0_run_152 : decode cX0_run 152 = .ok (.aload_n 0, 1) := by decide +kernel
theorem dX0_run_153 : decode cX0_run 153 = .ok (.aload_n 1, 1) := by decide +kernel
theorem dX0_run_154 : decode cX0_run 154 = .ok (.iload 7, 2) := by decide +kernel
theorem dX0_run_156 : decode cX0_run 156 = .ok (.iconst 0, 1) := by decide +kernel
theorem dX0_run_157 : decode cX0_run 157 = .ok (.iload 4, 2) := by decide +kernel
theorem dX0_run_159 : decode cX0_run 159 = .ok (.iload 9, 2) := by decide +kernel
theorem dX0_run_161 : decode cX0_run 161 = .ok (.invokevirtual 41, 3) := by decide +kernel
theorem dX0_run_164 : decode cX0_run 164 = .ok (.aload_n 1, 1) := by decide +kernel
theorem dX0_run_165 : decode cX0_run 165 = .ok (.getfield 45, 3) := by decide +kernel
theorem dX0_run_168 : decode cX0_run 168 = .ok (.isub, 1) := by decide +kernel
theorem dX0_run_169 : decode cX0_run 169 = .ok (.ireturn, 1) := by decide +kernel
theorem dX0_run_170 : decode cX0_run 170 = .ok (.aload_n 0, 1) := by decide +kernel
theorem dX0_run_171 : decode cX0_run 171 = .ok (.aload_n 1, 1) := by decide +kernel
theorem dX0_run_172 : decode cX0_run 172 = .ok (.iload 7, 2) := by decide +kernel
theorem dX0_run_174 : decode cX0_run 174 = .ok (.iconst 1, 1) := by decide +kernel
theorem dX0_run_175 : decode cX0_run 175 = .ok (.iload 4, 2) := by decide +kernel
theorem dX0_run_177 : decode cX0_run 177 = .ok (.iload 9, 2) := by decide +kernel
theorem dX0_run_179 : decode cX0_run 179 = .ok (.invokevirtual 41, 3) := by decide +kernel
theorem dX0_run_182 : decode cX0_run 182 = .ok (.iconst 2, 1) := by decide +kernel
theorem dX0_run_183 : decode cX0_run 183 = .ok (.imul, 1) := by decide +kernel
theorem dX0_run_184 : decode cX0_run 184 = .ok (.ireturn, 1) := by decide +kernel
theorem dX0_run_185 : decode cX0_run 185 = .ok (.aload_n 0, 1) := by decide +kernel
theorem dX0_run_186 : decode cX0_run 186 = .ok (.aload_n 1, 1) := by decide +kernel
theorem dX0_run_187 : decode cX0_run 187 = .ok (.iload 8, 2) := by decide +kernel
theorem dX0_run_189 : decode cX0_run 189 = .ok (.iconst 0, 1) := by decide +kernel
theorem dX0_run_190 : decode cX0_run 190 = .ok (.iload 4, 2) := by decide +kernel
theorem dX0_run_192 : decode cX0_run 192 = .ok (.iconst 3, 1) := by decide +kernel
theorem dX0_run_193 : decode cX0_run 193 = .ok (.imul, 1) := by decide +kernel
theorem dX0_run_194 : decode cX0_run 194 = .ok (.iload 9, 2) := by decide +kernel
theorem dX0_run_196 : decode cX0_run 196 = .ok (.invokevirtual 41, 3) := by decide +kernel
theorem dX0_run_199 : decode cX0_run 199 = .ok (.ireturn, 1) := by decide +kernel
theorem dX0_run_200 : decode cX0_run 200 = .ok (.aload_n 0, 1) := by decide +kernel
theorem dX0_run_201 : decode cX0_run 201 = .ok (.aload_n 1, 1) := by decide +kernel
theorem dX0_run_202 : decode cX0_run 202 = .ok (.iload 8, 2) := by decide +kernel
theorem dX0_run_204 : decode cX0_run 204 = .ok (.iconst 1, 1) := by decide +kernel
theorem dX0_run_205 : decode cX0_run 205 = .ok (.iload 4, 2) := by decide +kernel
theorem dX0_run_207 : decode cX0_run 207 = .ok (.iload 9, 2) := by decide +kernel
theorem dX0_run_209 : decode cX0_run 209 = .ok (.invokevirtual 41, 3) := by decide +kernel
theorem dX0_run_212 : decode cX0_run 212 = .ok (.ineg, 1) := by decide +kernel
theorem dX0_run_213 : decode cX0_run 213 = .ok (.ireturn, 1) := by decide +kernel
theorem dX0_run_214 : decode cX0_run 214 = .ok (.aload_n 0, 1) := by decide +kernel
theorem dX0_run_215 : decode cX0_run 215 = .ok (.aload_n 1, 1) := by decide +kernel
theorem dX0_run_216 : decode cX0_run 216 = .ok (.iload 8, 2) := by decide +kernel
theorem dX0_run_218 : decode cX0_run 218 = .ok (.iconst 2, 1) := by decide +kernel
theorem dX0_run_219 : decode cX0_run 219 = .ok (.iload 4, 2) := by decide +kernel
theorem dX0_run_221 : decode cX0_run 221 = .ok (.iload 9, 2) := by decide +kernel
theorem dX0_run_223 : decode cX0_run 223 = .ok (.invokevirtual 41, 3) := by decide +kernel
theorem dX0_run_226 : decode cX0_run 226 = .ok (.bipush 7, 2) := by decide +kernel
theorem dX0_run_228 : decode cX0_run 228 = .ok (.ixor, 1) := by decide +kernel
theorem dX0_run_229 : decode cX0_run 229 = .ok (.ireturn, 1) := by decide +kernel
theorem dX0_run_230 : decode cX0_run 230 = .ok (.aload_n 0, 1) := by decide +kernel
theorem dX0_run_231 : decode cX0_run 231 = .ok (.aload_n 1, 1) := by decide +kernel
theorem dX0_run_232 : decode cX0_run 232 = .ok (.iload 8, 2) := by decide +kernel
theorem dX0_run_234 : decode cX0_run 234 = .ok (.iconst 2, 1) := by decide +kernel
theorem dX0_run_235 : decode cX0_run 235 = .ok (.iload 4, 2) := by decide +kernel
theorem dX0_run_237 : decode cX0_run 237 = .ok (.iconst 1, 1) := by decide +kernel
theorem dX0_run_238 : decode cX0_run 238 = .ok (.isub, 1) := by decide +kernel
theorem dX0_run_239 : decode cX0_run 239 = .ok (.iload 9, 2) := by decide +kernel
theorem dX0_run_241 : decode cX0_run 241 = .ok (.invokevirtual 41, 3) := by decide +kernel
theorem dX0_run_244 : decode cX0_run 244 = .ok (.aload_n 0, 1) := by decide +kernel
theorem dX0_run_245 : decode cX0_run 245 = .ok (.aload_n 1, 1) := by decide +kernel
theorem dX0_run_246 : decode cX0_run 246 = .ok (.iload 7, 2) := by decide +kernel
theorem dX0_run_248 : decode cX0_run 248 = .ok (.iconst 0, 1) := by decide +kernel
theorem dX0_run_249 : decode cX0_run 249 = .ok (.iconst 2, 1) := by decide +kernel
theorem dX0_run_250 : decode cX0_run 250 = .ok (.iload 9, 2) := by decide +kernel
theorem dX0_run_252 : decode cX0_run 252 = .ok (.invokevirtual 41, 3) := by decide +kernel
theorem dX0_run_255 : decode cX0_run 255 = .ok (.iadd, 1) := by decide +kernel
theorem dX0_run_256 : decode cX0_run 256 = .ok (.ireturn, 1) := by decide +kernel
theorem dX0_run_257 : decode cX0_run 257 = .ok (.aload_n 0, 1) := by decide +kernel
theorem dX0_run_258 : decode cX0_run 258 = .ok (.aload_n 1, 1) := by decide +kernel
theorem dX0_run_259 : decode cX0_run 259 = .ok (.iload 8, 2) := by decide +kernel
theorem dX0_run_261 : decode cX0_run 261 = .ok (.iconst 0, 1) := by decide +kernel
theorem dX0_run_262 : decode cX0_run 262 = .ok (.iload 4, 2) := by decide +kernel
theorem dX0_run_264 : decode cX0_run 264 = .ok (.iload 9, 2) := by decide +kernel
theorem dX0_run_266 : decode cX0_run 266 = .ok (.invokevirtual 41, 3) := by decide +kernel
theorem dX0_run_269 : decode cX0_run 269 = .ok (.aload_n 1, 1) := by decide +kernel
theorem dX0_run_270 : decode cX0_run 270 = .ok (.getfield 38, 3) := by decide +kernel
theorem dX0_run_273 : decode cX0_run 273 = .ok (.ixor, 1) := by decide +kernel
theorem dX0_run_274 : decode cX0_run 274 = .ok (.ireturn, 1) := by decide +kernel
theorem dX0_run_275 : decode cX0_run 275 = .ok (.aload_n 0, 1) := by decide +kernel
theorem dX0_run_276 : decode cX0_run 276 = .ok (.aload_n 1, 1) := by decide +kernel
theorem dX0_run_277 : decode cX0_run 277 = .ok (.iload 8, 2) := by decide +kernel
theorem dX0_run_279 : decode cX0_run 279 = .ok (.iconst 1, 1) := by decide +kernel
theorem dX0_run_280 : decode cX0_run 280 = .ok (.iload 4, 2) := by decide +kernel
theorem dX0_run_282 : decode cX0_run 282 = .ok (.iload 9, 2) := by decide +kernel
theorem dX0_run_284 : decode cX0_run 284 = .ok (.invokevirtual 41, 3) := by decide +kernel
theorem dX0_run_287 : decode cX0_run 287 = .ok (.aload_n 1, 1) := by decide +kernel
theorem dX0_run_288 : decode cX0_run 288 = .ok (.getfield 45, 3) := by decide +kernel
theorem dX0_run_291 : decode cX0_run 291 = .ok (.iadd, 1) := by decide +kernel
theorem dX0_run_292 : decode cX0_run 292 = .ok (.ireturn, 1) := by decide +kernel
theorem dX0_run_293 : decode cX0_run 293 = .ok (.iconst 0, 1) := by decide +kernel
theorem dX0_run_294 : decode cX0_run 294 = .ok (.ireturn, 1) := by decide +kernel
set_option maxRecDepth 20000 in
theorem ggX0_holderOf_X5_isKind : GoodIn wsX0_holderOf wsX5_isKind := goodIn_r _ [3] (by decide +kernel) (by decide +kernel)
set_option maxRecDepth 20000 in
theorem gX0_holderOf_X5_isKind_n48 : GoodIn wsX0_holderOf (wsX5_isKind) := ggX0_holderOf_X5_isKind
theorem dX0_holderOf_0 : decode cX0_holderOf 0 = .ok (.iload_n 0, 1) := by decide +kernel
theorem dX0_holderOf_1 : decode cX0_holderOf 1 = .ok (.istore_n 2, 1) := by decide +kernel
theorem dX0_holderOf_2 : decode cX0_holderOf 2 = .ok (.iconst 0, 1) := by decide +kernel
theorem dX0_holderOf_3 : decode cX0_holderOf 3 = .ok (.istore_n 3, 1) := by decide +kernel
theorem dX0_holderOf_4 : decode cX0_holderOf 4 = .ok (.iload_n 3, 1) := by decide +kernel
theorem dX0_holderOf_5 : decode cX0_holderOf 5 = .ok (.bipush 7, 2) := by decide +kernel
theorem dX0_holderOf_7 : decode cX0_holderOf 7 = .ok (.if_icmp .ge 45, 3) := by decide +kernel
theorem dX0_holderOf_10 : decode cX0_holderOf 10 = .ok (.iload_n 2, 1) := by decide +kernel
theorem dX0_holderOf_11 : decode cX0_holderOf 11 = .ok (.invokestatic 48, 3) := by decide +kernel
theorem dX0_holderOf_14 : decode cX0_holderOf 14 = .ok (.ifCond .eq 38, 3) := by decide +kernel
theorem dX0_holderOf_17 : decode cX0_holderOf 17 = .ok (.iload_n 1, 1) := by decide +kernel
theorem dX0_holderOf_18 : decode cX0_holderOf 18 = .ok (.ifCond .lt 34, 3) := by decide +kernel
theorem dX0_holderOf_21 : decode cX0_holderOf 21 = .ok (.iload_n 1, 1) := by decide +kernel
theorem dX0_holderOf_22 : decode cX0_holderOf 22 = .ok (.iconst 3, 1) := by decide +kernel
theorem dX0_holderOf_23 : decode cX0_holderOf 23 = .ok (.if_icmp .ge 29, 3) := by decide +kernel
theorem dX0_holderOf_26 : decode cX0_holderOf 26 = .ok (.getstatic 31, 3) := by decide +kernel
theorem dX0_holderOf_29 : decode cX0_holderOf 29 = .ok (.iload_n 2, 1) := by decide +kernel
theorem dX0_holderOf_30 : decode cX0_holderOf 30 = .ok (.iconst 3, 1) := by decide +kernel
theorem dX0_holderOf_31 : decode cX0_holderOf 31 = .ok (.imul, 1) := by decide +kernel
theorem dX0_holderOf_32 : decode cX0_holderOf 32 = .ok (.iload_n 1, 1) := by decide +kernel
theorem dX0_holderOf_33 : decode cX0_holderOf 33 = .ok (.iadd, 1) := by decide +kernel
theorem dX0_holderOf_34 : decode cX0_holderOf 34 = .ok (.iaload, 1) := by decide +kernel
theorem dX0_holderOf_35 : decode cX0_holderOf 35 = .ok (.ifCond .eq 5, 3) := by decide +kernel
theorem dX0_holderOf_38 : decode cX0_holderOf 38 = .ok (.iload_n 2, 1) := by decide +kernel
theorem dX0_holderOf_39 : decode cX0_holderOf 39 = .ok (.ireturn, 1) := by decide +kernel
theorem dX0_holderOf_40 : decode cX0_holderOf 40 = .ok (.getstatic 28, 3) := by decide +kernel
theorem dX0_holderOf_43 : decode cX0_holderOf 43 = .ok (.iload_n 2, 1) := by decide +kernel
theorem dX0_holderOf_44 : decode cX0_holderOf 44 = .ok (.iaload, 1) := by decide +kernel
theorem dX0_holderOf_45 : decode cX0_holderOf 45 = .ok (.istore_n 2, 1) := by decide +kernel
theorem dX0_holderOf_46 : decode cX0_holderOf 46 = .ok (.iinc 3 1, 3) := by decide +kernel
theorem dX0_holderOf_49 : decode cX0_holderOf 49 = .ok (.goto (-45), 3) := by decide +kernel
theorem dX0_holderOf_52 : decode cX0_holderOf 52 = .ok (.iconst (-1), 1) := by decide +kernel
theorem dX0_holderOf_53 : decode cX0_holderOf 53 = .ok (.ireturn, 1) := by decide +kernel
set_option maxRecDepth 20000 in
theorem ggX1_init_X2_init : GoodIn wsX1_init wsX2_init := goodIn_r _ [13, 14, 2, 3, 15, 16, 4, 17, 26, 27, 28, 29] (by decide +kernel) (by decide +kernel)
set_option maxRecDepth 20000 in
theorem gX1_init_X2_init : GoodIn wsX1_init (wsX2_init) := ggX1_init_X2_init
theorem dX1_init_0 : decode cX1_init 0 = .ok (.aload_n 0, 1) := by decide +kernel
theorem dX1_init_1 : decode cX1_init 1 = .ok (.invokespecial 5, 3) := by decide +kernel
theorem dX1_init_4 : decode cX1_init 4 = .ok (.aload_n 0, 1) := by decide +kernel
theorem dX1_init_5 : decode cX1_init 5 = .ok (.iconst 4, 1) := by decide +kernel
theorem dX1_init_6 : decode cX1_init 6 = .ok (.newarray .int, 2) := by decide +kernel
theorem dX1_init_8 : decode cX1_init 8 = .ok (.putfield 11, 3) := by decide +kernel
theorem dX1_init_11 : decode cX1_init 11 = .ok (.aload_n 0, 1) := by decide +kernel
theorem dX1_init_12 : decode cX1_init 12 = .ok (.new 15, 3) := by decide +kernel
theorem dX1_init_15 : decode cX1_init 15 = .ok (.dup, 1) := by decide +kernel
theorem dX1_init_16 : decode cX1_init 16 = .ok (.bipush 10, 2) := by decide +kernel
theorem dX1_init_18 : decode cX1_init 18 = .ok (.iconst 3, 1) := by decide +kernel
theorem dX1_init_19 : decode cX1_init 19 = .ok (.invokespecial 17, 3) := by decide +kernel
theorem dX1_init_22 : decode cX1_init 22 = .ok (.putfield 20, 3) := by decide +kernel
theorem dX1_init_25 : decode cX1_init 25 = .ok (.aload_n 0, 1) := by decide +kernel
theorem dX1_init_26 : decode cX1_init 26 = .ok (.bipush 120, 2) := by decide +kernel
theorem dX1_init_28 : decode cX1_init 28 = .ok (.newarray .int, 2) := by decide +kernel
theorem dX1_init_30 : decode cX1_init 30 = .ok (.putfield 24, 3) := by decide +kernel
theorem dX1_init_33 : decode cX1_init 33 = .ok (.return_, 1) := by decide +kernel
theorem dX1_clear_0 : decode cX1_clear 0 = .ok (.aload_n 0, 1) := by decide +kernel
theorem dX1_clear_1 : decode cX1_clear 1 = .ok (.iconst 0, 1) := by decide +kernel
theorem dX1_clear_2 : decode cX1_clear 2 = .ok (.putfield 27, 3) := by decide +kernel
theorem dX1_clear_5 : decode cX1_clear 5 = .ok (.aload_n 0, 1) := by decide +kernel
theorem dX1_clear_6 : decode cX1_clear 6 = .ok (.getfield 20, 3) := by decide +kernel
theorem dX1_clear_9 : decode cX1_clear 9 = .ok (.iconst 0, 1) := by decide +kernel
theorem dX1_clear_10 : decode cX1_clear 10 = .ok (.putfield 31, 3) := by decide +kernel
theorem dX1_clear_13 : decode cX1_clear 13 = .ok (.aload_n 0, 1) := by decide +kernel
theorem dX1_clear_14 : decode cX1_clear 14 = .ok (.iconst 0, 1) := by decide +kernel
theorem dX1_clear_15 : decode cX1_clear 15 = .ok (.putfield 34, 3) := by decide +kernel
theorem dX1_clear_18 : decode cX1_clear 18 = .ok (.iconst 0, 1) := by decide +kernel
theorem dX1_clear_19 : decode cX1_clear 19 = .ok (.istore_n 1, 1) := by decide +kernel
theorem dX1_clear_20 : decode cX1_clear 20 = .ok (.iload_n 1, 1) := by decide +kernel
theorem dX1_clear_21 : decode cX1_clear 21 = .ok (.iconst 4, 1) := by decide +kernel
theorem dX1_clear_22 : decode cX1_clear 22 = .ok (.if_icmp .ge 17, 3) := by decide +kernel
theorem dX1_clear_25 : decode cX1_clear 25 = .ok (.aload_n 0, 1) := by decide +kernel
theorem dX1_clear_26 : decode cX1_clear 26 = .ok (.getfield 11, 3) := by decide +kernel
theorem dX1_clear_29 : decode cX1_clear 29 = .ok (.iload_n 1, 1) := by decide +kernel
theorem dX1_clear_30 : decode cX1_clear 30 = .ok (.bipush 84, 2) := by decide +kernel
theorem dX1_clear_32 : decode cX1_clear 32 = .ok (.iastore, 1) := by decide +kernel
theorem dX1_clear_33 : decode cX1_clear 33 = .ok (.iinc 1 1, 3) := by decide +kernel
theorem dX1_clear_36 : decode cX1_clear 36 = .ok (.goto (-16), 3) := by decide +kernel
theorem dX1_clear_39 : decode cX1_clear 39 = .ok (.return_, 1) := by decide +kernel
set_option maxRecDepth 20000 in
theorem ggX1_putFrom_X5_isStuff : GoodIn wsX1_putFrom wsX5_isStuff := goodIn_r _ [4] (by decide +kernel) (by decide +kernel)
set_option maxRecDepth 20000 in
theorem gX1_putFrom_X5_isStuff_n37 : GoodIn wsX1_putFrom (wsX5_isStuff) := ggX1_putFrom_X5_isStuff
theorem dX1_putFrom_0 : decode cX1_putFrom 0 = .ok (.iload_n 1, 1) := by decide +kernel
theorem dX1_putFrom_1 : decode cX1_putFrom 1 = .ok (.invokestatic 37, 3) := by decide +kernel
theorem dX1_putFrom_4 : decode cX1_putFrom 4 = .ok (.ifCond .eq 10, 3) := by decide +kernel
theorem dX1_putFrom_7 : decode cX1_putFrom 7 = .ok (.aload_n 0, 1) := by decide +kernel
theorem dX1_putFrom_8 : decode cX1_putFrom 8 = .ok (.getfield 11, 3) := by decide +kernel
theorem dX1_putFrom_11 : decode cX1_putFrom 11 = .ok (.iload_n 1, 1) := by decide +kernel
theorem dX1_putFrom_12 : decode cX1_putFrom 12 = .ok (.iload_n 2, 1) := by decide +kernel
theorem dX1_putFrom_13 : decode cX1_putFrom 13 = .ok (.iastore, 1) := by decide +kernel
theorem dX1_putFrom_14 : decode cX1_putFrom 14 = .ok (.return_, 1) := by decide +kernel
set_option maxRecDepth 20000 in
theorem ggX1_addOver_X2_add : GoodIn wsX1_addOver wsX2_add := goodIn_r _ [6, 7, 8, 23, 24, 25, 26] (by decide +kernel) (by decide +kernel)
set_option maxRecDepth 20000 in
theorem gX1_addOver_X2_add : GoodIn wsX1_addOver (wsV RX1 41 RX2 yX2_add wsX2_add) := goodIn_app (goodIn_of _ (by decide +kernel)) ggX1_addOver_X2_add
set_option maxRecDepth 20000 in
theorem ggX1_addOver_X2_put : GoodIn wsX1_addOver wsX2_put := goodIn_r _ [12, 7, 13, 14, 23, 24, 25, 26] (by decide +kernel) (by decide +kernel)
set_option maxRecDepth 20000 in
theorem gX1_addOver_X2_put : GoodIn wsX1_addOver (wsV RX1 45 RX2 yX2_put wsX2_put) := goodIn_app (goodIn_of _ (by decide +kernel)) ggX1_addOver_X2_put
theorem dX1_addOver_0 : decode cX1_addOver 0 = .ok (.aload_n 0, 1) := by decide +kernel
theorem dX1_addOver_1 : decode cX1_addOver 1 = .ok (.getfield 20, 3) := by decide +kernel
theorem dX1_addOver_4 : decode cX1_addOver 4 = .ok (.invokevirtual 41, 3) := by decide +kernel
theorem dX1_addOver_7 : decode cX1_addOver 7 = .ok (.istore 4, 2) := by decide +kernel
theorem dX1_addOver_9 : decode cX1_addOver 9 = .ok (.aload_n 0, 1) := by decide +kernel
theorem dX1_addOver_10 : decode cX1_addOver 10 = .ok (.getfield 20, 3) := by decide +kernel
theorem dX1_addOver_13 : decode cX1_addOver 13 = .ok (.iload 4, 2) := by decide +kernel
theorem dX1_addOver_15 : decode cX1_addOver 15 = .ok (.iconst 0, 1) := by decide +kernel
theorem dX1_addOver_16 : decode cX1_addOver 16 = .ok (.iload_n 1, 1) := by decide +kernel
theorem dX1_addOver_17 : decode cX1_addOver 17 = .ok (.invokevirtual 45, 3) := by decide +kernel
theorem dX1_addOver_20 : decode cX1_addOver 20 = .ok (.aload_n 0, 1) := by decide +kernel
theorem dX1_addOver_21 : decode cX1_addOver 21 = .ok (.getfield 20, 3) := by decide +kernel
theorem dX1_addOver_24 : decode cX1_addOver 24 = .ok (.iload 4, 2) := by decide +kernel
theorem dX1_addOver_26 : decode cX1_addOver 26 = .ok (.iconst 1, 1) := by decide +kernel
theorem dX1_addOver_27 : decode cX1_addOver 27 = .ok (.iload_n 2, 1) := by decide +kernel
theorem dX1_addOver_28 : decode cX1_addOver 28 = .ok (.invokevirtual 45, 3) := by decide +kernel
theorem dX1_addOver_31 : decode cX1_addOver 31 = .ok (.aload_n 0, 1) := by decide +kernel
theorem dX1_addOver_32 : decode cX1_addOver 32 = .ok (.getfield 20, 3) := by decide +kernel
theorem dX1_addOver_35 : decode cX1_addOver 35 = .ok (.iload 4, 2) := by decide +kernel
theorem dX1_addOver_37 : decode cX1_addOver 37 = .ok (.iconst 2, 1) := by decide +kernel
theorem dX1_addOver_38 : decode cX1_addOver 38 = .ok (.iload_n 3, 1) := by decide +kernel
theorem dX1_addOver_39 : decode cX1_addOver 39 = .ok (.invokevirtual 45, 3) := by decide +kernel
theorem dX1_addOver_42 : decode cX1_addOver 42 = .ok (.return_, 1) := by decide +kernel
theorem dX1_addStep_0 : decode cX1_addStep 0 = .ok (.aload_n 0, 1) := by decide +kernel
theorem dX1_addStep_1 : decode cX1_addStep 1 = .ok (.getfield 34, 3) := by decide +kernel
theorem dX1_addStep_4 : decode cX1_addStep 4 = .ok (.bipush 120, 2) := by decide +kernel
theorem dX1_addStep_6 : decode cX1_addStep 6 = .ok (.if_icmp .ge 23, 3) := by decide +kernel
theorem dX1_addStep_9 : decode cX1_addStep 9 = .ok (.aload_n 0, 1) := by decide +kernel
theorem dX1_addStep_10 : decode cX1_addStep 10 = .ok (.getfield 24, 3) := by decide +kernel
theorem dX1_addStep_13 : decode cX1_addStep 13 = .ok (.aload_n 0, 1) := by decide +kernel
theorem dX1_addStep_14 : decode cX1_addStep 14 = .ok (.getfield 34, 3) := by decide +kernel
theorem dX1_addStep_17 : decode cX1_addStep 17 = .ok (.iload_n 1, 1) := by decide +kernel
theorem dX1_addStep_18 : decode cX1_addStep 18 = .ok (.iastore, 1) := by decide +kernel
theorem dX1_addStep_19 : decode cX1_addStep 19 = .ok (.aload_n 0, 1) := by decide +kernel
theorem dX1_addStep_20 : decode cX1_addStep 20 = .ok (.dup, 1) := by decide +kernel
theorem dX1_addStep_21 : decode cX1_addStep 21 = .ok (.getfield 34, 3) := by decide +kernel
theorem dX1_addStep_24 : decode cX1_addStep 24 = .ok (.iconst 1, 1) := by decide +kernel
theorem dX1_addStep_25 : decode cX1_addStep 25 = .ok (.iadd, 1) := by decide +kernel
theorem dX1_addStep_26 : decode cX1_addStep 26 = .ok (.putfield 34, 3) := by decide +kernel
theorem dX1_addStep_29 : decode cX1_addStep 29 = .ok (.return_, 1) := by decide +kernel
set_option maxRecDepth 20000 in
theorem ggX1_copy_X2_copy : GoodIn wsX1_copy wsX2_copy := goodIn_r _ [17, 18, 19, 20, 21, 22, 23, 24, 25, 9, 10, 11, 34, 35, 36, 37] (by decide +kernel) (by decide +kernel)
set_option maxRecDepth 20000 in
theorem gX1_copy_X2_copy : GoodIn wsX1_copy (wsV RX1 58 RX2 yX2_copy wsX2_copy) := goodIn_app (goodIn_of _ (by decide +kernel)) ggX1_copy_X2_copy
theorem dX1_copy_0 : decode cX1_copy 0 = .ok (.aload_n 0, 1) := by decide +kernel
theorem dX1_copy_1 : decode cX1_copy 1 = .ok (.aload_n 1, 1) := by decide +kernel
theorem dX1_copy_2 : decode cX1_copy 2 = .ok (.getfield 49, 3) := by decide +kernel
theorem dX1_copy_5 : decode cX1_copy 5 = .ok (.putfield 49, 3) := by decide +kernel
theorem dX1_copy_8 : decode cX1_copy 8 = .ok (.aload_n 0, 1) := by decide +kernel
theorem dX1_copy_9 : decode cX1_copy 9 = .ok (.aload_n 1, 1) := by decide +kernel
theorem dX1_copy_10 : decode cX1_copy 10 = .ok (.getfield 52, 3) := by decide +kernel
theorem dX1_copy_13 : decode cX1_copy 13 = .ok (.putfield 52, 3) := by decide +kernel
theorem dX1_copy_16 : decode cX1_copy 16 = .ok (.aload_n 0, 1) := by decide +kernel
theorem dX1_copy_17 : decode cX1_copy 17 = .ok (.aload_n 1, 1) := by decide +kernel
theorem dX1_copy_18 : decode cX1_copy 18 = .ok (.getfield 55, 3) := by decide +kernel
theorem dX1_copy_21 : decode cX1_copy 21 = .ok (.putfield 55, 3) := by decide +kernel
theorem dX1_copy_24 : decode cX1_copy 24 = .ok (.aload_n 0, 1) := by decide +kernel
theorem dX1_copy_25 : decode cX1_copy 25 = .ok (.aload_n 1, 1) := by decide +kernel
theorem dX1_copy_26 : decode cX1_copy 26 = .ok (.getfield 27, 3) := by decide +kernel
theorem dX1_copy_29 : decode cX1_copy 29 = .ok (.putfield 27, 3) := by decide +kernel
theorem dX1_copy_32 : decode cX1_copy 32 = .ok (.aload_n 0, 1) := by decide +kernel
theorem dX1_copy_33 : decode cX1_copy 33 = .ok (.aload_n 1, 1) := by decide +kernel
theorem dX1_copy_34 : decode cX1_copy 34 = .ok (.getfield 34, 3) := by decide +kernel
theorem dX1_copy_37 : decode cX1_copy 37 = .ok (.putfield 34, 3) := by decide +kernel
theorem dX1_copy_40 : decode cX1_copy 40 = .ok (.aload_n 0, 1) := by decide +kernel
theorem dX1_copy_41 : decode cX1_copy 41 = .ok (.getfield 20, 3) := by decide +kernel
theorem dX1_copy_44 : decode cX1_copy 44 = .ok (.aload_n 1, 1) := by decide +kernel
theorem dX1_copy_45 : decode cX1_copy 45 = .ok (.getfield 20, 3) := by decide +kernel
theorem dX1_copy_48 : decode cX1_copy 48 = .ok (.invokevirtual 58, 3) := by decide +kernel
theorem dX1_copy_51 : decode cX1_copy 51 = .ok (.aload_n 1, 1) := by decide +kernel
theorem dX1_copy_52 : decode cX1_copy 52 = .ok (.getfield 11, 3) := by decide +kernel
theorem dX1_copy_55 : decode cX1_copy 55 = .ok (.iconst 0, 1) := by decide +kernel
theorem dX1_copy_56 : decode cX1_copy 56 = .ok (.aload_n 0, 1) := by decide +kernel
theorem dX1_copy_57 : decode cX1_copy 57 = .ok (.getfield 11, 3) := by decide +kernel
theorem dX1_copy_60 : decode cX1_copy 60 = .ok (.iconst 0, 1) := by decide +kernel
theorem dX1_copy_61 : decode cX1_copy 61 = .ok (.iconst 4, 1) := by decide +kernel
theorem dX1_copy_62 : decode cX1_copy 62 = .ok (.invokestatic 62, 3) := by decide +kernel
theorem dX1_copy_65 : decode cX1_copy 65 = .ok (.aload_n 1, 1) := by decide +kernel
theorem dX1_copy_66 : decode cX1_copy 66 = .ok (.getfield 24, 3) := by decide +kernel
theorem dX1_copy_69 : decode cX1_copy 69 = .ok (.iconst 0, 1) := by decide +kernel
theorem dX1_copy_70 : decode cX1_copy 70 = .ok (.aload_n 0, 1) := by decide +kernel
theorem dX1_copy_71 : decode cX1_copy 71 = .ok (.getfield 24, 3) := by decide +kernel
theorem dX1_copy_74 : decode cX1_copy 74 = .ok (.iconst 0, 1) := by decide +kernel
theorem dX1_copy_75 : decode cX1_copy 75 = .ok (.bipush 120, 2) := by decide +kernel
theorem dX1_copy_77 : decode cX1_copy 77 = .ok (.invokestatic 62, 3) := by decide +kernel
theorem dX1_copy_80 : decode cX1_copy 80 = .ok (.return_, 1) := by decide +kernel
set_option maxRecDepth 20000 in
theorem ggX1_firstSaid_X1_valueOf : GoodIn wsX1_firstSaid wsX1_valueOf := goodIn_r _ [7, 8, 9, 10, 11, 12, 13, 14, 15, 27, 28, 29, 30] (by decide +kernel) (by decide +kernel)
set_option maxRecDepth 20000 in
theorem gX1_firstSaid_X1_valueOf : GoodIn wsX1_firstSaid (va_wsS RX1 68 yX1_valueOf wsX1_valueOf) := goodIn_app (goodIn_of _ (by decide +kernel)) ggX1_firstSaid_X1_valueOf
set_option maxRecDepth 20000 in
theorem ggX1_firstSaid_X1_holds : GoodIn wsX1_firstSaid wsX1_holds := goodIn_r _ [18] (by decide +kernel) (by decide +kernel)
set_option maxRecDepth 20000 in
theorem gX1_firstSaid_X1_holds : GoodIn wsX1_firstSaid (va_wsS RX1 72 yX1_holds wsX1_holds) := goodIn_app (goodIn_of _ (by decide +kernel)) ggX1_firstSaid_X1_holds
theorem dX1_firstSaid_0 : decode cX1_firstSaid 0 = .ok (.lconst 0, 1) := by decide +kernel
theorem dX1_firstSaid_1 : decode cX1_firstSaid 1 = .ok (.lstore 4, 2) := by decide +kernel
theorem dX1_firstSaid_3 : decode cX1_firstSaid 3 = .ok (.iconst 0, 1) := by decide +kernel
theorem dX1_firstSaid_4 : decode cX1_firstSaid 4 = .ok (.istore 6, 2) := by decide +kernel
theorem dX1_firstSaid_6 : decode cX1_firstSaid 6 = .ok (.iload 6, 2) := by decide +kernel
theorem dX1_firstSaid_8 : decode cX1_firstSaid 8 = .ok (.aload_n 0, 1) := by decide +kernel
theorem dX1_firstSaid_9 : decode cX1_firstSaid 9 = .ok (.getfield 34, 3) := by decide +kernel
theorem dX1_firstSaid_12 : decode cX1_firstSaid 12 = .ok (.if_icmp .ge 145, 3) := by decide +kernel
theorem dX1_firstSaid_15 : decode cX1_firstSaid 15 = .ok (.iload 6, 2) := by decide +kernel
theorem dX1_firstSaid_17 : decode cX1_firstSaid 17 = .ok (.bipush 120, 2) := by decide +kernel
theorem dX1_firstSaid_19 : decode cX1_firstSaid 19 = .ok (.if_icmp .ge 138, 3) := by decide +kernel
theorem dX1_firstSaid_22 : decode cX1_firstSaid 22 = .ok (.aload_n 0, 1) := by decide +kernel
theorem dX1_firstSaid_23 : decode cX1_firstSaid 23 = .ok (.getfield 24, 3) := by decide +kernel
theorem dX1_firstSaid_26 : decode cX1_firstSaid 26 = .ok (.iload 6, 2) := by decide +kernel
theorem dX1_firstSaid_28 : decode cX1_firstSaid 28 = .ok (.iaload, 1) := by decide +kernel
theorem dX1_firstSaid_29 : decode cX1_firstSaid 29 = .ok (.istore 7, 2) := by decide +kernel
theorem dX1_firstSaid_31 : decode cX1_firstSaid 31 = .ok (.lload 4, 2) := by decide +kernel
theorem dX1_firstSaid_33 : decode cX1_firstSaid 33 = .ok (.lconst 1, 1) := by decide +kernel
theorem dX1_firstSaid_34 : decode cX1_firstSaid 34 = .ok (.land, 1) := by decide +kernel
theorem dX1_firstSaid_35 : decode cX1_firstSaid 35 = .ok (.lstore 8, 2) := by decide +kernel
theorem dX1_firstSaid_37 : decode cX1_firstSaid 37 = .ok (.iload 7, 2) := by decide +kernel
theorem dX1_firstSaid_39 : decode cX1_firstSaid 39 = .ok (.ifCond .lt 39, 3) := by decide +kernel
theorem dX1_firstSaid_42 : decode cX1_firstSaid 42 = .ok (.lload 4, 2) := by decide +kernel
theorem dX1_firstSaid_44 : decode cX1_firstSaid 44 = .ok (.iconst 1, 1) := by decide +kernel
theorem dX1_firstSaid_45 : decode cX1_firstSaid 45 = .ok (.lshl, 1) := by decide +kernel
theorem dX1_firstSaid_46 : decode cX1_firstSaid 46 = .ok (.iload 7, 2) := by decide +kernel
theorem dX1_firstSaid_48 : decode cX1_firstSaid 48 = .ok (.iload 7, 2) := by decide +kernel
theorem dX1_firstSaid_50 : decode cX1_firstSaid 50 = .ok (.sipush 3000, 3) := by decide +kernel
theorem dX1_firstSaid_53 : decode cX1_firstSaid 53 = .ok (.idiv, 1) := by decide +kernel
theorem dX1_firstSaid_54 : decode cX1_firstSaid 54 = .ok (.aload_n 1, 1) := by decide +kernel
theorem dX1_firstSaid_55 : decode cX1_firstSaid 55 = .ok (.iload_n 2, 1) := by decide +kernel
theorem dX1_firstSaid_56 : decode cX1_firstSaid 56 = .ok (.iload_n 3, 1) := by decide +kernel
theorem dX1_firstSaid_57 : decode cX1_firstSaid 57 = .ok (.invokestatic 68, 3) := by decide +kernel
theorem dX1_firstSaid_60 : decode cX1_firstSaid 60 = .ok (.invokestatic 72, 3) := by decide +kernel
theorem dX1_firstSaid_63 : decode cX1_firstSaid 63 = .ok (.ifCond .eq 7, 3) := by decide +kernel
theorem dX1_firstSaid_66 : decode cX1_firstSaid 66 = .ok (.iconst 1, 1) := by decide +kernel
theorem dX1_firstSaid_67 : decode cX1_firstSaid 67 = .ok (.goto 4, 3) := by decide +kernel
theorem dX1_firstSaid_70 : decode cX1_firstSaid 70 = .ok (.iconst 0, 1) := by decide +kernel
theorem dX1_firstSaid_71 : decode cX1_firstSaid 71 = .ok (.i2l, 1) := by decide +kernel
theorem dX1_firstSaid_72 : decode cX1_firstSaid 72 = .ok (.lor, 1) := by decide +kernel
theorem dX1_firstSaid_73 : decode cX1_firstSaid 73 = .ok (.lstore 4, 2) := by decide +kernel
theorem dX1_firstSaid_75 : decode cX1_firstSaid 75 = .ok (.goto 76, 3) := by decide +kernel
theorem dX1_firstSaid_78 : decode cX1_firstSaid 78 = .ok (.iload 7, 2) := by decide +kernel
theorem dX1_firstSaid_80 : decode cX1_firstSaid 80 = .ok (.bipush (-3), 2) := by decide +kernel
theorem dX1_firstSaid_82 : decode cX1_firstSaid 82 = .ok (.if_icmp .ne 12, 3) := by decide +kernel
theorem dX1_firstSaid_85 : decode cX1_firstSaid 85 = .ok (.lload 4, 2) := by decide +kernel
theorem dX1_firstSaid_87 : decode cX1_firstSaid 87 = .ok (.lconst 1, 1) := by decide +kernel
theorem dX1_firstSaid_88 : decode cX1_firstSaid 88 = .ok (.lxor, 1) := by decide +kernel
theorem dX1_firstSaid_89 : decode cX1_firstSaid 89 = .ok (.lstore 4, 2) := by decide +kernel
theorem dX1_firstSaid_91 : decode cX1_firstSaid 91 = .ok (.goto 60, 3) := by decide +kernel
theorem dX1_firstSaid_94 : decode cX1_firstSaid 94 = .ok (.iload 7, 2) := by decide +kernel
theorem dX1_firstSaid_96 : decode cX1_firstSaid 96 = .ok (.iconst (-1), 1) := by decide +kernel
theorem dX1_firstSaid_97 : decode cX1_firstSaid 97 = .ok (.if_icmp .ne 19, 3) := by decide +kernel
theorem dX1_firstSaid_100 : decode cX1_firstSaid 100 = .ok (.lload 4, 2) := by decide +kernel
theorem dX1_firstSaid_102 : decode cX1_firstSaid 102 = .ok (.iconst 1, 1) := by decide +kernel
theorem dX1_firstSaid_103 : decode cX1_firstSaid 103 = .ok (.lshr, 1) := by decide +kernel
theorem dX1_firstSaid_104 : decode cX1_firstSaid 104 = .ok (.lload 8, 2) := by decide +kernel
theorem dX1_firstSaid_106 : decode cX1_firstSaid 106 = .ok (.ldc2_w 76, 3) := by decide +kernel
theorem dX1_firstSaid_109 : decode cX1_firstSaid 109 = .ok (.lor, 1) := by decide +kernel
theorem dX1_firstSaid_110 : decode cX1_firstSaid 110 = .ok (.land, 1) := by decide +kernel
theorem dX1_firstSaid_111 : decode cX1_firstSaid 111 = .ok (.lstore 4, 2) := by decide +kernel
theorem dX1_firstSaid_113 : decode cX1_firstSaid 113 = .ok (.goto 38, 3) := by decide +kernel
theorem dX1_firstSaid_116 : decode cX1_firstSaid 116 = .ok (.iload 7, 2) := by decide +kernel
theorem dX1_firstSaid_118 : decode cX1_firstSaid 118 = .ok (.bipush (-2), 2) := by decide +kernel
theorem dX1_firstSaid_120 : decode cX1_firstSaid 120 = .ok (.if_icmp .ne 15, 3) := by decide +kernel
theorem dX1_firstSaid_123 : decode cX1_firstSaid 123 = .ok (.lload 4, 2) := by decide +kernel
theorem dX1_firstSaid_125 : decode cX1_firstSaid 125 = .ok (.iconst 1, 1) := by decide +kernel
theorem dX1_firstSaid_126 : decode cX1_firstSaid 126 = .ok (.lshr, 1) := by decide +kernel
theorem dX1_firstSaid_127 : decode cX1_firstSaid 127 = .ok (.lload 8, 2) := by decide +kernel
theorem dX1_firstSaid_129 : decode cX1_firstSaid 129 = .ok (.lor, 1) := by decide +kernel
theorem dX1_firstSaid_130 : decode cX1_firstSaid 130 = .ok (.lstore 4, 2) := by decide +kernel
theorem dX1_firstSaid_132 : decode cX1_firstSaid 132 = .ok (.goto 19, 3) := by decide +kernel
theorem dX1_firstSaid_135 : decode cX1_firstSaid 135 = .ok (.lload 8, 2) := by decide +kernel
theorem dX1_firstSaid_137 : decode cX1_firstSaid 137 = .ok (.lconst 1, 1) := by decide +kernel
theorem dX1_firstSaid_138 : decode cX1_firstSaid 138 = .ok (.lcmp, 1) := by decide +kernel
theorem dX1_firstSaid_139 : decode cX1_firstSaid 139 = .ok (.ifCond .ne 9, 3) := by decide +kernel
theorem dX1_firstSaid_142 : decode cX1_firstSaid 142 = .ok (.bipush (-10), 2) := by decide +kernel
theorem dX1_firstSaid_144 : decode cX1_firstSaid 144 = .ok (.iload 7, 2) := by decide +kernel
theorem dX1_firstSaid_146 : decode cX1_firstSaid 146 = .ok (.isub, 1) := by decide +kernel
theorem dX1_firstSaid_147 : decode cX1_firstSaid 147 = .ok (.ireturn, 1) := by decide +kernel
theorem dX1_firstSaid_148 : decode cX1_firstSaid 148 = .ok (.lconst 0, 1) := by decide +kernel
theorem dX1_firstSaid_149 : decode cX1_firstSaid 149 = .ok (.lstore 4, 2) := by decide +kernel
theorem dX1_firstSaid_151 : decode cX1_firstSaid 151 = .ok (.iinc 6 1, 3) := by decide +kernel
theorem dX1_firstSaid_154 : decode cX1_firstSaid 154 = .ok (.goto (-148), 3) := by decide +kernel
theorem dX1_firstSaid_157 : decode cX1_firstSaid 157 = .ok (.iconst (-1), 1) := by decide +kernel
theorem dX1_firstSaid_158 : decode cX1_firstSaid 158 = .ok (.ireturn, 1) := by decide +kernel
theorem dX1_holds_0 : decode cX1_holds 0 = .ok (.iload_n 0, 1) := by decide +kernel
theorem dX1_holds_1 : decode cX1_holds 1 = .ok (.sipush 1000, 3) := by decide +kernel
theorem dX1_holds_4 : decode cX1_holds 4 = .ok (.irem, 1) := by decide +kernel
theorem dX1_holds_5 : decode cX1_holds 5 = .ok (.istore_n 2, 1) := by decide +kernel
theorem dX1_holds_6 : decode cX1_holds 6 = .ok (.iload_n 0, 1) := by decide +kernel
theorem dX1_holds_7 : decode cX1_holds 7 = .ok (.sipush 1000, 3) := by decide +kernel
theorem dX1_holds_10 : decode cX1_holds 10 = .ok (.idiv, 1) := by decide +kernel
theorem dX1_holds_11 : decode cX1_holds 11 = .ok (.iconst 3, 1) := by decide +kernel
theorem dX1_holds_12 : decode cX1_holds 12 = .ok (.irem, 1) := by decide +kernel
theorem dX1_holds_13 : decode cX1_holds 13 = .ok (.lookupswitch 49 #[(0, 27), (1, 38)], 27) := by decide +kernel
theorem dX1_holds_40 : decode cX1_holds 40 = .ok (.iload_n 1, 1) := by decide +kernel
theorem dX1_holds_41 : decode cX1_holds 41 = .ok (.iload_n 2, 1) := by decide +kernel
theorem dX1_holds_42 : decode cX1_holds 42 = .ok (.if_icmp .ge 7, 3) := by decide +kernel
theorem dX1_holds_45 : decode cX1_holds 45 = .ok (.iconst 1, 1) := by decide +kernel
theorem dX1_holds_46 : decode cX1_holds 46 = .ok (.goto 4, 3) := by decide +kernel
theorem dX1_holds_49 : decode cX1_holds 49 = .ok (.iconst 0, 1) := by decide +kernel
theorem dX1_holds_50 : decode cX1_holds 50 = .ok (.ireturn, 1) := by decide +kernel
theorem dX1_holds_51 : decode cX1_holds 51 = .ok (.iload_n 1, 1) := by decide +kernel
theorem dX1_holds_52 : decode cX1_holds 52 = .ok (.iload_n 2, 1) := by decide +kernel
theorem dX1_holds_53 : decode cX1_holds 53 = .ok (.if_icmp .ne 7, 3) := by decide +kernel
theorem dX1_holds_56 : decode cX1_holds 56 = .ok (.iconst 1, 1) := by decide +kernel
theorem dX1_holds_57 : decode cX1_holds 57 = .ok (.goto 4, 3) := by decide +kernel
theorem dX1_holds_60 : decode cX1_holds 60 = .ok (.iconst 0, 1) := by decide +kernel
theorem dX1_holds_61 : decode cX1_holds 61 = .ok (.ireturn, 1) := by decide +kernel
theorem dX1_holds_62 : decode cX1_holds 62 = .ok (.iload_n 1, 1) := by decide +kernel
theorem dX1_holds_63 : decode cX1_holds 63 = .ok (.iload_n 2, 1) := by decide +kernel
theorem dX1_holds_64 : decode cX1_holds 64 = .ok (.if_icmp .le 7, 3) := by decide +kernel
theorem dX1_holds_67 : decode cX1_holds 67 = .ok (.iconst 1, 1) := by decide +kernel
theorem dX1_holds_68 : decode cX1_holds 68 = .ok (.goto 4, 3) := by decide +kernel
theorem dX1_holds_71 : decode cX1_holds 71 = .ok (.iconst 0, 1) := by decide +kernel
theorem dX1_holds_72 : decode cX1_holds 72 = .ok (.ireturn, 1) := by decide +kernel
set_option maxRecDepth 20000 in
theorem ggX1_valueOf_X2_at : GoodIn wsX1_valueOf wsX2_at := goodIn_r _ [5, 6, 7, 8, 9, 10, 11, 12] (by decide +kernel) (by decide +kernel)
set_option maxRecDepth 20000 in
theorem gX1_valueOf_X2_at : GoodIn wsX1_valueOf (wsV RX1 78 RX2 yX2_at wsX2_at) := goodIn_app (goodIn_of _ (by decide +kernel)) ggX1_valueOf_X2_at
theorem dX1_valueOf_0 : decode cX1_valueOf 0 = .ok (.iload_n 0, 1) := by decide +kernel
theorem dX1_valueOf_1 : decode cX1_valueOf 1 = .ok (.ifCond .ne 5, 3) := by decide +kernel
theorem dX1_valueOf_4 : decode cX1_valueOf 4 = .ok (.iload_n 3, 1) := by decide +kernel
theorem dX1_valueOf_5 : decode cX1_valueOf 5 = .ok (.ireturn, 1) := by decide +kernel
theorem dX1_valueOf_6 : decode cX1_valueOf 6 = .ok (.iload_n 0, 1) := by decide +kernel
theorem dX1_valueOf_7 : decode cX1_valueOf 7 = .ok (.bipush 6, 2) := by decide +kernel
theorem dX1_valueOf_9 : decode cX1_valueOf 9 = .ok (.if_icmp .ne 19, 3) := by decide +kernel
theorem dX1_valueOf_12 : decode cX1_valueOf 12 = .ok (.aload_n 1, 1) := by decide +kernel
theorem dX1_valueOf_13 : decode cX1_valueOf 13 = .ok (.iload_n 2, 1) := by decide +kernel
theorem dX1_valueOf_14 : decode cX1_valueOf 14 = .ok (.bipush 6, 2) := by decide +kernel
theorem dX1_valueOf_16 : decode cX1_valueOf 16 = .ok (.invokevirtual 78, 3) := by decide +kernel
theorem dX1_valueOf_19 : decode cX1_valueOf 19 = .ok (.ifCond .ne 7, 3) := by decide +kernel
theorem dX1_valueOf_22 : decode cX1_valueOf 22 = .ok (.iconst 0, 1) := by decide +kernel
theorem dX1_valueOf_23 : decode cX1_valueOf 23 = .ok (.goto 4, 3) := by decide +kernel
theorem dX1_valueOf_26 : decode cX1_valueOf 26 = .ok (.iconst 1, 1) := by decide +kernel
theorem dX1_valueOf_27 : decode cX1_valueOf 27 = .ok (.ireturn, 1) := by decide +kernel
theorem dX1_valueOf_28 : decode cX1_valueOf 28 = .ok (.aload_n 1, 1) := by decide +kernel
theorem dX1_valueOf_29 : decode cX1_valueOf 29 = .ok (.iload_n 2, 1) := by decide +kernel
theorem dX1_valueOf_30 : decode cX1_valueOf 30 = .ok (.iload_n 0, 1) := by decide +kernel
theorem dX1_valueOf_31 : decode cX1_valueOf 31 = .ok (.iconst 1, 1) := by decide +kernel
theorem dX1_valueOf_32 : decode cX1_valueOf 32 = .ok (.isub, 1) := by decide +kernel
theorem dX1_valueOf_33 : decode cX1_valueOf 33 = .ok (.invokevirtual 78, 3) := by decide +kernel
theorem dX1_valueOf_36 : decode cX1_valueOf 36 = .ok (.ireturn, 1) := by decide +kernel
theorem dX2_init_0 : decode cX2_init 0 = .ok (.aload_n 0, 1) := by decide +kernel
theorem dX2_init_1 : decode cX2_init 1 = .ok (.invokespecial 3, 3) := by decide +kernel
theorem dX2_init_4 : decode cX2_init 4 = .ok (.aload_n 0, 1) := by decide +kernel
theorem dX2_init_5 : decode cX2_init 5 = .ok (.iload_n 1, 1) := by decide +kernel
theorem dX2_init_6 : decode cX2_init 6 = .ok (.putfield 9, 3) := by decide +kernel
theorem dX2_init_9 : decode cX2_init 9 = .ok (.aload_n 0, 1) := by decide +kernel
theorem dX2_init_10 : decode cX2_init 10 = .ok (.iload_n 2, 1) := by decide +kernel
theorem dX2_init_11 : decode cX2_init 11 = .ok (.putfield 15, 3) := by decide +kernel
theorem dX2_init_14 : decode cX2_init 14 = .ok (.aload_n 0, 1) := by decide +kernel
theorem dX2_init_15 : decode cX2_init 15 = .ok (.iload_n 1, 1) := by decide +kernel
theorem dX2_init_16 : decode cX2_init 16 = .ok (.iload_n 2, 1) := by decide +kernel
theorem dX2_init_17 : decode cX2_init 17 = .ok (.imul, 1) := by decide +kernel
theorem dX2_init_18 : decode cX2_init 18 = .ok (.newarray .int, 2) := by decide +kernel
theorem dX2_init_20 : decode cX2_init 20 = .ok (.putfield 18, 3) := by decide +kernel
theorem dX2_init_23 : decode cX2_init 23 = .ok (.return_, 1) := by decide +kernel
theorem dX2_has_0 : decode cX2_has 0 = .ok (.iload_n 1, 1) := by decide +kernel
theorem dX2_has_1 : decode cX2_has 1 = .ok (.ifCond .lt 15, 3) := by decide +kernel
theorem dX2_has_4 : decode cX2_has 4 = .ok (.iload_n 1, 1) := by decide +kernel
theorem dX2_has_5 : decode cX2_has 5 = .ok (.aload_n 0, 1) := by decide +kernel
theorem dX2_has_6 : decode cX2_has 6 = .ok (.getfield 22, 3) := by decide +kernel
theorem dX2_has_9 : decode cX2_has 9 = .ok (.if_icmp .ge 7, 3) := by decide +kernel
theorem dX2_has_12 : decode cX2_has 12 = .ok (.iconst 1, 1) := by decide +kernel
theorem dX2_has_13 : decode cX2_has 13 = .ok (.goto 4, 3) := by decide +kernel
theorem dX2_has_16 : decode cX2_has 16 = .ok (.iconst 0, 1) := by decide +kernel
theorem dX2_has_17 : decode cX2_has 17 = .ok (.ireturn, 1) := by decide +kernel
theorem dX2_isFull_0 : decode cX2_isFull 0 = .ok (.aload_n 0, 1) := by decide +kernel
theorem dX2_isFull_1 : decode cX2_isFull 1 = .ok (.getfield 22, 3) := by decide +kernel
theorem dX2_isFull_4 : decode cX2_isFull 4 = .ok (.aload_n 0, 1) := by decide +kernel
theorem dX2_isFull_5 : decode cX2_isFull 5 = .ok (.getfield 9, 3) := by decide +kernel
theorem dX2_isFull_8 : decode cX2_isFull 8 = .ok (.if_icmp .lt 7, 3) := by decide +kernel
theorem dX2_isFull_11 : decode cX2_isFull 11 = .ok (.iconst 1, 1) := by decide +kernel
theorem dX2_isFull_12 : decode cX2_isFull 12 = .ok (.goto 4, 3) := by decide +kernel
theorem dX2_isFull_15 : decode cX2_isFull 15 = .ok (.iconst 0, 1) := by decide +kernel
theorem dX2_isFull_16 : decode cX2_isFull 16 = .ok (.ireturn, 1) := by decide +kernel
theorem dX2_at_0 : decode cX2_at 0 = .ok (.iload_n 1, 1) := by decide +kernel
theorem dX2_at_1 : decode cX2_at 1 = .ok (.ifCond .lt 39, 3) := by decide +kernel
theorem dX2_at_4 : decode cX2_at 4 = .ok (.iload_n 1, 1) := by decide +kernel
theorem dX2_at_5 : decode cX2_at 5 = .ok (.aload_n 0, 1) := by decide +kernel
theorem dX2_at_6 : decode cX2_at 6 = .ok (.getfield 22, 3) := by decide +kernel
theorem dX2_at_9 : decode cX2_at 9 = .ok (.if_icmp .ge 31, 3) := by decide +kernel
theorem dX2_at_12 : decode cX2_at 12 = .ok (.iload_n 2, 1) := by decide +kernel
theorem dX2_at_13 : decode cX2_at 13 = .ok (.ifCond .lt 27, 3) := by decide +kernel
theorem dX2_at_16 : decode cX2_at 16 = .ok (.iload_n 2, 1) := by decide +kernel
theorem dX2_at_17 : decode cX2_at 17 = .ok (.aload_n 0, 1) := by decide +kernel
theorem dX2_at_18 : decode cX2_at 18 = .ok (.getfield 15, 3) := by decide +kernel
theorem dX2_at_21 : decode cX2_at 21 = .ok (.if_icmp .ge 19, 3) := by decide +kernel
theorem dX2_at_24 : decode cX2_at 24 = .ok (.aload_n 0, 1) := by decide +kernel
theorem dX2_at_25 : decode cX2_at 25 = .ok (.getfield 18, 3) := by decide +kernel
theorem dX2_at_28 : decode cX2_at 28 = .ok (.iload_n 1, 1) := by decide +kernel
theorem dX2_at_29 : decode cX2_at 29 = .ok (.aload_n 0, 1) := by decide +kernel
theorem dX2_at_30 : decode cX2_at 30 = .ok (.getfield 15, 3) := by decide +kernel
theorem dX2_at_33 : decode cX2_at 33 = .ok (.imul, 1) := by decide +kernel
theorem dX2_at_34 : decode cX2_at 34 = .ok (.iload_n 2, 1) := by decide +kernel
theorem dX2_at_35 : decode cX2_at 35 = .ok (.iadd, 1) := by decide +kernel
theorem dX2_at_36 : decode cX2_at 36 = .ok (.iaload, 1) := by decide +kernel
theorem dX2_at_37 : decode cX2_at 37 = .ok (.goto 4, 3) := by decide +kernel
theorem dX2_at_40 : decode cX2_at 40 = .ok (.iconst 0, 1) := by decide +kernel
theorem dX2_at_41 : decode cX2_at 41 = .ok (.ireturn, 1) := by decide +kernel
theorem dX2_put_0 : decode cX2_put 0 = .ok (.iload_n 1, 1) := by decide +kernel
theorem dX2_put_1 : decode cX2_put 1 = .ok (.ifCond .lt 37, 3) := by decide +kernel
theorem dX2_put_4 : decode cX2_put 4 = .ok (.iload_n 1, 1) := by decide +kernel
theorem dX2_put_5 : decode cX2_put 5 = .ok (.aload_n 0, 1) := by decide +kernel
theorem dX2_put_6 : decode cX2_put 6 = .ok (.getfield 22, 3) := by decide +kernel
theorem dX2_put_9 : decode cX2_put 9 = .ok (.if_icmp .ge 29, 3) := by decide +kernel
theorem dX2_put_12 : decode cX2_put 12 = .ok (.iload_n 2, 1) := by decide +kernel
theorem dX2_put_13 : decode cX2_put 13 = .ok (.ifCond .lt 25, 3) := by decide +kernel
theorem dX2_put_16 : decode cX2_put 16 = .ok (.iload_n 2, 1) := by decide +kernel
theorem dX2_put_17 : decode cX2_put 17 = .ok (.aload_n 0, 1) := by decide +kernel
theorem dX2_put_18 : decode cX2_put 18 = .ok (.getfield 15, 3) := by decide +kernel
theorem dX2_put_21 : decode cX2_put 21 = .ok (.if_icmp .ge 17, 3) := by decide +kernel
theorem dX2_put_24 : decode cX2_put 24 = .ok (.aload_n 0, 1) := by decide +kernel
theorem dX2_put_25 : decode cX2_put 25 = .ok (.getfield 18, 3) := by decide +kernel
theorem dX2_put_28 : decode cX2_put 28 = .ok (.iload_n 1, 1) := by decide +kernel
theorem dX2_put_29 : decode cX2_put 29 = .ok (.aload_n 0, 1) := by decide +kernel
theorem dX2_put_30 : decode cX2_put 30 = .ok (.getfield 15, 3) := by decide +kernel
theorem dX2_put_33 : decode cX2_put 33 = .ok (.imul, 1) := by decide +kernel
theorem dX2_put_34 : decode cX2_put 34 = .ok (.iload_n 2, 1) := by decide +kernel
theorem dX2_put_35 : decode cX2_put 35 = .ok (.iadd, 1) := by decide +kernel
theorem dX2_put_36 : decode cX2_put 36 = .ok (.iload_n 3, 1) := by decide +kernel
theorem dX2_put_37 : decode cX2_put 37 = .ok (.iastore, 1) := by decide +kernel
theorem dX2_put_38 : decode cX2_put 38 = .ok (.return_, 1) := by decide +kernel
theorem dX2_add_0 : decode cX2_add 0 = .ok (.aload_n 0, 1) := by decide +kernel
theorem dX2_add_1 : decode cX2_add 1 = .ok (.getfield 22, 3) := by decide +kernel
theorem dX2_add_4 : decode cX2_add 4 = .ok (.aload_n 0, 1) := by decide +kernel
theorem dX2_add_5 : decode cX2_add 5 = .ok (.getfield 9, 3) := by decide +kernel
theorem dX2_add_8 : decode cX2_add 8 = .ok (.if_icmp .lt 6, 3) := by decide +kernel
theorem dX2_add_11 : decode cX2_add 11 = .ok (.bipush (-4), 2) := by decide +kernel
theorem dX2_add_13 : decode cX2_add 13 = .ok (.ireturn, 1) := by decide +kernel
theorem dX2_add_14 : decode cX2_add 14 = .ok (.aload_n 0, 1) := by decide +kernel
theorem dX2_add_15 : decode cX2_add 15 = .ok (.dup, 1) := by decide +kernel
theorem dX2_add_16 : decode cX2_add 16 = .ok (.getfield 22, 3) := by decide +kernel
theorem dX2_add_19 : decode cX2_add 19 = .ok (.iconst 1, 1) := by decide +kernel
theorem dX2_add_20 : decode cX2_add 20 = .ok (.iadd, 1) := by decide +kernel
theorem dX2_add_21 : decode cX2_add 21 = .ok (.putfield 22, 3) := by decide +kernel
theorem dX2_add_24 : decode cX2_add 24 = .ok (.aload_n 0, 1) := by decide +kernel
theorem dX2_add_25 : decode cX2_add 25 = .ok (.getfield 22, 3) := by decide +kernel
theorem dX2_add_28 : decode cX2_add 28 = .ok (.iconst 1, 1) := by decide +kernel
theorem dX2_add_29 : decode cX2_add 29 = .ok (.isub, 1) := by decide +kernel
theorem dX2_add_30 : decode cX2_add 30 = .ok (.ireturn, 1) := by decide +kernel
theorem dX2_copy_0 : decode cX2_copy 0 = .ok (.aload_n 0, 1) := by decide +kernel
theorem dX2_copy_1 : decode cX2_copy 1 = .ok (.aload_n 1, 1) := by decide +kernel
theorem dX2_copy_2 : decode cX2_copy 2 = .ok (.getfield 22, 3) := by decide +kernel
theorem dX2_copy_5 : decode cX2_copy 5 = .ok (.aload_n 0, 1) := by decide +kernel
theorem dX2_copy_6 : decode cX2_copy 6 = .ok (.getfield 9, 3) := by decide +kernel
theorem dX2_copy_9 : decode cX2_copy 9 = .ok (.invokestatic 25, 3) := by decide +kernel
theorem dX2_copy_12 : decode cX2_copy 12 = .ok (.putfield 22, 3) := by decide +kernel
theorem dX2_copy_15 : decode cX2_copy 15 = .ok (.aload_n 1, 1) := by decide +kernel
theorem dX2_copy_16 : decode cX2_copy 16 = .ok (.getfield 18, 3) := by decide +kernel
theorem dX2_copy_19 : decode cX2_copy 19 = .ok (.iconst 0, 1) := by decide +kernel
theorem dX2_copy_20 : decode cX2_copy 20 = .ok (.aload_n 0, 1) := by decide +kernel
theorem dX2_copy_21 : decode cX2_copy 21 = .ok (.getfield 18, 3) := by decide +kernel
theorem dX2_copy_24 : decode cX2_copy 24 = .ok (.iconst 0, 1) := by decide +kernel
theorem dX2_copy_25 : decode cX2_copy 25 = .ok (.aload_n 1, 1) := by decide +kernel
theorem dX2_copy_26 : decode cX2_copy 26 = .ok (.getfield 18, 3) := by decide +kernel
theorem dX2_copy_29 : decode cX2_copy 29 = .ok (.arraylength, 1) := by decide +kernel
theorem dX2_copy_30 : decode cX2_copy 30 = .ok (.aload_n 0, 1) := by decide +kernel
theorem dX2_copy_31 : decode cX2_copy 31 = .ok (.getfield 18, 3) := by decide +kernel
theorem dX2_copy_34 : decode cX2_copy 34 = .ok (.arraylength, 1) := by decide +kernel
theorem dX2_copy_35 : decode cX2_copy 35 = .ok (.invokestatic 25, 3) := by decide +kernel
theorem dX2_copy_38 : decode cX2_copy 38 = .ok (.invokestatic 31, 3) := by decide +kernel
theorem dX2_copy_41 : decode cX2_copy 41 = .ok (.return_, 1) := by decide +kernel
theorem dX3_init_0 : decode cX3_init 0 = .ok (.aload_n 0, 1) := by decide +kernel
theorem dX3_init_1 : decode cX3_init 1 = .ok (.invokespecial 3, 3) := by decide +kernel
theorem dX3_init_4 : decode cX3_init 4 = .ok (.aload_n 0, 1) := by decide +kernel
theorem dX3_init_5 : decode cX3_init 5 = .ok (.bipush 120, 2) := by decide +kernel
theorem dX3_init_7 : decode cX3_init 7 = .ok (.newarray .byte, 2) := by decide +kernel
theorem dX3_init_9 : decode cX3_init 9 = .ok (.putfield 9, 3) := by decide +kernel
theorem dX3_init_12 : decode cX3_init 12 = .ok (.return_, 1) := by decide +kernel
theorem dX3_append_0 : decode cX3_append 0 = .ok (.aload_n 0, 1) := by decide +kernel
theorem dX3_append_1 : decode cX3_append 1 = .ok (.getfield 15, 3) := by decide +kernel
theorem dX3_append_4 : decode cX3_append 4 = .ok (.iload_n 3, 1) := by decide +kernel
theorem dX3_append_5 : decode cX3_append 5 = .ok (.iadd, 1) := by decide +kernel
theorem dX3_append_6 : decode cX3_append 6 = .ok (.bipush 120, 2) := by decide +kernel
theorem dX3_append_8 : decode cX3_append 8 = .ok (.if_icmp .le 5, 3) := by decide +kernel
theorem dX3_append_11 : decode cX3_append 11 = .ok (.iconst 0, 1) := by decide +kernel
theorem dX3_append_12 : decode cX3_append 12 = .ok (.ireturn, 1) := by decide +kernel
theorem dX3_append_13 : decode cX3_append 13 = .ok (.iload_n 3, 1) := by decide +kernel
theorem dX3_append_14 : decode cX3_append 14 = .ok (.iconst 1, 1) := by decide +kernel
theorem dX3_append_15 : decode cX3_append 15 = .ok (.isub, 1) := by decide +kernel
theorem dX3_append_16 : decode cX3_append 16 = .ok (.istore 4, 2) := by decide +kernel
theorem dX3_append_18 : decode cX3_append 18 = .ok (.iload 4, 2) := by decide +kernel
theorem dX3_append_20 : decode cX3_append 20 = .ok (.ifCond .lt 46, 3) := by decide +kernel
theorem dX3_append_23 : decode cX3_append 23 = .ok (.aload_n 0, 1) := by decide +kernel
theorem dX3_append_24 : decode cX3_append 24 = .ok (.getfield 15, 3) := by decide +kernel
theorem dX3_append_27 : decode cX3_append 27 = .ok (.bipush 120, 2) := by decide +kernel
theorem dX3_append_29 : decode cX3_append 29 = .ok (.if_icmp .ge 37, 3) := by decide +kernel
theorem dX3_append_32 : decode cX3_append 32 = .ok (.aload_n 0, 1) := by decide +kernel
theorem dX3_append_33 : decode cX3_append 33 = .ok (.getfield 9, 3) := by decide +kernel
theorem dX3_append_36 : decode cX3_append 36 = .ok (.aload_n 0, 1) := by decide +kernel
theorem dX3_append_37 : decode cX3_append 37 = .ok (.getfield 15, 3) := by decide +kernel
theorem dX3_append_40 : decode cX3_append 40 = .ok (.lload_n 1, 1) := by decide +kernel
theorem dX3_append_41 : decode cX3_append 41 = .ok (.bipush 8, 2) := by decide +kernel
theorem dX3_append_43 : decode cX3_append 43 = .ok (.iload 4, 2) := by decide +kernel
theorem dX3_append_45 : decode cX3_append 45 = .ok (.imul, 1) := by decide +kernel
theorem dX3_append_46 : decode cX3_append 46 = .ok (.lshr, 1) := by decide +kernel
theorem dX3_append_47 : decode cX3_append 47 = .ok (.l2i, 1) := by decide +kernel
theorem dX3_append_48 : decode cX3_append 48 = .ok (.i2b, 1) := by decide +kernel
theorem dX3_append_49 : decode cX3_append 49 = .ok (.bastore, 1) := by decide +kernel
theorem dX3_append_50 : decode cX3_append 50 = .ok (.aload_n 0, 1) := by decide +kernel
theorem dX3_append_51 : decode cX3_append 51 = .ok (.dup, 1) := by decide +kernel
theorem dX3_append_52 : decode cX3_append 52 = .ok (.getfield 15, 3) := by decide +kernel
theorem dX3_append_55 : decode cX3_append 55 = .ok (.iconst 1, 1) := by decide +kernel
theorem dX3_append_56 : decode cX3_append 56 = .ok (.iadd, 1) := by decide +kernel
theorem dX3_append_57 : decode cX3_append 57 = .ok (.putfield 15, 3) := by decide +kernel
theorem dX3_append_60 : decode cX3_append 60 = .ok (.iinc 4 (-1), 3) := by decide +kernel
theorem dX3_append_63 : decode cX3_append 63 = .ok (.goto (-45), 3) := by decide +kernel
theorem dX3_append_66 : decode cX3_append 66 = .ok (.iconst 1, 1) := by decide +kernel
theorem dX3_append_67 : decode cX3_append 67 = .ok (.ireturn, 1) := by decide +kernel
theorem dX3_copy_0 : decode cX3_copy 0 = .ok (.aload_n 0, 1) := by decide +kernel
theorem dX3_copy_1 : decode cX3_copy 1 = .ok (.aload_n 1, 1) := by decide +kernel
theorem dX3_copy_2 : decode cX3_copy 2 = .ok (.getfield 15, 3) := by decide +kernel
theorem dX3_copy_5 : decode cX3_copy 5 = .ok (.putfield 15, 3) := by decide +kernel
theorem dX3_copy_8 : decode cX3_copy 8 = .ok (.aload_n 1, 1) := by decide +kernel
theorem dX3_copy_9 : decode cX3_copy 9 = .ok (.getfield 9, 3) := by decide +kernel
theorem dX3_copy_12 : decode cX3_copy 12 = .ok (.iconst 0, 1) := by decide +kernel
theorem dX3_copy_13 : decode cX3_copy 13 = .ok (.aload_n 0, 1) := by decide +kernel
theorem dX3_copy_14 : decode cX3_copy 14 = .ok (.getfield 9, 3) := by decide +kernel
theorem dX3_copy_17 : decode cX3_copy 17 = .ok (.iconst 0, 1) := by decide +kernel
theorem dX3_copy_18 : decode cX3_copy 18 = .ok (.bipush 120, 2) := by decide +kernel
theorem dX3_copy_20 : decode cX3_copy 20 = .ok (.invokestatic 19, 3) := by decide +kernel
theorem dX3_copy_23 : decode cX3_copy 23 = .ok (.return_, 1) := by decide +kernel
set_option maxRecDepth 20000 in
theorem ggX3_readInto_X1_clear : GoodIn wsX3_readInto wsX1_clear := goodIn_r _ [7, 8, 9, 10, 11, 12, 203, 204, 205, 206, 207, 208, 209, 210, 211, 212, 213, 214] (by decide +kernel) (by decide +kernel)
set_option maxRecDepth 20000 in
theorem gX3_readInto_X1_clear : GoodIn wsX3_readInto (wsV RX3 25 RX1 yX1_clear wsX1_clear) := goodIn_app (goodIn_of _ (by decide +kernel)) ggX3_readInto_X1_clear
set_option maxRecDepth 20000 in
theorem ggX3_readInto_X3_readClause : GoodIn wsX3_readInto wsX3_readClause := goodIn_r _ [17, 18, 19, 20, 16, 21, 1, 2, 22, 23, 24, 25, 26, 27, 28, 29, 30, 31, 32, 33, 34, 35, 36, 37, 38, 39, 40, 41, 42, 43, 44, 45, 46, 47, 48, 49, 50, 51, 52, 53, 54, 55, 56, 57, 58, 59, 60, 61, 62, 63, 64, 65, 66, 67, 68, 69, 70, 71, 72, 73, 74, 75, 76, 77, 78, 79, 80, 81, 82, 83, 84, 85, 86, 87, 88, 89, 90, 91, 92, 93, 94, 95, 96, 97, 98, 99, 100, 101, 102, 103, 104, 105, 106, 107, 108, 109, 110, 111, 112, 113, 114, 115, 116, 117, 118, 119, 120, 121, 122, 123, 124, 125, 126, 127, 128, 129, 130, 131, 132, 133, 134, 135, 136, 137, 138, 139, 140, 141, 142, 143, 144, 145, 146, 147, 148, 149, 150, 151, 6, 152, 12, 153, 154, 155, 156, 157, 158, 159, 160, 161, 162, 163, 9, 164, 165, 166, 167, 168, 169, 170, 171, 172, 173, 174, 175, 176, 177, 178, 179, 180, 181, 182, 183, 184, 185, 186, 187, 188, 189, 190, 191, 192, 193, 11, 194, 195, 196, 197, 198, 199, 200, 201, 202, 203, 204, 205, 206, 207, 208, 209, 210, 211, 212, 213, 214] (by decide +kernel) (by decide +kernel)
set_option maxRecDepth 20000 in
theorem gX3_readInto_X3_readClause : GoodIn wsX3_readInto (wsV RX3 33 RX3 yX3_readClause wsX3_readClause) := goodIn_app (goodIn_of _ (by decide +kernel)) ggX3_readInto_X3_readClause
set_option maxRecDepth 20000 in
theorem ggX3_readInto_X3_take : GoodIn wsX3_readInto wsX3_take := goodIn_r _ [21, 1, 2, 22, 200, 201, 202] (by decide +kernel) (by decide +kernel)
set_option maxRecDepth 20000 in
theorem gX3_readInto_X3_take : GoodIn wsX3_readInto (wsV RX3 37 RX3 yX3_take wsX3_take) := goodIn_app (goodIn_of _ (by decide +kernel)) ggX3_readInto_X3_take
theorem dX3_readInto_0 : decode cX3_readInto 0 = .ok (.aload_n 1, 1) := by decide +kernel
theorem dX3_readInto_1 : decode cX3_readInto 1 = .ok (.invokevirtual 25, 3) := by decide +kernel
theorem dX3_readInto_4 : decode cX3_readInto 4 = .ok (.aload_n 0, 1) := by decide +kernel
theorem dX3_readInto_5 : decode cX3_readInto 5 = .ok (.iconst 0, 1) := by decide +kernel
theorem dX3_readInto_6 : decode cX3_readInto 6 = .ok (.putfield 30, 3) := by decide +kernel
theorem dX3_readInto_9 : decode cX3_readInto 9 = .ok (.iconst 1, 1) := by decide +kernel
theorem dX3_readInto_10 : decode cX3_readInto 10 = .ok (.istore_n 2, 1) := by decide +kernel
theorem dX3_readInto_11 : decode cX3_readInto 11 = .ok (.iload_n 2, 1) := by decide +kernel
theorem dX3_readInto_12 : decode cX3_readInto 12 = .ok (.bipush 10, 2) := by decide +kernel
theorem dX3_readInto_14 : decode cX3_readInto 14 = .ok (.if_icmp .gt 49, 3) := by decide +kernel
theorem dX3_readInto_17 : decode cX3_readInto 17 = .ok (.aload_n 0, 1) := by decide +kernel
theorem dX3_readInto_18 : decode cX3_readInto 18 = .ok (.aload_n 1, 1) := by decide +kernel
theorem dX3_readInto_19 : decode cX3_readInto 19 = .ok (.invokevirtual 33, 3) := by decide +kernel
theorem dX3_readInto_22 : decode cX3_readInto 22 = .ok (.ifCond .ne 5, 3) := by decide +kernel
theorem dX3_readInto_25 : decode cX3_readInto 25 = .ok (.iconst 0, 1) := by decide +kernel
theorem dX3_readInto_26 : decode cX3_readInto 26 = .ok (.ireturn, 1) := by decide +kernel
theorem dX3_readInto_27 : decode cX3_readInto 27 = .ok (.aload_n 0, 1) := by decide +kernel
theorem dX3_readInto_28 : decode cX3_readInto 28 = .ok (.getfield 30, 3) := by decide +kernel
theorem dX3_readInto_31 : decode cX3_readInto 31 = .ok (.aload_n 0, 1) := by decide +kernel
theorem dX3_readInto_32 : decode cX3_readInto 32 = .ok (.getfield 15, 3) := by decide +kernel
theorem dX3_readInto_35 : decode cX3_readInto 35 = .ok (.if_icmp .ne 5, 3) := by decide +kernel
theorem dX3_readInto_38 : decode cX3_readInto 38 = .ok (.iconst 1, 1) := by decide +kernel
theorem dX3_readInto_39 : decode cX3_readInto 39 = .ok (.ireturn, 1) := by decide +kernel
theorem dX3_readInto_40 : decode cX3_readInto 40 = .ok (.iload_n 2, 1) := by decide +kernel
theorem dX3_readInto_41 : decode cX3_readInto 41 = .ok (.bipush 10, 2) := by decide +kernel
theorem dX3_readInto_43 : decode cX3_readInto 43 = .ok (.if_icmp .eq 12, 3) := by decide +kernel
theorem dX3_readInto_46 : decode cX3_readInto 46 = .ok (.aload_n 0, 1) := by decide +kernel
theorem dX3_readInto_47 : decode cX3_readInto 47 = .ok (.bipush 59, 2) := by decide +kernel
theorem dX3_readInto_49 : decode cX3_readInto 49 = .ok (.invokevirtual 37, 3) := by decide +kernel
theorem dX3_readInto_52 : decode cX3_readInto 52 = .ok (.ifCond .ne 5, 3) := by decide +kernel
theorem dX3_readInto_55 : decode cX3_readInto 55 = .ok (.iconst 0, 1) := by decide +kernel
theorem dX3_readInto_56 : decode cX3_readInto 56 = .ok (.ireturn, 1) := by decide +kernel
theorem dX3_readInto_57 : decode cX3_readInto 57 = .ok (.iinc 2 1, 3) := by decide +kernel
theorem dX3_readInto_60 : decode cX3_readInto 60 = .ok (.goto (-49), 3) := by decide +kernel
theorem dX3_readInto_63 : decode cX3_readInto 63 = .ok (.iconst 0, 1) := by decide +kernel
theorem dX3_readInto_64 : decode cX3_readInto 64 = .ok (.ireturn, 1) := by decide +kernel
set_option maxRecDepth 20000 in
theorem ggX3_readClause_X3_take : GoodIn wsX3_readClause wsX3_take := goodIn_r _ [5, 6, 7, 8, 190, 191, 192] (by decide +kernel) (by decide +kernel)
set_option maxRecDepth 20000 in
theorem gX3_readClause_X3_take : GoodIn wsX3_readClause (wsV RX3 37 RX3 yX3_take wsX3_take) := goodIn_app (goodIn_of _ (by decide +kernel)) ggX3_readClause_X3_take
set_option maxRecDepth 20000 in
theorem ggX3_readClause_X3_takeAll : GoodIn wsX3_readClause wsX3_takeAll := goodIn_r _ [12, 13, 14, 15, 16, 17, 18, 19, 20, 21, 22, 23, 24, 25, 26, 27, 28, 29, 30, 31, 32, 33, 34, 35, 36, 37, 38, 39, 40, 41, 42, 43, 44, 45, 46, 47, 48, 49, 50, 51, 52, 53, 54, 55, 56, 57, 58, 59, 60, 61, 1, 2, 3, 4, 5, 6, 7, 8, 190, 191, 192] (by decide +kernel) (by decide +kernel)
set_option maxRecDepth 20000 in
theorem gX3_readClause_X3_takeAll : GoodIn wsX3_readClause (wsV RX3 43 RX3 yX3_takeAll wsX3_takeAll) := goodIn_app (goodIn_of _ (by decide +kernel)) ggX3_readClause_X3_takeAll
set_option maxRecDepth 20000 in
theorem ggX3_readClause_X3_readFrom : GoodIn wsX3_readClause wsX3_readFrom := goodIn_r _ [65, 66, 67, 68, 4, 69, 6, 7, 8, 70, 71, 72, 16, 73, 74, 75, 76, 77, 18, 29, 30, 31, 32, 23, 24, 78, 14, 15, 17, 19, 20, 21, 22, 79, 80, 35, 81, 82, 83, 84, 85, 86, 87, 88, 89, 90, 91, 92, 93, 94, 95, 96, 47, 97, 98, 99, 100, 101, 102, 103, 104, 105, 106, 52, 53, 54, 107, 108, 109, 40, 110, 111, 43, 112, 113, 114, 115, 56, 57, 58, 59, 60, 61, 116, 117, 118, 119, 120, 121, 122, 123, 124, 125, 126, 127, 128, 129, 130, 1, 2, 3, 5, 131, 132, 133, 134, 135, 136, 137, 138, 139, 140, 141, 142, 143, 190, 191, 192, 193, 194, 195, 196, 197, 198, 199, 200] (by decide +kernel) (by decide +kernel)
set_option maxRecDepth 20000 in
theorem gX3_readClause_X3_readFrom : GoodIn wsX3_readClause (wsV RX3 47 RX3 yX3_readFrom wsX3_readFrom) := goodIn_app (goodIn_of _ (by decide +kernel)) ggX3_readClause_X3_readFrom
set_option maxRecDepth 20000 in
theorem ggX3_readClause_X3_readOver : GoodIn wsX3_readClause wsX3_readOver := goodIn_r _ [147, 66, 67, 68, 4, 69, 6, 7, 8, 70, 71, 72, 16, 73, 74, 75, 76, 77, 18, 29, 30, 31, 32, 23, 24, 78, 14, 15, 17, 19, 20, 21, 22, 79, 80, 35, 81, 82, 83, 84, 85, 86, 87, 88, 89, 90, 91, 92, 93, 94, 95, 96, 47, 97, 98, 99, 100, 101, 102, 103, 104, 105, 106, 52, 53, 54, 107, 108, 109, 40, 110, 111, 43, 112, 113, 114, 115, 56, 57, 58, 59, 60, 61, 116, 117, 118, 119, 120, 121, 122, 123, 124, 125, 126, 127, 128, 129, 130, 1, 2, 3, 5, 131, 132, 133, 134, 148, 149, 150, 138, 151, 152, 153, 154, 155, 156, 157, 158, 159, 160, 161, 162, 163, 164, 165, 190, 191, 192, 193, 194, 195, 196, 197, 198, 199, 200, 201, 202, 203, 204] (by decide +kernel) (by decide +kernel)
set_option maxRecDepth 20000 in
theorem gX3_readClause_X3_readOver : GoodIn wsX3_readClause (wsV RX3 52 RX3 yX3_readOver wsX3_readOver) := goodIn_app (goodIn_of _ (by decide +kernel)) ggX3_readClause_X3_readOver
set_option maxRecDepth 20000 in
theorem ggX3_readClause_X3_readSlip : GoodIn wsX3_readClause wsX3_readSlip := goodIn_r _ [169, 170, 87, 84, 88, 171, 131, 132, 133, 4, 134, 66, 67, 68, 69, 6, 7, 8, 70, 71, 72, 16, 73, 74, 75, 76, 77, 18, 29, 30, 31, 32, 23, 24, 78, 14, 15, 17, 19, 20, 21, 22, 79, 80, 35, 81, 82, 83, 85, 86, 89, 90, 91, 92, 93, 94, 95, 96, 47, 97, 98, 99, 100, 101, 102, 103, 104, 105, 106, 52, 53, 54, 107, 108, 109, 40, 110, 111, 43, 112, 113, 114, 115, 56, 57, 58, 59, 60, 61, 116, 117, 118, 119, 120, 121, 122, 123, 124, 125, 126, 127, 128, 129, 130, 193, 194, 195, 196, 197, 198, 199, 200, 190, 191, 192] (by decide +kernel) (by decide +kernel)
set_option maxRecDepth 20000 in
theorem gX3_readClause_X3_readSlip : GoodIn wsX3_readClause (wsV RX3 57 RX3 yX3_readSlip wsX3_readSlip) := goodIn_app (goodIn_of _ (by decide +kernel)) ggX3_readClause_X3_readSlip
set_option maxRecDepth 20000 in
theorem ggX3_readClause_X3_takeOne : GoodIn wsX3_readClause wsX3_takeOne := goodIn_r _ [69, 6, 7, 8, 70, 71, 72, 16, 73, 74, 75, 76, 77, 18, 29, 30, 31, 32, 23, 24, 78, 14, 15, 17, 19, 20, 21, 22, 79, 80, 35, 81, 82, 83, 84, 85, 86, 87, 88, 89, 90, 91, 92, 93, 94, 95, 96, 47, 97, 98, 99, 100, 101, 102, 103, 104, 105, 106, 52, 53, 54, 107, 108, 109, 40, 110, 111, 43, 112, 113, 114, 115, 56, 57, 58, 59, 60, 61, 116, 117, 118, 119, 120, 121, 122, 123, 124, 125, 126, 127, 128, 129, 130, 190, 191, 192] (by decide +kernel) (by decide +kernel)
set_option maxRecDepth 20000 in
theorem gX3_readClause_X3_takeOne : GoodIn wsX3_readClause (wsV RX3 64 RX3 yX3_takeOne wsX3_takeOne) := goodIn_app (goodIn_of _ (by decide +kernel)) ggX3_readClause_X3_takeOne
set_option maxRecDepth 20000 in
theorem ggX3_readClause_X3_readEither : GoodIn wsX3_readClause wsX3_readEither := goodIn_r _ [175, 176, 177, 178, 4, 1, 2, 3, 5, 6, 7, 8, 179, 180, 181, 138, 182, 183, 184, 185, 186, 187, 188, 189, 172, 173, 174, 66, 67, 68, 69, 70, 71, 72, 16, 73, 74, 75, 76, 77, 18, 29, 30, 31, 32, 23, 24, 78, 14, 15, 17, 19, 20, 21, 22, 79, 80, 35, 81, 82, 83, 84, 85, 86, 87, 88, 89, 90, 91, 92, 93, 94, 95, 96, 47, 97, 98, 99, 100, 101, 102, 103, 104, 105, 106, 52, 53, 54, 107, 108, 109, 40, 110, 111, 43, 112, 113, 114, 115, 56, 57, 58, 59, 60, 61, 116, 117, 118, 119, 120, 121, 122, 123, 124, 125, 126, 127, 128, 129, 130, 131, 132, 133, 134, 190, 191, 192, 193, 194, 195, 196, 197, 198, 199, 200] (by decide +kernel) (by decide +kernel)
set_option maxRecDepth 20000 in
theorem gX3_readClause_X3_readEither : GoodIn wsX3_readClause (wsV RX3 68 RX3 yX3_readEither wsX3_readEither) := goodIn_app (goodIn_of _ (by decide +kernel)) ggX3_readClause_X3_readEither
set_option maxRecDepth 20000 in
theorem ggX3_readClause_X1_addStep : GoodIn wsX3_readClause wsX1_addStep := goodIn_r _ [182, 183, 184, 193, 194, 195, 196, 197, 198, 199, 200] (by decide +kernel) (by decide +kernel)
set_option maxRecDepth 20000 in
theorem gX3_readClause_X1_addStep : GoodIn wsX3_readClause (wsV RX3 72 RX1 yX1_addStep wsX1_addStep) := goodIn_app (goodIn_of _ (by decide +kernel)) ggX3_readClause_X1_addStep
theorem dX3_readClause_0 : decode cX3_readClause 0 = .ok (.aload_n 0, 1) := by decide +kernel
theorem dX3_readClause_1 : decode cX3_readClause 1 = .ok (.bipush 102, 2) := by decide +kernel
theorem dX3_readClause_3 : decode cX3_readClause 3 = .ok (.invokevirtual 37, 3) := by decide +kernel
theorem dX3_readClause_6 : decode cX3_readClause 6 = .ok (.ifCond .eq 26, 3) := by decide +kernel
theorem dX3_readClause_9 : decode cX3_readClause 9 = .ok (.aload_n 0, 1) := by decide +kernel
theorem dX3_readClause_10 : decode cX3_readClause 10 = .ok (.ldc 41, 2) := by decide +kernel
theorem dX3_readClause_12 : decode cX3_readClause 12 = .ok (.invokevirtual 43, 3) := by decide +kernel
theorem dX3_readClause_15 : decode cX3_readClause 15 = .ok (.ifCond .eq 15, 3) := by decide +kernel
theorem dX3_readClause_18 : decode cX3_readClause 18 = .ok (.aload_n 0, 1) := by decide +kernel
theorem dX3_readClause_19 : decode cX3_readClause 19 = .ok (.aload_n 1, 1) := by decide +kernel
theorem dX3_readClause_20 : decode cX3_readClause 20 = .ok (.invokevirtual 47, 3) := by decide +kernel
theorem dX3_readClause_23 : decode cX3_readClause 23 = .ok (.ifCond .eq 7, 3) := by decide +kernel
theorem dX3_readClause_26 : decode cX3_readClause 26 = .ok (.iconst 1, 1) := by decide +kernel
theorem dX3_readClause_27 : decode cX3_readClause 27 = .ok (.goto 4, 3) := by decide +kernel
theorem dX3_readClause_30 : decode cX3_readClause 30 = .ok (.iconst 0, 1) := by decide +kernel
theorem dX3_readClause_31 : decode cX3_readClause 31 = .ok (.ireturn, 1) := by decide +kernel
theorem dX3_readClause_32 : decode cX3_readClause 32 = .ok (.aload_n 0, 1) := by decide +kernel
theorem dX3_readClause_33 : decode cX3_readClause 33 = .ok (.bipush 111, 2) := by decide +kernel
theorem dX3_readClause_35 : decode cX3_readClause 35 = .ok (.invokevirtual 37, 3) := by decide +kernel
theorem dX3_readClause_38 : decode cX3_readClause 38 = .ok (.ifCond .eq 26, 3) := by decide +kernel
theorem dX3_readClause_41 : decode cX3_readClause 41 = .ok (.aload_n 0, 1) := by decide +kernel
theorem dX3_readClause_42 : decode cX3_readClause 42 = .ok (.ldc 50, 2) := by decide +kernel
theorem dX3_readClause_44 : decode cX3_readClause 44 = .ok (.invokevirtual 43, 3) := by decide +kernel
theorem dX3_readClause_47 : decode cX3_readClause 47 = .ok (.ifCond .eq 15, 3) := by decide +kernel
theorem dX3_readClause_50 : decode cX3_readClause 50 = .ok (.aload_n 0, 1) := by decide +kernel
theorem dX3_readClause_51 : decode cX3_readClause 51 = .ok (.aload_n 1, 1) := by decide +kernel
theorem dX3_readClause_52 : decode cX3_readClause 52 = .ok (.invokevirtual 52, 3) := by decide +kernel
theorem dX3_readClause_55 : decode cX3_readClause 55 = .ok (.ifCond .eq 7, 3) := by decide +kernel
theorem dX3_readClause_58 : decode cX3_readClause 58 = .ok (.iconst 1, 1) := by decide +kernel
theorem dX3_readClause_59 : decode cX3_readClause 59 = .ok (.goto 4, 3) := by decide +kernel
theorem dX3_readClause_62 : decode cX3_readClause 62 = .ok (.iconst 0, 1) := by decide +kernel
theorem dX3_readClause_63 : decode cX3_readClause 63 = .ok (.ireturn, 1) := by decide +kernel
theorem dX3_readClause_64 : decode cX3_readClause 64 = .ok (.aload_n 0, 1) := by decide +kernel
theorem dX3_readClause_65 : decode cX3_readClause 65 = .ok (.bipush 115, 2) := by decide +kernel
theorem dX3_readClause_67 : decode cX3_readClause 67 = .ok (.invokevirtual 37, 3) := by decide +kernel
theorem dX3_readClause_70 : decode cX3_readClause 70 = .ok (.ifCond .ne 5, 3) := by decide +kernel
theorem dX3_readClause_73 : decode cX3_readClause 73 = .ok (.iconst 0, 1) := by decide +kernel
theorem dX3_readClause_74 : decode cX3_readClause 74 = .ok (.ireturn, 1) := by decide +kernel
theorem dX3_readClause_75 : decode cX3_readClause 75 = .ok (.aload_n 0, 1) := by decide +kernel
theorem dX3_readClause_76 : decode cX3_readClause 76 = .ok (.bipush 108, 2) := by decide +kernel
theorem dX3_readClause_78 : decode cX3_readClause 78 = .ok (.invokevirtual 37, 3) := by decide +kernel
theorem dX3_readClause_81 : decode cX3_readClause 81 = .ok (.ifCond .eq 26, 3) := by decide +kernel
theorem dX3_readClause_84 : decode cX3_readClause 84 = .ok (.aload_n 0, 1) := by decide +kernel
theorem dX3_readClause_85 : decode cX3_readClause 85 = .ok (.ldc 55, 2) := by decide +kernel
theorem dX3_readClause_87 : decode cX3_readClause 87 = .ok (.invokevirtual 43, 3) := by decide +kernel
theorem dX3_readClause_90 : decode cX3_readClause 90 = .ok (.ifCond .eq 15, 3) := by decide +kernel
theorem dX3_readClause_93 : decode cX3_readClause 93 = .ok (.aload_n 0, 1) := by decide +kernel
theorem dX3_readClause_94 : decode cX3_readClause 94 = .ok (.aload_n 1, 1) := by decide +kernel
theorem dX3_readClause_95 : decode cX3_readClause 95 = .ok (.invokevirtual 57, 3) := by decide +kernel
theorem dX3_readClause_98 : decode cX3_readClause 98 = .ok (.ifCond .eq 7, 3) := by decide +kernel
theorem dX3_readClause_101 : decode cX3_readClause 101 = .ok (.iconst 1, 1) := by decide +kernel
theorem dX3_readClause_102 : decode cX3_readClause 102 = .ok (.goto 4, 3) := by decide +kernel
theorem dX3_readClause_105 : decode cX3_readClause 105 = .ok (.iconst 0, 1) := by decide +kernel
theorem dX3_readClause_106 : decode cX3_readClause 106 = .ok (.ireturn, 1) := by decide +kernel
theorem dX3_readClause_107 : decode cX3_readClause 107 = .ok (.aload_n 0, 1) := by decide +kernel
theorem dX3_readClause_108 : decode cX3_readClause 108 = .ok (.ldc 60, 2) := by decide +kernel
theorem dX3_readClause_110 : decode cX3_readClause 110 = .ok (.invokevirtual 43, 3) := by decide +kernel
theorem dX3_readClause_113 : decode cX3_readClause 113 = .ok (.ifCond .ne 5, 3) := by decide +kernel
theorem dX3_readClause_116 : decode cX3_readClause 116 = .ok (.iconst 0, 1) := by decide +kernel
theorem dX3_readClause_117 : decode cX3_readClause 117 = .ok (.ireturn, 1) := by decide +kernel
theorem dX3_readClause_118 : decode cX3_readClause 118 = .ok (.aload_n 0, 1) := by decide +kernel
theorem dX3_readClause_119 : decode cX3_readClause 119 = .ok (.ldc 62, 2) := by decide +kernel
theorem dX3_readClause_121 : decode cX3_readClause 121 = .ok (.invokevirtual 64, 3) := by decide +kernel
theorem dX3_readClause_124 : decode cX3_readClause 124 = .ok (.istore_n 2, 1) := by decide +kernel
theorem dX3_readClause_125 : decode cX3_readClause 125 = .ok (.iload_n 2, 1) := by decide +kernel
theorem dX3_readClause_126 : decode cX3_readClause 126 = .ok (.ifCond .lt 21, 3) := by decide +kernel
theorem dX3_readClause_129 : decode cX3_readClause 129 = .ok (.aload_n 0, 1) := by decide +kernel
theorem dX3_readClause_130 : decode cX3_readClause 130 = .ok (.bipush 32, 2) := by decide +kernel
theorem dX3_readClause_132 : decode cX3_readClause 132 = .ok (.invokevirtual 37, 3) := by decide +kernel
theorem dX3_readClause_135 : decode cX3_readClause 135 = .ok (.ifCond .eq 12, 3) := by decide +kernel
theorem dX3_readClause_138 : decode cX3_readClause 138 = .ok (.aload_n 0, 1) := by decide +kernel
theorem dX3_readClause_139 : decode cX3_readClause 139 = .ok (.aload_n 1, 1) := by decide +kernel
theorem dX3_readClause_140 : decode cX3_readClause 140 = .ok (.iconst 0, 1) := by decide +kernel
theorem dX3_readClause_141 : decode cX3_readClause 141 = .ok (.invokevirtual 68, 3) := by decide +kernel
theorem dX3_readClause_144 : decode cX3_readClause 144 = .ok (.ifCond .ne 5, 3) := by decide +kernel
theorem dX3_readClause_147 : decode cX3_readClause 147 = .ok (.iconst 0, 1) := by decide +kernel
theorem dX3_readClause_148 : decode cX3_readClause 148 = .ok (.ireturn, 1) := by decide +kernel
theorem dX3_readClause_149 : decode cX3_readClause 149 = .ok (.aload_n 1, 1) := by decide +kernel
theorem dX3_readClause_150 : decode cX3_readClause 150 = .ok (.bipush (-10), 2) := by decide +kernel
theorem dX3_readClause_152 : decode cX3_readClause 152 = .ok (.iload_n 2, 1) := by decide +kernel
theorem dX3_readClause_153 : decode cX3_readClause 153 = .ok (.isub, 1) := by decide +kernel
theorem dX3_readClause_154 : decode cX3_readClause 154 = .ok (.invokevirtual 72, 3) := by decide +kernel
theorem dX3_readClause_157 : decode cX3_readClause 157 = .ok (.iconst 1, 1) := by decide +kernel
theorem dX3_readClause_158 : decode cX3_readClause 158 = .ok (.ireturn, 1) := by decide +kernel
set_option maxRecDepth 20000 in
theorem ggX3_readFrom_X3_takeOne : GoodIn wsX3_readFrom wsX3_takeOne := goodIn_r _ [5, 6, 7, 8, 9, 10, 11, 12, 13, 14, 15, 16, 17, 18, 19, 20, 21, 22, 23, 24, 25, 26, 27, 28, 29, 30, 31, 32, 33, 34, 35, 36, 37, 38, 39, 40, 41, 42, 43, 44, 45, 46, 47, 48, 49, 50, 51, 52, 53, 54, 55, 56, 57, 58, 59, 60, 61, 62, 63, 64, 65, 66, 67, 68, 69, 70, 71, 72, 73, 74, 75, 76, 77, 78, 79, 80, 81, 82, 83, 84, 85, 86, 87, 88, 89, 90, 91, 92, 93, 94, 95, 96, 97, 115, 116, 117] (by decide +kernel) (by decide +kernel)
set_option maxRecDepth 20000 in
theorem gX3_readFrom_X3_takeOne : GoodIn wsX3_readFrom (wsV RX3 64 RX3 yX3_takeOne wsX3_takeOne) := goodIn_app (goodIn_of _ (by decide +kernel)) ggX3_readFrom_X3_takeOne
set_option maxRecDepth 20000 in
theorem ggX3_readFrom_X3_take : GoodIn wsX3_readFrom wsX3_take := goodIn_r _ [101, 6, 7, 8, 115, 116, 117] (by decide +kernel) (by decide +kernel)
set_option maxRecDepth 20000 in
theorem gX3_readFrom_X3_take : GoodIn wsX3_readFrom (wsV RX3 37 RX3 yX3_take wsX3_take) := goodIn_app (goodIn_of _ (by decide +kernel)) ggX3_readFrom_X3_take
set_option maxRecDepth 20000 in
theorem ggX3_readFrom_X3_readNumber : GoodIn wsX3_readFrom wsX3_readNumber := goodIn_r _ [105, 1, 2, 3, 4, 5, 6, 7, 8, 9, 10, 11, 12, 13, 14, 15, 16, 17, 18, 19, 20, 21, 22, 23, 24, 25, 26, 27, 28, 29, 30, 31, 32, 33, 34, 35, 36, 37, 38, 39, 40, 41, 42, 43, 44, 45, 46, 47, 48, 49, 50, 51, 52, 53, 54, 55, 56, 57, 58, 59, 60, 61, 62, 63, 64, 65, 66, 67, 68, 69, 70, 71, 72, 73, 74, 75, 76, 77, 78, 79, 80, 81, 82, 83, 84, 85, 86, 87, 88, 89, 90, 91, 92, 93, 94, 95, 96, 97, 115, 116, 117] (by decide +kernel) (by decide +kernel)
set_option maxRecDepth 20000 in
theorem gX3_readFrom_X3_readNumber : GoodIn wsX3_readFrom (wsV RX3 78 RX3 yX3_readNumber wsX3_readNumber) := goodIn_app (goodIn_of _ (by decide +kernel)) ggX3_readFrom_X3_readNumber
set_option maxRecDepth 20000 in
theorem ggX3_readFrom_X1_putFrom : GoodIn wsX3_readFrom wsX1_putFrom := goodIn_r _ [110, 111, 112, 113, 114, 118, 119, 120, 121, 122, 123, 124, 125] (by decide +kernel) (by decide +kernel)
set_option maxRecDepth 20000 in
theorem gX3_readFrom_X1_putFrom : GoodIn wsX3_readFrom (wsV RX3 82 RX1 yX1_putFrom wsX1_putFrom) := goodIn_app (goodIn_of _ (by decide +kernel)) ggX3_readFrom_X1_putFrom
theorem dX3_readFrom_0 : decode cX3_readFrom 0 = .ok (.aload_n 0, 1) := by decide +kernel
theorem dX3_readFrom_1 : decode cX3_readFrom 1 = .ok (.ldc 76, 2) := by decide +kernel
theorem dX3_readFrom_3 : decode cX3_readFrom 3 = .ok (.invokevirtual 64, 3) := by decide +kernel
theorem dX3_readFrom_6 : decode cX3_readFrom 6 = .ok (.istore_n 2, 1) := by decide +kernel
theorem dX3_readFrom_7 : decode cX3_readFrom 7 = .ok (.iload_n 2, 1) := by decide +kernel
theorem dX3_readFrom_8 : decode cX3_readFrom 8 = .ok (.ifCond .lt 12, 3) := by decide +kernel
theorem dX3_readFrom_11 : decode cX3_readFrom 11 = .ok (.aload_n 0, 1) := by decide +kernel
theorem dX3_readFrom_12 : decode cX3_readFrom 12 = .ok (.bipush 32, 2) := by decide +kernel
theorem dX3_readFrom_14 : decode cX3_readFrom 14 = .ok (.invokevirtual 37, 3) := by decide +kernel
theorem dX3_readFrom_17 : decode cX3_readFrom 17 = .ok (.ifCond .ne 5, 3) := by decide +kernel
theorem dX3_readFrom_20 : decode cX3_readFrom 20 = .ok (.iconst 0, 1) := by decide +kernel
theorem dX3_readFrom_21 : decode cX3_readFrom 21 = .ok (.ireturn, 1) := by decide +kernel
theorem dX3_readFrom_22 : decode cX3_readFrom 22 = .ok (.aload_n 0, 1) := by decide +kernel
theorem dX3_readFrom_23 : decode cX3_readFrom 23 = .ok (.invokevirtual 78, 3) := by decide +kernel
theorem dX3_readFrom_26 : decode cX3_readFrom 26 = .ok (.istore_n 3, 1) := by decide +kernel
theorem dX3_readFrom_27 : decode cX3_readFrom 27 = .ok (.aload_n 1, 1) := by decide +kernel
theorem dX3_readFrom_28 : decode cX3_readFrom 28 = .ok (.iload_n 2, 1) := by decide +kernel
theorem dX3_readFrom_29 : decode cX3_readFrom 29 = .ok (.iload_n 3, 1) := by decide +kernel
theorem dX3_readFrom_30 : decode cX3_readFrom 30 = .ok (.invokevirtual 82, 3) := by decide +kernel
theorem dX3_readFrom_33 : decode cX3_readFrom 33 = .ok (.iload_n 3, 1) := by decide +kernel
theorem dX3_readFrom_34 : decode cX3_readFrom 34 = .ok (.ifCond .lt 7, 3) := by decide +kernel
theorem dX3_readFrom_37 : decode cX3_readFrom 37 = .ok (.iconst 1, 1) := by decide +kernel
theorem dX3_readFrom_38 : decode cX3_readFrom 38 = .ok (.goto 4, 3) := by decide +kernel
theorem dX3_readFrom_41 : decode cX3_readFrom 41 = .ok (.iconst 0, 1) := by decide +kernel
theorem dX3_readFrom_42 : decode cX3_readFrom 42 = .ok (.ireturn, 1) := by decide +kernel
set_option maxRecDepth 20000 in
theorem ggX3_readOver_X3_takeOne : GoodIn wsX3_readOver wsX3_takeOne := goodIn_r _ [5, 6, 7, 8, 9, 10, 11, 12, 13, 14, 15, 16, 17, 18, 19, 20, 21, 22, 23, 24, 25, 26, 27, 28, 29, 30, 31, 32, 33, 34, 35, 36, 37, 38, 39, 40, 41, 42, 43, 44, 45, 46, 47, 48, 49, 50, 51, 52, 53, 54, 55, 56, 57, 58, 59, 60, 61, 62, 63, 64, 65, 66, 67, 68, 69, 70, 71, 72, 73, 74, 75, 76, 77, 78, 79, 80, 81, 82, 83, 84, 85, 86, 87, 88, 89, 90, 91, 92, 93, 94, 95, 96, 97, 125, 126, 127] (by decide +kernel) (by decide +kernel)
set_option maxRecDepth 20000 in
theorem gX3_readOver_X3_takeOne : GoodIn wsX3_readOver (wsV RX3 64 RX3 yX3_takeOne wsX3_takeOne) := goodIn_app (goodIn_of _ (by decide +kernel)) ggX3_readOver_X3_takeOne
set_option maxRecDepth 20000 in
theorem ggX3_readOver_X3_take : GoodIn wsX3_readOver wsX3_take := goodIn_r _ [101, 6, 7, 8, 125, 126, 127] (by decide +kernel) (by decide +kernel)
set_option maxRecDepth 20000 in
theorem gX3_readOver_X3_take : GoodIn wsX3_readOver (wsV RX3 37 RX3 yX3_take wsX3_take) := goodIn_app (goodIn_of _ (by decide +kernel)) ggX3_readOver_X3_take
set_option maxRecDepth 20000 in
theorem ggX3_readOver_X3_readNumber : GoodIn wsX3_readOver wsX3_readNumber := goodIn_r _ [105, 1, 2, 3, 4, 5, 6, 7, 8, 9, 10, 11, 12, 13, 14, 15, 16, 17, 18, 19, 20, 21, 22, 23, 24, 25, 26, 27, 28, 29, 30, 31, 32, 33, 34, 35, 36, 37, 38, 39, 40, 41, 42, 43, 44, 45, 46, 47, 48, 49, 50, 51, 52, 53, 54, 55, 56, 57, 58, 59, 60, 61, 62, 63, 64, 65, 66, 67, 68, 69, 70, 71, 72, 73, 74, 75, 76, 77, 78, 79, 80, 81, 82, 83, 84, 85, 86, 87, 88, 89, 90, 91, 92, 93, 94, 95, 96, 97, 125, 126, 127] (by decide +kernel) (by decide +kernel)
set_option maxRecDepth 20000 in
theorem gX3_readOver_X3_readNumber : GoodIn wsX3_readOver (wsV RX3 78 RX3 yX3_readNumber wsX3_readNumber) := goodIn_app (goodIn_of _ (by decide +kernel)) ggX3_readOver_X3_readNumber
set_option maxRecDepth 20000 in
theorem ggX3_readOver_X1_addOver : GoodIn wsX3_readOver wsX1_addOver := goodIn_r _ [110, 111, 112, 113, 114, 115, 116, 117, 118, 119, 120, 121, 122, 123, 124, 128, 129, 130, 131, 132, 133, 134, 135, 136, 137, 138, 139] (by decide +kernel) (by decide +kernel)
set_option maxRecDepth 20000 in
theorem gX3_readOver_X1_addOver : GoodIn wsX3_readOver (wsV RX3 86 RX1 yX1_addOver wsX1_addOver) := goodIn_app (goodIn_of _ (by decide +kernel)) ggX3_readOver_X1_addOver
theorem dX3_readOver_0 : decode cX3_readOver 0 = .ok (.aload_n 0, 1) := by decide +kernel
theorem dX3_readOver_1 : decode cX3_readOver 1 = .ok (.ldc 76, 2) := by decide +kernel
theorem dX3_readOver_3 : decode cX3_readOver 3 = .ok (.invokevirtual 64, 3) := by decide +kernel
theorem dX3_readOver_6 : decode cX3_readOver 6 = .ok (.istore_n 2, 1) := by decide +kernel
theorem dX3_readOver_7 : decode cX3_readOver 7 = .ok (.iload_n 2, 1) := by decide +kernel
theorem dX3_readOver_8 : decode cX3_readOver 8 = .ok (.ifCond .lt 12, 3) := by decide +kernel
theorem dX3_readOver_11 : decode cX3_readOver 11 = .ok (.aload_n 0, 1) := by decide +kernel
theorem dX3_readOver_12 : decode cX3_readOver 12 = .ok (.bipush 32, 2) := by decide +kernel
theorem dX3_readOver_14 : decode cX3_readOver 14 = .ok (.invokevirtual 37, 3) := by decide +kernel
theorem dX3_readOver_17 : decode cX3_readOver 17 = .ok (.ifCond .ne 5, 3) := by decide +kernel
theorem dX3_readOver_20 : decode cX3_readOver 20 = .ok (.iconst 0, 1) := by decide +kernel
theorem dX3_readOver_21 : decode cX3_readOver 21 = .ok (.ireturn, 1) := by decide +kernel
theorem dX3_readOver_22 : decode cX3_readOver 22 = .ok (.aload_n 0, 1) := by decide +kernel
theorem dX3_readOver_23 : decode cX3_readOver 23 = .ok (.ldc 76, 2) := by decide +kernel
theorem dX3_readOver_25 : decode cX3_readOver 25 = .ok (.invokevirtual 64, 3) := by decide +kernel
theorem dX3_readOver_28 : decode cX3_readOver 28 = .ok (.istore_n 3, 1) := by decide +kernel
theorem dX3_readOver_29 : decode cX3_readOver 29 = .ok (.iload_n 3, 1) := by decide +kernel
theorem dX3_readOver_30 : decode cX3_readOver 30 = .ok (.ifCond .lt 12, 3) := by decide +kernel
theorem dX3_readOver_33 : decode cX3_readOver 33 = .ok (.aload_n 0, 1) := by decide +kernel
theorem dX3_readOver_34 : decode cX3_readOver 34 = .ok (.bipush 32, 2) := by decide +kernel
theorem dX3_readOver_36 : decode cX3_readOver 36 = .ok (.invokevirtual 37, 3) := by decide +kernel
theorem dX3_readOver_39 : decode cX3_readOver 39 = .ok (.ifCond .ne 5, 3) := by decide +kernel
theorem dX3_readOver_42 : decode cX3_readOver 42 = .ok (.iconst 0, 1) := by decide +kernel
theorem dX3_readOver_43 : decode cX3_readOver 43 = .ok (.ireturn, 1) := by decide +kernel
theorem dX3_readOver_44 : decode cX3_readOver 44 = .ok (.aload_n 0, 1) := by decide +kernel
theorem dX3_readOver_45 : decode cX3_readOver 45 = .ok (.invokevirtual 78, 3) := by decide +kernel
theorem dX3_readOver_48 : decode cX3_readOver 48 = .ok (.istore 4, 2) := by decide +kernel
theorem dX3_readOver_50 : decode cX3_readOver 50 = .ok (.aload_n 1, 1) := by decide +kernel
theorem dX3_readOver_51 : decode cX3_readOver 51 = .ok (.iload_n 2, 1) := by decide +kernel
theorem dX3_readOver_52 : decode cX3_readOver 52 = .ok (.iload_n 3, 1) := by decide +kernel
theorem dX3_readOver_53 : decode cX3_readOver 53 = .ok (.iload 4, 2) := by decide +kernel
theorem dX3_readOver_55 : decode cX3_readOver 55 = .ok (.invokevirtual 86, 3) := by decide +kernel
theorem dX3_readOver_58 : decode cX3_readOver 58 = .ok (.iload 4, 2) := by decide +kernel
theorem dX3_readOver_60 : decode cX3_readOver 60 = .ok (.ifCond .lt 7, 3) := by decide +kernel
theorem dX3_readOver_63 : decode cX3_readOver 63 = .ok (.iconst 1, 1) := by decide +kernel
theorem dX3_readOver_64 : decode cX3_readOver 64 = .ok (.goto 4, 3) := by decide +kernel
theorem dX3_readOver_67 : decode cX3_readOver 67 = .ok (.iconst 0, 1) := by decide +kernel
theorem dX3_readOver_68 : decode cX3_readOver 68 = .ok (.ireturn, 1) := by decide +kernel
set_option maxRecDepth 20000 in
theorem ggX3_readSlip_X3_readNumber : GoodIn wsX3_readSlip wsX3_readNumber := goodIn_r _ [10, 11, 12, 13, 9, 14, 15, 16, 17, 18, 19, 20, 21, 22, 23, 24, 25, 26, 27, 28, 29, 30, 31, 32, 33, 34, 35, 36, 37, 38, 39, 40, 41, 42, 43, 44, 45, 46, 47, 3, 48, 49, 2, 4, 50, 51, 52, 53, 54, 55, 56, 57, 58, 59, 60, 61, 62, 63, 64, 65, 66, 67, 68, 69, 70, 71, 72, 73, 74, 75, 76, 77, 78, 79, 80, 81, 82, 83, 84, 85, 86, 87, 88, 89, 90, 91, 92, 93, 94, 95, 96, 97, 98, 99, 100, 101, 102, 103, 112, 113, 114] (by decide +kernel) (by decide +kernel)
set_option maxRecDepth 20000 in
theorem gX3_readSlip_X3_readNumber : GoodIn wsX3_readSlip (wsV RX3 78 RX3 yX3_readNumber wsX3_readNumber) := goodIn_app (goodIn_of _ (by decide +kernel)) ggX3_readSlip_X3_readNumber
theorem dX3_readSlip_0 : decode cX3_readSlip 0 = .ok (.aload_n 0, 1) := by decide +kernel
theorem dX3_readSlip_1 : decode cX3_readSlip 1 = .ok (.invokevirtual 78, 3) := by decide +kernel
theorem dX3_readSlip_4 : decode cX3_readSlip 4 = .ok (.istore_n 2, 1) := by decide +kernel
theorem dX3_readSlip_5 : decode cX3_readSlip 5 = .ok (.aload_n 1, 1) := by decide +kernel
theorem dX3_readSlip_6 : decode cX3_readSlip 6 = .ok (.iload_n 2, 1) := by decide +kernel
theorem dX3_readSlip_7 : decode cX3_readSlip 7 = .ok (.bipush 100, 2) := by decide +kernel
theorem dX3_readSlip_9 : decode cX3_readSlip 9 = .ok (.invokestatic 90, 3) := by decide +kernel
theorem dX3_readSlip_12 : decode cX3_readSlip 12 = .ok (.putfield 96, 3) := by decide +kernel
theorem dX3_readSlip_15 : decode cX3_readSlip 15 = .ok (.iload_n 2, 1) := by decide +kernel
theorem dX3_readSlip_16 : decode cX3_readSlip 16 = .ok (.ifCond .lt 7, 3) := by decide +kernel
theorem dX3_readSlip_19 : decode cX3_readSlip 19 = .ok (.iconst 1, 1) := by decide +kernel
theorem dX3_readSlip_20 : decode cX3_readSlip 20 = .ok (.goto 4, 3) := by decide +kernel
theorem dX3_readSlip_23 : decode cX3_readSlip 23 = .ok (.iconst 0, 1) := by decide +kernel
theorem dX3_readSlip_24 : decode cX3_readSlip 24 = .ok (.ireturn, 1) := by decide +kernel
set_option maxRecDepth 20000 in
theorem ggX3_readEither_X3_readBoth : GoodIn wsX3_readEither wsX3_readBoth := goodIn_r _ [19, 20, 21, 22, 4, 5, 6, 7, 8, 9, 10, 11, 12, 13, 14, 15, 16, 17, 18, 0, 1, 2, 3, 23, 24, 25, 26, 27, 28, 29, 30, 31, 32, 33, 34, 35, 36, 37, 38, 39, 40, 41, 42, 43, 44, 45, 46, 47, 48, 49, 50, 51, 52, 53, 54, 55, 56, 57, 58, 59, 60, 61, 62, 63, 64, 65, 66, 67, 68, 69, 70, 71, 72, 73, 74, 75, 76, 77, 78, 79, 80, 81, 82, 83, 84, 85, 86, 87, 88, 89, 90, 91, 92, 93, 94, 95, 96, 97, 98, 99, 100, 101, 102, 103, 104, 105, 106, 107, 108, 109, 110, 111, 112, 113, 114, 115, 116, 117, 118, 119, 120, 121, 122, 123, 124, 125, 126, 127, 128, 129, 130, 131, 132, 133, 134] (by decide +kernel) (by decide +kernel)
set_option maxRecDepth 20000 in
theorem gX3_readEither_X3_readBoth : GoodIn wsX3_readEither (wsV RX3 99 RX3 yX3_readBoth wsX3_readBoth) := goodIn_app (goodIn_of _ (by decide +kernel)) ggX3_readEither_X3_readBoth
set_option maxRecDepth 20000 in
theorem ggX3_readEither_X3_take : GoodIn wsX3_readEither wsX3_take := goodIn_r _ [8, 9, 10, 11, 124, 125, 126] (by decide +kernel) (by decide +kernel)
set_option maxRecDepth 20000 in
theorem gX3_readEither_X3_take : GoodIn wsX3_readEither (wsV RX3 37 RX3 yX3_take wsX3_take) := goodIn_app (goodIn_of _ (by decide +kernel)) ggX3_readEither_X3_take
set_option maxRecDepth 20000 in
theorem ggX3_readEither_X1_addStep : GoodIn wsX3_readEither wsX1_addStep := goodIn_r _ [16, 17, 18, 127, 128, 129, 130, 131, 132, 133, 134] (by decide +kernel) (by decide +kernel)
set_option maxRecDepth 20000 in
theorem gX3_readEither_X1_addStep : GoodIn wsX3_readEither (wsV RX3 72 RX1 yX1_addStep wsX1_addStep) := goodIn_app (goodIn_of _ (by decide +kernel)) ggX3_readEither_X1_addStep
theorem dX3_readEither_0 : decode cX3_readEither 0 = .ok (.aload_n 0, 1) := by decide +kernel
theorem dX3_readEither_1 : decode cX3_readEither 1 = .ok (.aload_n 1, 1) := by decide +kernel
theorem dX3_readEither_2 : decode cX3_readEither 2 = .ok (.iload_n 2, 1) := by decide +kernel
theorem dX3_readEither_3 : decode cX3_readEither 3 = .ok (.invokevirtual 99, 3) := by decide +kernel
theorem dX3_readEither_6 : decode cX3_readEither 6 = .ok (.ifCond .ne 5, 3) := by decide +kernel
theorem dX3_readEither_9 : decode cX3_readEither 9 = .ok (.iconst 0, 1) := by decide +kernel
theorem dX3_readEither_10 : decode cX3_readEither 10 = .ok (.ireturn, 1) := by decide +kernel
theorem dX3_readEither_11 : decode cX3_readEither 11 = .ok (.iconst 0, 1) := by decide +kernel
theorem dX3_readEither_12 : decode cX3_readEither 12 = .ok (.istore_n 3, 1) := by decide +kernel
theorem dX3_readEither_13 : decode cX3_readEither 13 = .ok (.iload_n 3, 1) := by decide +kernel
theorem dX3_readEither_14 : decode cX3_readEither 14 = .ok (.bipush 120, 2) := by decide +kernel
theorem dX3_readEither_16 : decode cX3_readEither 16 = .ok (.if_icmp .ge 35, 3) := by decide +kernel
theorem dX3_readEither_19 : decode cX3_readEither 19 = .ok (.aload_n 0, 1) := by decide +kernel
theorem dX3_readEither_20 : decode cX3_readEither 20 = .ok (.bipush 124, 2) := by decide +kernel
theorem dX3_readEither_22 : decode cX3_readEither 22 = .ok (.invokevirtual 37, 3) := by decide +kernel
theorem dX3_readEither_25 : decode cX3_readEither 25 = .ok (.ifCond .eq 26, 3) := by decide +kernel
theorem dX3_readEither_28 : decode cX3_readEither 28 = .ok (.aload_n 0, 1) := by decide +kernel
theorem dX3_readEither_29 : decode cX3_readEither 29 = .ok (.aload_n 1, 1) := by decide +kernel
theorem dX3_readEither_30 : decode cX3_readEither 30 = .ok (.iload_n 2, 1) := by decide +kernel
theorem dX3_readEither_31 : decode cX3_readEither 31 = .ok (.invokevirtual 99, 3) := by decide +kernel
theorem dX3_readEither_34 : decode cX3_readEither 34 = .ok (.ifCond .ne 5, 3) := by decide +kernel
theorem dX3_readEither_37 : decode cX3_readEither 37 = .ok (.iconst 0, 1) := by decide +kernel
theorem dX3_readEither_38 : decode cX3_readEither 38 = .ok (.ireturn, 1) := by decide +kernel
theorem dX3_readEither_39 : decode cX3_readEither 39 = .ok (.aload_n 1, 1) := by decide +kernel
theorem dX3_readEither_40 : decode cX3_readEither 40 = .ok (.bipush (-2), 2) := by decide +kernel
theorem dX3_readEither_42 : decode cX3_readEither 42 = .ok (.invokevirtual 72, 3) := by decide +kernel
theorem dX3_readEither_45 : decode cX3_readEither 45 = .ok (.iinc 3 1, 3) := by decide +kernel
theorem dX3_readEither_48 : decode cX3_readEither 48 = .ok (.goto (-35), 3) := by decide +kernel
theorem dX3_readEither_51 : decode cX3_readEither 51 = .ok (.iconst 1, 1) := by decide +kernel
theorem dX3_readEither_52 : decode cX3_readEither 52 = .ok (.ireturn, 1) := by decide +kernel
set_option maxRecDepth 20000 in
theorem ggX3_readBoth_X3_readPart : GoodIn wsX3_readBoth wsX3_readPart := goodIn_r _ [23, 5, 6, 7, 4, 8, 9, 10, 11, 1, 2, 3, 12, 13, 14, 15, 16, 17, 18, 24, 25, 26, 27, 28, 29, 30, 31, 32, 33, 34, 35, 36, 37, 38, 39, 40, 41, 42, 43, 44, 45, 46, 47, 48, 49, 50, 51, 52, 53, 54, 55, 56, 57, 58, 59, 60, 61, 62, 63, 64, 65, 66, 67, 68, 69, 70, 71, 72, 73, 74, 75, 76, 77, 78, 79, 80, 81, 82, 83, 84, 85, 86, 87, 88, 89, 90, 91, 92, 93, 94, 95, 96, 97, 98, 99, 100, 101, 102, 103, 104, 105, 106, 107, 108, 109, 110, 111, 112, 113, 114, 115, 116, 117, 118, 119, 120, 121, 122, 123, 0, 19, 20, 21, 22, 124, 125, 126, 127, 128, 129, 130, 131, 132, 133, 134] (by decide +kernel) (by decide +kernel)
set_option maxRecDepth 20000 in
theorem gX3_readBoth_X3_readPart : GoodIn wsX3_readBoth (wsV RX3 102 RX3 yX3_readPart wsX3_readPart) := goodIn_app (goodIn_of _ (by decide +kernel)) ggX3_readBoth_X3_readPart
set_option maxRecDepth 20000 in
theorem ggX3_readBoth_X3_take : GoodIn wsX3_readBoth wsX3_take := goodIn_r _ [8, 9, 10, 11, 124, 125, 126] (by decide +kernel) (by decide +kernel)
set_option maxRecDepth 20000 in
theorem gX3_readBoth_X3_take : GoodIn wsX3_readBoth (wsV RX3 37 RX3 yX3_take wsX3_take) := goodIn_app (goodIn_of _ (by decide +kernel)) ggX3_readBoth_X3_take
set_option maxRecDepth 20000 in
theorem ggX3_readBoth_X1_addStep : GoodIn wsX3_readBoth wsX1_addStep := goodIn_r _ [16, 17, 18, 127, 128, 129, 130, 131, 132, 133, 134] (by decide +kernel) (by decide +kernel)
set_option maxRecDepth 20000 in
theorem gX3_readBoth_X1_addStep : GoodIn wsX3_readBoth (wsV RX3 72 RX1 yX1_addStep wsX1_addStep) := goodIn_app (goodIn_of _ (by decide +kernel)) ggX3_readBoth_X1_addStep
theorem dX3_readBoth_0 : decode cX3_readBoth 0 = .ok (.aload_n 0, 1) := by decide +kernel
theorem dX3_readBoth_1 : decode cX3_readBoth 1 = .ok (.aload_n 1, 1) := by decide +kernel
theorem dX3_readBoth_2 : decode cX3_readBoth 2 = .ok (.iload_n 2, 1) := by decide +kernel
theorem dX3_readBoth_3 : decode cX3_readBoth 3 = .ok (.invokevirtual 102, 3) := by decide +kernel
theorem dX3_readBoth_6 : decode cX3_readBoth 6 = .ok (.ifCond .ne 5, 3) := by decide +kernel
theorem dX3_readBoth_9 : decode cX3_readBoth 9 = .ok (.iconst 0, 1) := by decide +kernel
theorem dX3_readBoth_10 : decode cX3_readBoth 10 = .ok (.ireturn, 1) := by decide +kernel
theorem dX3_readBoth_11 : decode cX3_readBoth 11 = .ok (.iconst 0, 1) := by decide +kernel
theorem dX3_readBoth_12 : decode cX3_readBoth 12 = .ok (.istore_n 3, 1) := by decide +kernel
theorem dX3_readBoth_13 : decode cX3_readBoth 13 = .ok (.iload_n 3, 1) := by decide +kernel
theorem dX3_readBoth_14 : decode cX3_readBoth 14 = .ok (.bipush 120, 2) := by decide +kernel
theorem dX3_readBoth_16 : decode cX3_readBoth 16 = .ok (.if_icmp .ge 34, 3) := by decide +kernel
theorem dX3_readBoth_19 : decode cX3_readBoth 19 = .ok (.aload_n 0, 1) := by decide +kernel
theorem dX3_readBoth_20 : decode cX3_readBoth 20 = .ok (.bipush 38, 2) := by decide +kernel
theorem dX3_readBoth_22 : decode cX3_readBoth 22 = .ok (.invokevirtual 37, 3) := by decide +kernel
theorem dX3_readBoth_25 : decode cX3_readBoth 25 = .ok (.ifCond .eq 25, 3) := by decide +kernel
theorem dX3_readBoth_28 : decode cX3_readBoth 28 = .ok (.aload_n 0, 1) := by decide +kernel
theorem dX3_readBoth_29 : decode cX3_readBoth 29 = .ok (.aload_n 1, 1) := by decide +kernel
theorem dX3_readBoth_30 : decode cX3_readBoth 30 = .ok (.iload_n 2, 1) := by decide +kernel
theorem dX3_readBoth_31 : decode cX3_readBoth 31 = .ok (.invokevirtual 102, 3) := by decide +kernel
theorem dX3_readBoth_34 : decode cX3_readBoth 34 = .ok (.ifCond .ne 5, 3) := by decide +kernel
theorem dX3_readBoth_37 : decode cX3_readBoth 37 = .ok (.iconst 0, 1) := by decide +kernel
theorem dX3_readBoth_38 : decode cX3_readBoth 38 = .ok (.ireturn, 1) := by decide +kernel
theorem dX3_readBoth_39 : decode cX3_readBoth 39 = .ok (.aload_n 1, 1) := by decide +kernel
theorem dX3_readBoth_40 : decode cX3_readBoth 40 = .ok (.iconst (-1), 1) := by decide +kernel
theorem dX3_readBoth_41 : decode cX3_readBoth 41 = .ok (.invokevirtual 72, 3) := by decide +kernel
theorem dX3_readBoth_44 : decode cX3_readBoth 44 = .ok (.iinc 3 1, 3) := by decide +kernel
theorem dX3_readBoth_47 : decode cX3_readBoth 47 = .ok (.goto (-34), 3) := by decide +kernel
theorem dX3_readBoth_50 : decode cX3_readBoth 50 = .ok (.iconst 1, 1) := by decide +kernel
theorem dX3_readBoth_51 : decode cX3_readBoth 51 = .ok (.ireturn, 1) := by decide +kernel
set_option maxRecDepth 20000 in
theorem ggX3_readPart_X3_take : GoodIn wsX3_readPart wsX3_take := goodIn_r _ [5, 6, 7, 8, 124, 125, 126] (by decide +kernel) (by decide +kernel)
set_option maxRecDepth 20000 in
theorem gX3_readPart_X3_take : GoodIn wsX3_readPart (wsV RX3 37 RX3 yX3_take wsX3_take) := goodIn_app (goodIn_of _ (by decide +kernel)) ggX3_readPart_X3_take
set_option maxRecDepth 20000 in
theorem ggX3_readPart_X3_readPart : GoodIn wsX3_readPart wsX3_readPart := goodIn_r _ [0, 1, 2, 3, 4, 5, 6, 7, 8, 9, 10, 11, 12, 13, 14, 15, 16, 17, 18, 19, 20, 21, 22, 23, 24, 25, 26, 27, 28, 29, 30, 31, 32, 33, 34, 35, 36, 37, 38, 39, 40, 41, 42, 43, 44, 45, 46, 47, 48, 49, 50, 51, 52, 53, 54, 55, 56, 57, 58, 59, 60, 61, 62, 63, 64, 65, 66, 67, 68, 69, 70, 71, 72, 73, 74, 75, 76, 77, 78, 79, 80, 81, 82, 83, 84, 85, 86, 87, 88, 89, 90, 91, 92, 93, 94, 95, 96, 97, 98, 99, 100, 101, 102, 103, 104, 105, 106, 107, 108, 109, 110, 111, 112, 113, 114, 115, 116, 117, 118, 119, 120, 121, 122, 123, 124, 125, 126, 127, 128, 129, 130, 131, 132, 133, 134] (by decide +kernel) (by decide +kernel)
set_option maxRecDepth 20000 in
theorem gX3_readPart_X3_readPart : GoodIn wsX3_readPart (wsV RX3 102 RX3 yX3_readPart wsX3_readPart) := goodIn_app (goodIn_of _ (by decide +kernel)) ggX3_readPart_X3_readPart
set_option maxRecDepth 20000 in
theorem ggX3_readPart_X1_addStep : GoodIn wsX3_readPart wsX1_addStep := goodIn_r _ [16, 17, 18, 127, 128, 129, 130, 131, 132, 133, 134] (by decide +kernel) (by decide +kernel)
set_option maxRecDepth 20000 in
theorem gX3_readPart_X1_addStep : GoodIn wsX3_readPart (wsV RX3 72 RX1 yX1_addStep wsX1_addStep) := goodIn_app (goodIn_of _ (by decide +kernel)) ggX3_readPart_X1_addStep
set_option maxRecDepth 20000 in
theorem ggX3_readPart_X3_readEither : GoodIn wsX3_readPart wsX3_readEither := goodIn_r _ [120, 121, 122, 123, 4, 1, 2, 3, 5, 6, 7, 8, 12, 13, 14, 15, 16, 17, 18, 119, 9, 10, 11, 0, 19, 20, 21, 22, 23, 24, 25, 26, 27, 28, 29, 30, 31, 32, 33, 34, 35, 36, 37, 38, 39, 40, 41, 42, 43, 44, 45, 46, 47, 48, 49, 50, 51, 52, 53, 54, 55, 56, 57, 58, 59, 60, 61, 62, 63, 64, 65, 66, 67, 68, 69, 70, 71, 72, 73, 74, 75, 76, 77, 78, 79, 80, 81, 82, 83, 84, 85, 86, 87, 88, 89, 90, 91, 92, 93, 94, 95, 96, 97, 98, 99, 100, 101, 102, 103, 104, 105, 106, 107, 108, 109, 110, 111, 112, 113, 114, 115, 116, 117, 118, 124, 125, 126, 127, 128, 129, 130, 131, 132, 133, 134] (by decide +kernel) (by decide +kernel)
set_option maxRecDepth 20000 in
theorem gX3_readPart_X3_readEither : GoodIn wsX3_readPart (wsV RX3 68 RX3 yX3_readEither wsX3_readEither) := goodIn_app (goodIn_of _ (by decide +kernel)) ggX3_readPart_X3_readEither
set_option maxRecDepth 20000 in
theorem ggX3_readPart_X3_takeOne : GoodIn wsX3_readPart wsX3_takeOne := goodIn_r _ [25, 6, 7, 8, 26, 27, 28, 29, 30, 31, 32, 33, 34, 35, 36, 37, 38, 39, 40, 41, 42, 43, 44, 45, 46, 47, 48, 49, 50, 51, 52, 53, 54, 55, 56, 57, 58, 59, 60, 61, 62, 63, 64, 65, 66, 67, 68, 69, 70, 71, 72, 73, 74, 75, 76, 77, 78, 79, 80, 81, 82, 83, 84, 85, 86, 87, 88, 89, 90, 91, 92, 93, 94, 95, 96, 97, 98, 99, 100, 101, 102, 103, 104, 105, 106, 107, 108, 109, 110, 111, 112, 113, 114, 124, 125, 126] (by decide +kernel) (by decide +kernel)
set_option maxRecDepth 20000 in
theorem gX3_readPart_X3_takeOne : GoodIn wsX3_readPart (wsV RX3 64 RX3 yX3_takeOne wsX3_takeOne) := goodIn_app (goodIn_of _ (by decide +kernel)) ggX3_readPart_X3_takeOne
set_option maxRecDepth 20000 in
theorem ggX3_readPart_X3_readNumber : GoodIn wsX3_readPart wsX3_readNumber := goodIn_r _ [118, 22, 23, 24, 4, 25, 6, 7, 8, 26, 27, 28, 29, 30, 31, 32, 33, 34, 35, 36, 37, 38, 39, 40, 41, 42, 43, 44, 45, 46, 47, 48, 49, 50, 51, 52, 53, 54, 55, 56, 57, 58, 59, 60, 61, 62, 63, 64, 65, 66, 67, 68, 69, 70, 71, 72, 73, 74, 75, 76, 77, 78, 79, 80, 81, 82, 83, 84, 85, 86, 87, 88, 89, 90, 91, 92, 93, 94, 95, 96, 97, 98, 99, 100, 101, 102, 103, 104, 105, 106, 107, 108, 109, 110, 111, 112, 113, 114, 124, 125, 126] (by decide +kernel) (by decide +kernel)
set_option maxRecDepth 20000 in
theorem gX3_readPart_X3_readNumber : GoodIn wsX3_readPart (wsV RX3 78 RX3 yX3_readNumber wsX3_readNumber) := goodIn_app (goodIn_of _ (by decide +kernel)) ggX3_readPart_X3_readNumber
theorem dX3_readPart_0 : decode cX3_readPart 0 = .ok (.iload_n 2, 1) := by decide +kernel
theorem dX3_readPart_1 : decode cX3_readPart 1 = .ok (.iconst 5, 1) := by decide +kernel
theorem dX3_readPart_2 : decode cX3_readPart 2 = .ok (.if_icmp .ge 33, 3) := by decide +kernel
theorem dX3_readPart_5 : decode cX3_readPart 5 = .ok (.aload_n 0, 1) := by decide +kernel
theorem dX3_readPart_6 : decode cX3_readPart 6 = .ok (.bipush 33, 2) := by decide +kernel
theorem dX3_readPart_8 : decode cX3_readPart 8 = .ok (.invokevirtual 37, 3) := by decide +kernel
theorem dX3_readPart_11 : decode cX3_readPart 11 = .ok (.ifCond .eq 24, 3) := by decide +kernel
theorem dX3_readPart_14 : decode cX3_readPart 14 = .ok (.aload_n 0, 1) := by decide +kernel
theorem dX3_readPart_15 : decode cX3_readPart 15 = .ok (.aload_n 1, 1) := by decide +kernel
theorem dX3_readPart_16 : decode cX3_readPart 16 = .ok (.iload_n 2, 1) := by decide +kernel
theorem dX3_readPart_17 : decode cX3_readPart 17 = .ok (.iconst 1, 1) := by decide +kernel
theorem dX3_readPart_18 : decode cX3_readPart 18 = .ok (.iadd, 1) := by decide +kernel
theorem dX3_readPart_19 : decode cX3_readPart 19 = .ok (.invokevirtual 102, 3) := by decide +kernel
theorem dX3_readPart_22 : decode cX3_readPart 22 = .ok (.ifCond .ne 5, 3) := by decide +kernel
theorem dX3_readPart_25 : decode cX3_readPart 25 = .ok (.iconst 0, 1) := by decide +kernel
theorem dX3_readPart_26 : decode cX3_readPart 26 = .ok (.ireturn, 1) := by decide +kernel
theorem dX3_readPart_27 : decode cX3_readPart 27 = .ok (.aload_n 1, 1) := by decide +kernel
theorem dX3_readPart_28 : decode cX3_readPart 28 = .ok (.bipush (-3), 2) := by decide +kernel
theorem dX3_readPart_30 : decode cX3_readPart 30 = .ok (.invokevirtual 72, 3) := by decide +kernel
theorem dX3_readPart_33 : decode cX3_readPart 33 = .ok (.iconst 1, 1) := by decide +kernel
theorem dX3_readPart_34 : decode cX3_readPart 34 = .ok (.ireturn, 1) := by decide +kernel
theorem dX3_readPart_35 : decode cX3_readPart 35 = .ok (.iload_n 2, 1) := by decide +kernel
theorem dX3_readPart_36 : decode cX3_readPart 36 = .ok (.iconst 5, 1) := by decide +kernel
theorem dX3_readPart_37 : decode cX3_readPart 37 = .ok (.if_icmp .ge 38, 3) := by decide +kernel
theorem dX3_readPart_40 : decode cX3_readPart 40 = .ok (.aload_n 0, 1) := by decide +kernel
theorem dX3_readPart_41 : decode cX3_readPart 41 = .ok (.bipush 40, 2) := by decide +kernel
theorem dX3_readPart_43 : decode cX3_readPart 43 = .ok (.invokevirtual 37, 3) := by decide +kernel
theorem dX3_readPart_46 : decode cX3_readPart 46 = .ok (.ifCond .eq 29, 3) := by decide +kernel
theorem dX3_readPart_49 : decode cX3_readPart 49 = .ok (.aload_n 0, 1) := by decide +kernel
theorem dX3_readPart_50 : decode cX3_readPart 50 = .ok (.aload_n 1, 1) := by decide +kernel
theorem dX3_readPart_51 : decode cX3_readPart 51 = .ok (.iload_n 2, 1) := by decide +kernel
theorem dX3_readPart_52 : decode cX3_readPart 52 = .ok (.iconst 1, 1) := by decide +kernel
theorem dX3_readPart_53 : decode cX3_readPart 53 = .ok (.iadd, 1) := by decide +kernel
theorem dX3_readPart_54 : decode cX3_readPart 54 = .ok (.invokevirtual 68, 3) := by decide +kernel
theorem dX3_readPart_57 : decode cX3_readPart 57 = .ok (.ifCond .eq 16, 3) := by decide +kernel
theorem dX3_readPart_60 : decode cX3_readPart 60 = .ok (.aload_n 0, 1) := by decide +kernel
theorem dX3_readPart_61 : decode cX3_readPart 61 = .ok (.bipush 41, 2) := by decide +kernel
theorem dX3_readPart_63 : decode cX3_readPart 63 = .ok (.invokevirtual 37, 3) := by decide +kernel
theorem dX3_readPart_66 : decode cX3_readPart 66 = .ok (.ifCond .eq 7, 3) := by decide +kernel
theorem dX3_readPart_69 : decode cX3_readPart 69 = .ok (.iconst 1, 1) := by decide +kernel
theorem dX3_readPart_70 : decode cX3_readPart 70 = .ok (.goto 4, 3) := by decide +kernel
theorem dX3_readPart_73 : decode cX3_readPart 73 = .ok (.iconst 0, 1) := by decide +kernel
theorem dX3_readPart_74 : decode cX3_readPart 74 = .ok (.ireturn, 1) := by decide +kernel
theorem dX3_readPart_75 : decode cX3_readPart 75 = .ok (.aload_n 0, 1) := by decide +kernel
theorem dX3_readPart_76 : decode cX3_readPart 76 = .ok (.ldc 105, 2) := by decide +kernel
theorem dX3_readPart_78 : decode cX3_readPart 78 = .ok (.invokevirtual 64, 3) := by decide +kernel
theorem dX3_readPart_81 : decode cX3_readPart 81 = .ok (.istore_n 3, 1) := by decide +kernel
theorem dX3_readPart_82 : decode cX3_readPart 82 = .ok (.iload_n 3, 1) := by decide +kernel
theorem dX3_readPart_83 : decode cX3_readPart 83 = .ok (.ifCond .ge 5, 3) := by decide +kernel
theorem dX3_readPart_86 : decode cX3_readPart 86 = .ok (.iconst 0, 1) := by decide +kernel
theorem dX3_readPart_87 : decode cX3_readPart 87 = .ok (.ireturn, 1) := by decide +kernel
theorem dX3_readPart_88 : decode cX3_readPart 88 = .ok (.aload_n 0, 1) := by decide +kernel
theorem dX3_readPart_89 : decode cX3_readPart 89 = .ok (.ldc 107, 2) := by decide +kernel
theorem dX3_readPart_91 : decode cX3_readPart 91 = .ok (.invokevirtual 64, 3) := by decide +kernel
theorem dX3_readPart_94 : decode cX3_readPart 94 = .ok (.istore 4, 2) := by decide +kernel
theorem dX3_readPart_96 : decode cX3_readPart 96 = .ok (.iload 4, 2) := by decide +kernel
theorem dX3_readPart_98 : decode cX3_readPart 98 = .ok (.ifCond .ge 5, 3) := by decide +kernel
theorem dX3_readPart_101 : decode cX3_readPart 101 = .ok (.iconst 0, 1) := by decide +kernel
theorem dX3_readPart_102 : decode cX3_readPart 102 = .ok (.ireturn, 1) := by decide +kernel
theorem dX3_readPart_103 : decode cX3_readPart 103 = .ok (.aload_n 0, 1) := by decide +kernel
theorem dX3_readPart_104 : decode cX3_readPart 104 = .ok (.invokevirtual 78, 3) := by decide +kernel
theorem dX3_readPart_107 : decode cX3_readPart 107 = .ok (.istore 5, 2) := by decide +kernel
theorem dX3_readPart_109 : decode cX3_readPart 109 = .ok (.aload_n 1, 1) := by decide +kernel
theorem dX3_readPart_110 : decode cX3_readPart 110 = .ok (.iload_n 3, 1) := by decide +kernel
theorem dX3_readPart_111 : decode cX3_readPart 111 = .ok (.sipush 3000, 3) := by decide +kernel
theorem dX3_readPart_114 : decode cX3_readPart 114 = .ok (.imul, 1) := by decide +kernel
theorem dX3_readPart_115 : decode cX3_readPart 115 = .ok (.iload 4, 2) := by decide +kernel
theorem dX3_readPart_117 : decode cX3_readPart 117 = .ok (.sipush 1000, 3) := by decide +kernel
theorem dX3_readPart_120 : decode cX3_readPart 120 = .ok (.imul, 1) := by decide +kernel
theorem dX3_readPart_121 : decode cX3_readPart 121 = .ok (.iadd, 1) := by decide +kernel
theorem dX3_readPart_122 : decode cX3_readPart 122 = .ok (.iload 5, 2) := by decide +kernel
theorem dX3_readPart_124 : decode cX3_readPart 124 = .ok (.iadd, 1) := by decide +kernel
theorem dX3_readPart_125 : decode cX3_readPart 125 = .ok (.invokevirtual 72, 3) := by decide +kernel
theorem dX3_readPart_128 : decode cX3_readPart 128 = .ok (.iload 5, 2) := by decide +kernel
theorem dX3_readPart_130 : decode cX3_readPart 130 = .ok (.ifCond .lt 7, 3) := by decide +kernel
theorem dX3_readPart_133 : decode cX3_readPart 133 = .ok (.iconst 1, 1) := by decide +kernel
theorem dX3_readPart_134 : decode cX3_readPart 134 = .ok (.goto 4, 3) := by decide +kernel
theorem dX3_readPart_137 : decode cX3_readPart 137 = .ok (.iconst 0, 1) := by decide +kernel
theorem dX3_readPart_138 : decode cX3_readPart 138 = .ok (.ireturn, 1) := by decide +kernel
set_option maxRecDepth 20000 in
theorem ggX3_readNumber_X3_takeOne : GoodIn wsX3_readNumber wsX3_takeOne := goodIn_r _ [5, 6, 7, 8, 9, 10, 11, 12, 13, 14, 15, 16, 17, 18, 19, 20, 21, 22, 23, 24, 25, 26, 27, 28, 29, 30, 31, 32, 33, 34, 35, 36, 37, 38, 39, 40, 41, 42, 43, 44, 45, 46, 47, 48, 49, 50, 51, 52, 53, 54, 55, 56, 57, 58, 59, 60, 61, 62, 63, 64, 65, 66, 67, 68, 69, 70, 71, 72, 73, 74, 75, 76, 77, 78, 79, 80, 81, 82, 83, 84, 85, 86, 87, 88, 89, 90, 91, 92, 93, 94, 95, 96, 97, 98, 99, 100] (by decide +kernel) (by decide +kernel)
set_option maxRecDepth 20000 in
theorem gX3_readNumber_X3_takeOne : GoodIn wsX3_readNumber (wsV RX3 64 RX3 yX3_takeOne wsX3_takeOne) := goodIn_app (goodIn_of _ (by decide +kernel)) ggX3_readNumber_X3_takeOne
theorem dX3_readNumber_0 : decode cX3_readNumber 0 = .ok (.aload_n 0, 1) := by decide +kernel
theorem dX3_readNumber_1 : decode cX3_readNumber 1 = .ok (.ldc 109, 2) := by decide +kernel
theorem dX3_readNumber_3 : decode cX3_readNumber 3 = .ok (.invokevirtual 64, 3) := by decide +kernel
theorem dX3_readNumber_6 : decode cX3_readNumber 6 = .ok (.istore_n 1, 1) := by decide +kernel
theorem dX3_readNumber_7 : decode cX3_readNumber 7 = .ok (.iconst 0, 1) := by decide +kernel
theorem dX3_readNumber_8 : decode cX3_readNumber 8 = .ok (.istore_n 2, 1) := by decide +kernel
theorem dX3_readNumber_9 : decode cX3_readNumber 9 = .ok (.iload_n 2, 1) := by decide +kernel
theorem dX3_readNumber_10 : decode cX3_readNumber 10 = .ok (.iconst 2, 1) := by decide +kernel
theorem dX3_readNumber_11 : decode cX3_readNumber 11 = .ok (.if_icmp .ge 33, 3) := by decide +kernel
theorem dX3_readNumber_14 : decode cX3_readNumber 14 = .ok (.iload_n 1, 1) := by decide +kernel
theorem dX3_readNumber_15 : decode cX3_readNumber 15 = .ok (.ifCond .le 29, 3) := by decide +kernel
theorem dX3_readNumber_18 : decode cX3_readNumber 18 = .ok (.aload_n 0, 1) := by decide +kernel
theorem dX3_readNumber_19 : decode cX3_readNumber 19 = .ok (.ldc 109, 2) := by decide +kernel
theorem dX3_readNumber_21 : decode cX3_readNumber 21 = .ok (.invokevirtual 64, 3) := by decide +kernel
theorem dX3_readNumber_24 : decode cX3_readNumber 24 = .ok (.istore_n 3, 1) := by decide +kernel
theorem dX3_readNumber_25 : decode cX3_readNumber 25 = .ok (.iload_n 3, 1) := by decide +kernel
theorem dX3_readNumber_26 : decode cX3_readNumber 26 = .ok (.ifCond .ge 5, 3) := by decide +kernel
theorem dX3_readNumber_29 : decode cX3_readNumber 29 = .ok (.iload_n 1, 1) := by decide +kernel
theorem dX3_readNumber_30 : decode cX3_readNumber 30 = .ok (.ireturn, 1) := by decide +kernel
theorem dX3_readNumber_31 : decode cX3_readNumber 31 = .ok (.iload_n 1, 1) := by decide +kernel
theorem dX3_readNumber_32 : decode cX3_readNumber 32 = .ok (.bipush 10, 2) := by decide +kernel
theorem dX3_readNumber_34 : decode cX3_readNumber 34 = .ok (.imul, 1) := by decide +kernel
theorem dX3_readNumber_35 : decode cX3_readNumber 35 = .ok (.iload_n 3, 1) := by decide +kernel
theorem dX3_readNumber_36 : decode cX3_readNumber 36 = .ok (.iadd, 1) := by decide +kernel
theorem dX3_readNumber_37 : decode cX3_readNumber 37 = .ok (.istore_n 1, 1) := by decide +kernel
theorem dX3_readNumber_38 : decode cX3_readNumber 38 = .ok (.iinc 2 1, 3) := by decide +kernel
theorem dX3_readNumber_41 : decode cX3_readNumber 41 = .ok (.goto (-32), 3) := by decide +kernel
theorem dX3_readNumber_44 : decode cX3_readNumber 44 = .ok (.iload_n 1, 1) := by decide +kernel
theorem dX3_readNumber_45 : decode cX3_readNumber 45 = .ok (.ireturn, 1) := by decide +kernel
set_option maxRecDepth 20000 in
theorem ggX3_takeOne_J0_indexOf_0f7a4 : GoodIn wsX3_takeOne wsJ0_indexOf_0f7a4 := goodIn_r _ [8, 9, 10, 11, 7, 12, 13, 14, 15, 16, 17, 18, 19, 20, 21, 22, 23, 24, 25, 26, 27, 28, 29, 30, 31, 32, 33, 34, 35, 36, 37, 38, 39, 40, 41, 42, 43, 44, 45, 46, 47, 48, 49, 50, 51, 52, 53, 54, 55, 56, 57, 58, 59, 60, 61, 62, 63, 64, 65, 66, 67, 68, 69, 70, 71, 72, 73, 74, 75, 76, 77, 78, 79, 80, 81, 82, 83, 84, 85, 86, 87, 88, 89, 90, 91, 92] (by decide +kernel) (by decide +kernel)
set_option maxRecDepth 20000 in
theorem gX3_takeOne_J0_indexOf_0f7a4 : GoodIn wsX3_takeOne (wsV RX3 111 RJ0 yJ0_indexOf_0f7a4 wsJ0_indexOf_0f7a4) := goodIn_app (goodIn_of _ (by decide +kernel)) ggX3_takeOne_J0_indexOf_0f7a4
theorem dX3_takeOne_0 : decode cX3_takeOne 0 = .ok (.aload_n 0, 1) := by decide +kernel
theorem dX3_takeOne_1 : decode cX3_takeOne 1 = .ok (.getfield 30, 3) := by decide +kernel
theorem dX3_takeOne_4 : decode cX3_takeOne 4 = .ok (.ifCond .lt 27, 3) := by decide +kernel
theorem dX3_takeOne_7 : decode cX3_takeOne 7 = .ok (.aload_n 0, 1) := by decide +kernel
theorem dX3_takeOne_8 : decode cX3_takeOne 8 = .ok (.getfield 30, 3) := by decide +kernel
theorem dX3_takeOne_11 : decode cX3_takeOne 11 = .ok (.aload_n 0, 1) := by decide +kernel
theorem dX3_takeOne_12 : decode cX3_takeOne 12 = .ok (.getfield 15, 3) := by decide +kernel
theorem dX3_takeOne_15 : decode cX3_takeOne 15 = .ok (.if_icmp .ge 16, 3) := by decide +kernel
theorem dX3_takeOne_18 : decode cX3_takeOne 18 = .ok (.aload_n 0, 1) := by decide +kernel
theorem dX3_takeOne_19 : decode cX3_takeOne 19 = .ok (.getfield 30, 3) := by decide +kernel
theorem dX3_takeOne_22 : decode cX3_takeOne 22 = .ok (.bipush 120, 2) := by decide +kernel
theorem dX3_takeOne_24 : decode cX3_takeOne 24 = .ok (.if_icmp .ge 7, 3) := by decide +kernel
theorem dX3_takeOne_27 : decode cX3_takeOne 27 = .ok (.iconst 1, 1) := by decide +kernel
theorem dX3_takeOne_28 : decode cX3_takeOne 28 = .ok (.goto 4, 3) := by decide +kernel
theorem dX3_takeOne_31 : decode cX3_takeOne 31 = .ok (.iconst 0, 1) := by decide +kernel
theorem dX3_takeOne_32 : decode cX3_takeOne 32 = .ok (.istore_n 2, 1) := by decide +kernel
theorem dX3_takeOne_33 : decode cX3_takeOne 33 = .ok (.iload_n 2, 1) := by decide +kernel
theorem dX3_takeOne_34 : decode cX3_takeOne 34 = .ok (.ifCond .eq 24, 3) := by decide +kernel
theorem dX3_takeOne_37 : decode cX3_takeOne 37 = .ok (.aload_n 1, 1) := by decide +kernel
theorem dX3_takeOne_38 : decode cX3_takeOne 38 = .ok (.aload_n 0, 1) := by decide +kernel
theorem dX3_takeOne_39 : decode cX3_takeOne 39 = .ok (.getfield 9, 3) := by decide +kernel
theorem dX3_takeOne_42 : decode cX3_takeOne 42 = .ok (.aload_n 0, 1) := by decide +kernel
theorem dX3_takeOne_43 : decode cX3_takeOne 43 = .ok (.getfield 30, 3) := by decide +kernel
theorem dX3_takeOne_46 : decode cX3_takeOne 46 = .ok (.baload, 1) := by decide +kernel
theorem dX3_takeOne_47 : decode cX3_takeOne 47 = .ok (.sipush 255, 3) := by decide +kernel
theorem dX3_takeOne_50 : decode cX3_takeOne 50 = .ok (.iand, 1) := by decide +kernel
theorem dX3_takeOne_51 : decode cX3_takeOne 51 = .ok (.i2c, 1) := by decide +kernel
theorem dX3_takeOne_52 : decode cX3_takeOne 52 = .ok (.invokevirtual 111, 3) := by decide +kernel
theorem dX3_takeOne_55 : decode cX3_takeOne 55 = .ok (.goto 4, 3) := by decide +kernel
theorem dX3_takeOne_58 : decode cX3_takeOne 58 = .ok (.iconst (-1), 1) := by decide +kernel
theorem dX3_takeOne_59 : decode cX3_takeOne 59 = .ok (.istore_n 3, 1) := by decide +kernel
theorem dX3_takeOne_60 : decode cX3_takeOne 60 = .ok (.iload_n 3, 1) := by decide +kernel
theorem dX3_takeOne_61 : decode cX3_takeOne 61 = .ok (.ifCond .lt 13, 3) := by decide +kernel
theorem dX3_takeOne_64 : decode cX3_takeOne 64 = .ok (.aload_n 0, 1) := by decide +kernel
theorem dX3_takeOne_65 : decode cX3_takeOne 65 = .ok (.dup, 1) := by decide +kernel
theorem dX3_takeOne_66 : decode cX3_takeOne 66 = .ok (.getfield 30, 3) := by decide +kernel
theorem dX3_takeOne_69 : decode cX3_takeOne 69 = .ok (.iconst 1, 1) := by decide +kernel
theorem dX3_takeOne_70 : decode cX3_takeOne 70 = .ok (.iadd, 1) := by decide +kernel
theorem dX3_takeOne_71 : decode cX3_takeOne 71 = .ok (.putfield 30, 3) := by decide +kernel
theorem dX3_takeOne_74 : decode cX3_takeOne 74 = .ok (.iload_n 3, 1) := by decide +kernel
theorem dX3_takeOne_75 : decode cX3_takeOne 75 = .ok (.ireturn, 1) := by decide +kernel
theorem dX3_take_0 : decode cX3_take 0 = .ok (.aload_n 0, 1) := by decide +kernel
theorem dX3_take_1 : decode cX3_take 1 = .ok (.getfield 30, 3) := by decide +kernel
theorem dX3_take_4 : decode cX3_take 4 = .ok (.ifCond .lt 40, 3) := by decide +kernel
theorem dX3_take_7 : decode cX3_take 7 = .ok (.aload_n 0, 1) := by decide +kernel
theorem dX3_take_8 : decode cX3_take 8 = .ok (.getfield 30, 3) := by decide +kernel
theorem dX3_take_11 : decode cX3_take 11 = .ok (.aload_n 0, 1) := by decide +kernel
theorem dX3_take_12 : decode cX3_take 12 = .ok (.getfield 15, 3) := by decide +kernel
theorem dX3_take_15 : decode cX3_take 15 = .ok (.if_icmp .ge 29, 3) := by decide +kernel
theorem dX3_take_18 : decode cX3_take 18 = .ok (.aload_n 0, 1) := by decide +kernel
theorem dX3_take_19 : decode cX3_take 19 = .ok (.getfield 30, 3) := by decide +kernel
theorem dX3_take_22 : decode cX3_take 22 = .ok (.bipush 120, 2) := by decide +kernel
theorem dX3_take_24 : decode cX3_take 24 = .ok (.if_icmp .ge 20, 3) := by decide +kernel
theorem dX3_take_27 : decode cX3_take 27 = .ok (.aload_n 0, 1) := by decide +kernel
theorem dX3_take_28 : decode cX3_take 28 = .ok (.getfield 9, 3) := by decide +kernel
theorem dX3_take_31 : decode cX3_take 31 = .ok (.aload_n 0, 1) := by decide +kernel
theorem dX3_take_32 : decode cX3_take 32 = .ok (.getfield 30, 3) := by decide +kernel
theorem dX3_take_35 : decode cX3_take 35 = .ok (.baload, 1) := by decide +kernel
theorem dX3_take_36 : decode cX3_take 36 = .ok (.sipush 255, 3) := by decide +kernel
theorem dX3_take_39 : decode cX3_take 39 = .ok (.iand, 1) := by decide +kernel
theorem dX3_take_40 : decode cX3_take 40 = .ok (.iload_n 1, 1) := by decide +kernel
theorem dX3_take_41 : decode cX3_take 41 = .ok (.if_icmp .eq 5, 3) := by decide +kernel
theorem dX3_take_44 : decode cX3_take 44 = .ok (.iconst 0, 1) := by decide +kernel
theorem dX3_take_45 : decode cX3_take 45 = .ok (.ireturn, 1) := by decide +kernel
theorem dX3_take_46 : decode cX3_take 46 = .ok (.aload_n 0, 1) := by decide +kernel
theorem dX3_take_47 : decode cX3_take 47 = .ok (.dup, 1) := by decide +kernel
theorem dX3_take_48 : decode cX3_take 48 = .ok (.getfield 30, 3) := by decide +kernel
theorem dX3_take_51 : decode cX3_take 51 = .ok (.iconst 1, 1) := by decide +kernel
theorem dX3_take_52 : decode cX3_take 52 = .ok (.iadd, 1) := by decide +kernel
theorem dX3_take_53 : decode cX3_take 53 = .ok (.putfield 30, 3) := by decide +kernel
theorem dX3_take_56 : decode cX3_take 56 = .ok (.iconst 1, 1) := by decide +kernel
theorem dX3_take_57 : decode cX3_take 57 = .ok (.ireturn, 1) := by decide +kernel
set_option maxRecDepth 20000 in
theorem ggX3_takeAll_J0_length_8abf5 : GoodIn wsX3_takeAll wsJ0_length_8abf5 := goodIn_r _ [5, 6, 7, 8, 9, 4, 10, 11, 12] (by decide +kernel) (by decide +kernel)
set_option maxRecDepth 20000 in
theorem gX3_takeAll_J0_length_8abf5 : GoodIn wsX3_takeAll (wsV RX3 117 RJ0 yJ0_length_8abf5 wsJ0_length_8abf5) := goodIn_app (goodIn_of _ (by decide +kernel)) ggX3_takeAll_J0_length_8abf5
set_option maxRecDepth 20000 in
theorem ggX3_takeAll_J0_charAt_5068e : GoodIn wsX3_takeAll wsJ0_charAt_5068e := goodIn_r _ [16, 6, 17, 18, 19, 4, 20, 11, 12, 21, 22, 23, 24, 25, 26, 27, 28, 29, 30, 31, 32, 33, 34, 35, 36, 37, 38, 39, 40, 41, 42, 43, 44, 45, 46, 47, 48, 49] (by decide +kernel) (by decide +kernel)
set_option maxRecDepth 20000 in
theorem gX3_takeAll_J0_charAt_5068e : GoodIn wsX3_takeAll (wsV RX3 120 RJ0 yJ0_charAt_5068e wsJ0_charAt_5068e) := goodIn_app (goodIn_of _ (by decide +kernel)) ggX3_takeAll_J0_charAt_5068e
set_option maxRecDepth 20000 in
theorem ggX3_takeAll_X3_take : GoodIn wsX3_takeAll wsX3_take := goodIn_r _ [54, 55, 56, 57, 58, 59, 60] (by decide +kernel) (by decide +kernel)
set_option maxRecDepth 20000 in
theorem gX3_takeAll_X3_take : GoodIn wsX3_takeAll (wsV RX3 37 RX3 yX3_take wsX3_take) := goodIn_app (goodIn_of _ (by decide +kernel)) ggX3_takeAll_X3_take
theorem dX3_takeAll_0 : decode cX3_takeAll 0 = .ok (.iconst 0, 1) := by decide +kernel
theorem dX3_takeAll_1 : decode cX3_takeAll 1 = .ok (.istore_n 2, 1) := by decide +kernel
theorem dX3_takeAll_2 : decode cX3_takeAll 2 = .ok (.iload_n 2, 1) := by decide +kernel
theorem dX3_takeAll_3 : decode cX3_takeAll 3 = .ok (.aload_n 1, 1) := by decide +kernel
theorem dX3_takeAll_4 : decode cX3_takeAll 4 = .ok (.invokevirtual 117, 3) := by decide +kernel
theorem dX3_takeAll_7 : decode cX3_takeAll 7 = .ok (.if_icmp .ge 23, 3) := by decide +kernel
theorem dX3_takeAll_10 : decode cX3_takeAll 10 = .ok (.aload_n 0, 1) := by decide +kernel
theorem dX3_takeAll_11 : decode cX3_takeAll 11 = .ok (.aload_n 1, 1) := by decide +kernel
theorem dX3_takeAll_12 : decode cX3_takeAll 12 = .ok (.iload_n 2, 1) := by decide +kernel
theorem dX3_takeAll_13 : decode cX3_takeAll 13 = .ok (.invokevirtual 120, 3) := by decide +kernel
theorem dX3_takeAll_16 : decode cX3_takeAll 16 = .ok (.invokevirtual 37, 3) := by decide +kernel
theorem dX3_takeAll_19 : decode cX3_takeAll 19 = .ok (.ifCond .ne 5, 3) := by decide +kernel
theorem dX3_takeAll_22 : decode cX3_takeAll 22 = .ok (.iconst 0, 1) := by decide +kernel
theorem dX3_takeAll_23 : decode cX3_takeAll 23 = .ok (.ireturn, 1) := by decide +kernel
theorem dX3_takeAll_24 : decode cX3_takeAll 24 = .ok (.iinc 2 1, 3) := by decide +kernel
theorem dX3_takeAll_27 : decode cX3_takeAll 27 = .ok (.goto (-25), 3) := by decide +kernel
theorem dX3_takeAll_30 : decode cX3_takeAll 30 = .ok (.iconst 1, 1) := by decide +kernel
theorem dX3_takeAll_31 : decode cX3_takeAll 31 = .ok (.ireturn, 1) := by decide +kernel
set_option maxRecDepth 20000 in
theorem ggX4_init_X2_init : GoodIn wsX4_init wsX2_init := goodIn_r _ [20, 21, 2, 3, 22, 23, 24, 25, 39, 40, 41, 42] (by decide +kernel) (by decide +kernel)
set_option maxRecDepth 20000 in
theorem gX4_init_X2_init : GoodIn wsX4_init (wsX2_init) := ggX4_init_X2_init
set_option maxRecDepth 20000 in
theorem ggX4_init_X3_init : GoodIn wsX4_init wsX3_init := goodIn_r _ [27, 28, 2, 3, 29, 30, 49, 50, 51] (by decide +kernel) (by decide +kernel)
set_option maxRecDepth 20000 in
theorem gX4_init_X3_init_n28 : GoodIn wsX4_init (wsX3_init) := ggX4_init_X3_init
set_option maxRecDepth 20000 in
theorem ggX4_init_X1_init : GoodIn wsX4_init wsX1_init := goodIn_r _ [32, 33, 2, 3, 24, 34, 35, 5, 6, 36, 37, 38, 19, 20, 21, 22, 23, 25, 52, 53, 54, 55, 56, 57, 58, 59, 39, 40, 41, 42] (by decide +kernel) (by decide +kernel)
set_option maxRecDepth 20000 in
theorem gX4_init_X1_init_n39 : GoodIn wsX4_init (wsX1_init) := ggX4_init_X1_init
theorem dX4_init_0 : decode cX4_init 0 = .ok (.aload_n 0, 1) := by decide +kernel
theorem dX4_init_1 : decode cX4_init 1 = .ok (.invokespecial 3, 3) := by decide +kernel
theorem dX4_init_4 : decode cX4_init 4 = .ok (.aload_n 0, 1) := by decide +kernel
theorem dX4_init_5 : decode cX4_init 5 = .ok (.new 9, 3) := by decide +kernel
theorem dX4_init_8 : decode cX4_init 8 = .ok (.dup, 1) := by decide +kernel
theorem dX4_init_9 : decode cX4_init 9 = .ok (.bipush 8, 2) := by decide +kernel
theorem dX4_init_11 : decode cX4_init 11 = .ok (.iconst 5, 1) := by decide +kernel
theorem dX4_init_12 : decode cX4_init 12 = .ok (.invokespecial 11, 3) := by decide +kernel
theorem dX4_init_15 : decode cX4_init 15 = .ok (.putfield 14, 3) := by decide +kernel
theorem dX4_init_18 : decode cX4_init 18 = .ok (.aload_n 0, 1) := by decide +kernel
theorem dX4_init_19 : decode cX4_init 19 = .ok (.new 9, 3) := by decide +kernel
theorem dX4_init_22 : decode cX4_init 22 = .ok (.dup, 1) := by decide +kernel
theorem dX4_init_23 : decode cX4_init 23 = .ok (.bipush 16, 2) := by decide +kernel
theorem dX4_init_25 : decode cX4_init 25 = .ok (.bipush 7, 2) := by decide +kernel
theorem dX4_init_27 : decode cX4_init 27 = .ok (.invokespecial 11, 3) := by decide +kernel
theorem dX4_init_30 : decode cX4_init 30 = .ok (.putfield 20, 3) := by decide +kernel
theorem dX4_init_33 : decode cX4_init 33 = .ok (.aload_n 0, 1) := by decide +kernel
theorem dX4_init_34 : decode cX4_init 34 = .ok (.new 9, 3) := by decide +kernel
theorem dX4_init_37 : decode cX4_init 37 = .ok (.dup, 1) := by decide +kernel
theorem dX4_init_38 : decode cX4_init 38 = .ok (.bipush 40, 2) := by decide +kernel
theorem dX4_init_40 : decode cX4_init 40 = .ok (.iconst 5, 1) := by decide +kernel
theorem dX4_init_41 : decode cX4_init 41 = .ok (.invokespecial 11, 3) := by decide +kernel
theorem dX4_init_44 : decode cX4_init 44 = .ok (.putfield 23, 3) := by decide +kernel
theorem dX4_init_47 : decode cX4_init 47 = .ok (.aload_n 0, 1) := by decide +kernel
theorem dX4_init_48 : decode cX4_init 48 = .ok (.new 26, 3) := by decide +kernel
theorem dX4_init_51 : decode cX4_init 51 = .ok (.dup, 1) := by decide +kernel
theorem dX4_init_52 : decode cX4_init 52 = .ok (.invokespecial 28, 3) := by decide +kernel
theorem dX4_init_55 : decode cX4_init 55 = .ok (.putfield 29, 3) := by decide +kernel
theorem dX4_init_58 : decode cX4_init 58 = .ok (.aload_n 0, 1) := by decide +kernel
theorem dX4_init_59 : decode cX4_init 59 = .ok (.bipush 8, 2) := by decide +kernel
theorem dX4_init_61 : decode cX4_init 61 = .ok (.anewarray 33, 3) := by decide +kernel
theorem dX4_init_64 : decode cX4_init 64 = .ok (.putfield 35, 3) := by decide +kernel
theorem dX4_init_67 : decode cX4_init 67 = .ok (.iconst 0, 1) := by decide +kernel
theorem dX4_init_68 : decode cX4_init 68 = .ok (.istore_n 1, 1) := by decide +kernel
theorem dX4_init_69 : decode cX4_init 69 = .ok (.iload_n 1, 1) := by decide +kernel
theorem dX4_init_70 : decode cX4_init 70 = .ok (.bipush 8, 2) := by decide +kernel
theorem dX4_init_72 : decode cX4_init 72 = .ok (.if_icmp .ge 22, 3) := by decide +kernel
theorem dX4_init_75 : decode cX4_init 75 = .ok (.aload_n 0, 1) := by decide +kernel
theorem dX4_init_76 : decode cX4_init 76 = .ok (.getfield 35, 3) := by decide +kernel
theorem dX4_init_79 : decode cX4_init 79 = .ok (.iload_n 1, 1) := by decide +kernel
theorem dX4_init_80 : decode cX4_init 80 = .ok (.new 33, 3) := by decide +kernel
theorem dX4_init_83 : decode cX4_init 83 = .ok (.dup, 1) := by decide +kernel
theorem dX4_init_84 : decode cX4_init 84 = .ok (.invokespecial 39, 3) := by decide +kernel
theorem dX4_init_87 : decode cX4_init 87 = .ok (.aastore, 1) := by decide +kernel
theorem dX4_init_88 : decode cX4_init 88 = .ok (.iinc 1 1, 3) := by decide +kernel
theorem dX4_init_91 : decode cX4_init 91 = .ok (.goto (-22), 3) := by decide +kernel
theorem dX4_init_94 : decode cX4_init 94 = .ok (.return_, 1) := by decide +kernel
set_option maxRecDepth 20000 in
theorem ggX4_copy_X2_copy : GoodIn wsX4_copy wsX2_copy := goodIn_r _ [11, 12, 13, 14, 15, 16, 17, 18, 19, 20, 21, 22, 52, 53, 54, 55] (by decide +kernel) (by decide +kernel)
set_option maxRecDepth 20000 in
theorem gX4_copy_X2_copy : GoodIn wsX4_copy (wsV RX4 40 RX2 yX2_copy wsX2_copy) := goodIn_app (goodIn_of _ (by decide +kernel)) ggX4_copy_X2_copy
set_option maxRecDepth 20000 in
theorem ggX4_copy_X3_copy : GoodIn wsX4_copy wsX3_copy := goodIn_r _ [27, 28, 29, 30, 20, 21, 22, 56, 57, 58] (by decide +kernel) (by decide +kernel)
set_option maxRecDepth 20000 in
theorem gX4_copy_X3_copy : GoodIn wsX4_copy (wsV RX4 44 RX3 yX3_copy wsX3_copy) := goodIn_app (goodIn_of _ (by decide +kernel)) ggX4_copy_X3_copy
set_option maxRecDepth 20000 in
theorem ggX4_copy_X1_copy : GoodIn wsX4_copy wsX1_copy := goodIn_r _ [35, 36, 37, 38, 39, 40, 41, 42, 43, 20, 21, 22, 44, 45, 8, 9, 10, 11, 12, 13, 14, 15, 16, 17, 18, 19, 59, 60, 61, 62, 63, 64, 65, 66, 52, 53, 54, 55] (by decide +kernel) (by decide +kernel)
set_option maxRecDepth 20000 in
theorem gX4_copy_X1_copy : GoodIn wsX4_copy (wsV RX4 51 RX1 yX1_copy wsX1_copy) := goodIn_app (goodIn_of _ (by decide +kernel)) ggX4_copy_X1_copy
theorem dX4_copy_0 : decode cX4_copy 0 = .ok (.aload_n 0, 1) := by decide +kernel
theorem dX4_copy_1 : decode cX4_copy 1 = .ok (.getfield 14, 3) := by decide +kernel
theorem dX4_copy_4 : decode cX4_copy 4 = .ok (.aload_n 1, 1) := by decide +kernel
theorem dX4_copy_5 : decode cX4_copy 5 = .ok (.getfield 14, 3) := by decide +kernel
theorem dX4_copy_8 : decode cX4_copy 8 = .ok (.invokevirtual 40, 3) := by decide +kernel
theorem dX4_copy_11 : decode cX4_copy 11 = .ok (.aload_n 0, 1) := by decide +kernel
theorem dX4_copy_12 : decode cX4_copy 12 = .ok (.getfield 20, 3) := by decide +kernel
theorem dX4_copy_15 : decode cX4_copy 15 = .ok (.aload_n 1, 1) := by decide +kernel
theorem dX4_copy_16 : decode cX4_copy 16 = .ok (.getfield 20, 3) := by decide +kernel
theorem dX4_copy_19 : decode cX4_copy 19 = .ok (.invokevirtual 40, 3) := by decide +kernel
theorem dX4_copy_22 : decode cX4_copy 22 = .ok (.aload_n 0, 1) := by decide +kernel
theorem dX4_copy_23 : decode cX4_copy 23 = .ok (.getfield 23, 3) := by decide +kernel
theorem dX4_copy_26 : decode cX4_copy 26 = .ok (.aload_n 1, 1) := by decide +kernel
theorem dX4_copy_27 : decode cX4_copy 27 = .ok (.getfield 23, 3) := by decide +kernel
theorem dX4_copy_30 : decode cX4_copy 30 = .ok (.invokevirtual 40, 3) := by decide +kernel
theorem dX4_copy_33 : decode cX4_copy 33 = .ok (.aload_n 0, 1) := by decide +kernel
theorem dX4_copy_34 : decode cX4_copy 34 = .ok (.getfield 29, 3) := by decide +kernel
theorem dX4_copy_37 : decode cX4_copy 37 = .ok (.aload_n 1, 1) := by decide +kernel
theorem dX4_copy_38 : decode cX4_copy 38 = .ok (.getfield 29, 3) := by decide +kernel
theorem dX4_copy_41 : decode cX4_copy 41 = .ok (.invokevirtual 44, 3) := by decide +kernel
theorem dX4_copy_44 : decode cX4_copy 44 = .ok (.aload_n 0, 1) := by decide +kernel
theorem dX4_copy_45 : decode cX4_copy 45 = .ok (.aload_n 1, 1) := by decide +kernel
theorem dX4_copy_46 : decode cX4_copy 46 = .ok (.getfield 47, 3) := by decide +kernel
theorem dX4_copy_49 : decode cX4_copy 49 = .ok (.putfield 47, 3) := by decide +kernel
theorem dX4_copy_52 : decode cX4_copy 52 = .ok (.iconst 0, 1) := by decide +kernel
theorem dX4_copy_53 : decode cX4_copy 53 = .ok (.istore_n 2, 1) := by decide +kernel
theorem dX4_copy_54 : decode cX4_copy 54 = .ok (.iload_n 2, 1) := by decide +kernel
theorem dX4_copy_55 : decode cX4_copy 55 = .ok (.aload_n 0, 1) := by decide +kernel
theorem dX4_copy_56 : decode cX4_copy 56 = .ok (.getfield 47, 3) := by decide +kernel
theorem dX4_copy_59 : decode cX4_copy 59 = .ok (.if_icmp .ge 30, 3) := by decide +kernel
theorem dX4_copy_62 : decode cX4_copy 62 = .ok (.iload_n 2, 1) := by decide +kernel
theorem dX4_copy_63 : decode cX4_copy 63 = .ok (.bipush 8, 2) := by decide +kernel
theorem dX4_copy_65 : decode cX4_copy 65 = .ok (.if_icmp .ge 24, 3) := by decide +kernel
theorem dX4_copy_68 : decode cX4_copy 68 = .ok (.aload_n 0, 1) := by decide +kernel
theorem dX4_copy_69 : decode cX4_copy 69 = .ok (.getfield 35, 3) := by decide +kernel
theorem dX4_copy_72 : decode cX4_copy 72 = .ok (.iload_n 2, 1) := by decide +kernel
theorem dX4_copy_73 : decode cX4_copy 73 = .ok (.aaload, 1) := by decide +kernel
theorem dX4_copy_74 : decode cX4_copy 74 = .ok (.aload_n 1, 1) := by decide +kernel
theorem dX4_copy_75 : decode cX4_copy 75 = .ok (.getfield 35, 3) := by decide +kernel
theorem dX4_copy_78 : decode cX4_copy 78 = .ok (.iload_n 2, 1) := by decide +kernel
theorem dX4_copy_79 : decode cX4_copy 79 = .ok (.aaload, 1) := by decide +kernel
theorem dX4_copy_80 : decode cX4_copy 80 = .ok (.invokevirtual 51, 3) := by decide +kernel
theorem dX4_copy_83 : decode cX4_copy 83 = .ok (.iinc 2 1, 3) := by decide +kernel
theorem dX4_copy_86 : decode cX4_copy 86 = .ok (.goto (-32), 3) := by decide +kernel
theorem dX4_copy_89 : decode cX4_copy 89 = .ok (.return_, 1) := by decide +kernel
theorem dX4_hasLaw_0 : decode cX4_hasLaw 0 = .ok (.iload_n 1, 1) := by decide +kernel
theorem dX4_hasLaw_1 : decode cX4_hasLaw 1 = .ok (.ifCond .lt 21, 3) := by decide +kernel
theorem dX4_hasLaw_4 : decode cX4_hasLaw 4 = .ok (.iload_n 1, 1) := by decide +kernel
theorem dX4_hasLaw_5 : decode cX4_hasLaw 5 = .ok (.aload_n 0, 1) := by decide +kernel
theorem dX4_hasLaw_6 : decode cX4_hasLaw 6 = .ok (.getfield 47, 3) := by decide +kernel
theorem dX4_hasLaw_9 : decode cX4_hasLaw 9 = .ok (.if_icmp .ge 13, 3) := by decide +kernel
theorem dX4_hasLaw_12 : decode cX4_hasLaw 12 = .ok (.iload_n 1, 1) := by decide +kernel
theorem dX4_hasLaw_13 : decode cX4_hasLaw 13 = .ok (.bipush 8, 2) := by decide +kernel
theorem dX4_hasLaw_15 : decode cX4_hasLaw 15 = .ok (.if_icmp .ge 7, 3) := by decide +kernel
theorem dX4_hasLaw_18 : decode cX4_hasLaw 18 = .ok (.iconst 1, 1) := by decide +kernel
theorem dX4_hasLaw_19 : decode cX4_hasLaw 19 = .ok (.goto 4, 3) := by decide +kernel
theorem dX4_hasLaw_22 : decode cX4_hasLaw 22 = .ok (.iconst 0, 1) := by decide +kernel
theorem dX4_hasLaw_23 : decode cX4_hasLaw 23 = .ok (.ireturn, 1) := by decide +kernel
set_option maxRecDepth 20000 in
theorem ggX4_addChild_X2_add : GoodIn wsX4_addChild wsX2_add := goodIn_r _ [7, 8, 9, 22, 23, 24, 25] (by decide +kernel) (by decide +kernel)
set_option maxRecDepth 20000 in
theorem gX4_addChild_X2_add : GoodIn wsX4_addChild (wsV RX4 54 RX2 yX2_add wsX2_add) := goodIn_app (goodIn_of _ (by decide +kernel)) ggX4_addChild_X2_add
set_option maxRecDepth 20000 in
theorem ggX4_addChild_X2_put : GoodIn wsX4_addChild wsX2_put := goodIn_r _ [13, 8, 14, 15, 22, 23, 24, 25] (by decide +kernel) (by decide +kernel)
set_option maxRecDepth 20000 in
theorem gX4_addChild_X2_put : GoodIn wsX4_addChild (wsV RX4 58 RX2 yX2_put wsX2_put) := goodIn_app (goodIn_of _ (by decide +kernel)) ggX4_addChild_X2_put
theorem dX4_addChild_0 : decode cX4_addChild 0 = .ok (.aload_n 0, 1) := by decide +kernel
theorem dX4_addChild_1 : decode cX4_addChild 1 = .ok (.getfield 14, 3) := by decide +kernel
theorem dX4_addChild_4 : decode cX4_addChild 4 = .ok (.invokevirtual 54, 3) := by decide +kernel
theorem dX4_addChild_7 : decode cX4_addChild 7 = .ok (.istore_n 2, 1) := by decide +kernel
theorem dX4_addChild_8 : decode cX4_addChild 8 = .ok (.aload_n 0, 1) := by decide +kernel
theorem dX4_addChild_9 : decode cX4_addChild 9 = .ok (.getfield 14, 3) := by decide +kernel
theorem dX4_addChild_12 : decode cX4_addChild 12 = .ok (.iload_n 2, 1) := by decide +kernel
theorem dX4_addChild_13 : decode cX4_addChild 13 = .ok (.iconst 0, 1) := by decide +kernel
theorem dX4_addChild_14 : decode cX4_addChild 14 = .ok (.iload_n 1, 1) := by decide +kernel
theorem dX4_addChild_15 : decode cX4_addChild 15 = .ok (.invokevirtual 58, 3) := by decide +kernel
theorem dX4_addChild_18 : decode cX4_addChild 18 = .ok (.iconst 0, 1) := by decide +kernel
theorem dX4_addChild_19 : decode cX4_addChild 19 = .ok (.istore_n 3, 1) := by decide +kernel
theorem dX4_addChild_20 : decode cX4_addChild 20 = .ok (.iload_n 3, 1) := by decide +kernel
theorem dX4_addChild_21 : decode cX4_addChild 21 = .ok (.iconst 4, 1) := by decide +kernel
theorem dX4_addChild_22 : decode cX4_addChild 22 = .ok (.if_icmp .ge 22, 3) := by decide +kernel
theorem dX4_addChild_25 : decode cX4_addChild 25 = .ok (.aload_n 0, 1) := by decide +kernel
theorem dX4_addChild_26 : decode cX4_addChild 26 = .ok (.getfield 14, 3) := by decide +kernel
theorem dX4_addChild_29 : decode cX4_addChild 29 = .ok (.iload_n 2, 1) := by decide +kernel
theorem dX4_addChild_30 : decode cX4_addChild 30 = .ok (.iconst 1, 1) := by decide +kernel
theorem dX4_addChild_31 : decode cX4_addChild 31 = .ok (.iload_n 3, 1) := by decide +kernel
theorem dX4_addChild_32 : decode cX4_addChild 32 = .ok (.iadd, 1) := by decide +kernel
theorem dX4_addChild_33 : decode cX4_addChild 33 = .ok (.ldc 62, 2) := by decide +kernel
theorem dX4_addChild_35 : decode cX4_addChild 35 = .ok (.invokevirtual 58, 3) := by decide +kernel
theorem dX4_addChild_38 : decode cX4_addChild 38 = .ok (.iinc 3 1, 3) := by decide +kernel
theorem dX4_addChild_41 : decode cX4_addChild 41 = .ok (.goto (-21), 3) := by decide +kernel
theorem dX4_addChild_44 : decode cX4_addChild 44 = .ok (.iload_n 2, 1) := by decide +kernel
theorem dX4_addChild_45 : decode cX4_addChild 45 = .ok (.ireturn, 1) := by decide +kernel
set_option maxRecDepth 20000 in
theorem ggX4_growBy_X2_at : GoodIn wsX4_growBy wsX2_at := goodIn_r _ [11, 12, 13, 14, 25, 26, 27, 28] (by decide +kernel) (by decide +kernel)
set_option maxRecDepth 20000 in
theorem gX4_growBy_X2_at : GoodIn wsX4_growBy (wsV RX4 66 RX2 yX2_at wsX2_at) := goodIn_app (goodIn_of _ (by decide +kernel)) ggX4_growBy_X2_at
set_option maxRecDepth 20000 in
theorem ggX4_growBy_X2_put : GoodIn wsX4_growBy wsX2_put := goodIn_r _ [18, 12, 13, 14, 25, 26, 27, 28] (by decide +kernel) (by decide +kernel)
set_option maxRecDepth 20000 in
theorem gX4_growBy_X2_put : GoodIn wsX4_growBy (wsV RX4 58 RX2 yX2_put wsX2_put) := goodIn_app (goodIn_of _ (by decide +kernel)) ggX4_growBy_X2_put
theorem dX4_growBy_0 : decode cX4_growBy 0 = .ok (.iconst 0, 1) := by decide +kernel
theorem dX4_growBy_1 : decode cX4_growBy 1 = .ok (.istore_n 2, 1) := by decide +kernel
theorem dX4_growBy_2 : decode cX4_growBy 2 = .ok (.iload_n 2, 1) := by decide +kernel
theorem dX4_growBy_3 : decode cX4_growBy 3 = .ok (.aload_n 0, 1) := by decide +kernel
theorem dX4_growBy_4 : decode cX4_growBy 4 = .ok (.getfield 14, 3) := by decide +kernel
theorem dX4_growBy_7 : decode cX4_growBy 7 = .ok (.getfield 63, 3) := by decide +kernel
theorem dX4_growBy_10 : decode cX4_growBy 10 = .ok (.if_icmp .ge 34, 3) := by decide +kernel
theorem dX4_growBy_13 : decode cX4_growBy 13 = .ok (.aload_n 0, 1) := by decide +kernel
theorem dX4_growBy_14 : decode cX4_growBy 14 = .ok (.getfield 14, 3) := by decide +kernel
theorem dX4_growBy_17 : decode cX4_growBy 17 = .ok (.iload_n 2, 1) := by decide +kernel
theorem dX4_growBy_18 : decode cX4_growBy 18 = .ok (.iconst 0, 1) := by decide +kernel
theorem dX4_growBy_19 : decode cX4_growBy 19 = .ok (.aload_n 0, 1) := by decide +kernel
theorem dX4_growBy_20 : decode cX4_growBy 20 = .ok (.getfield 14, 3) := by decide +kernel
theorem dX4_growBy_23 : decode cX4_growBy 23 = .ok (.iload_n 2, 1) := by decide +kernel
theorem dX4_growBy_24 : decode cX4_growBy 24 = .ok (.iconst 0, 1) := by decide +kernel
theorem dX4_growBy_25 : decode cX4_growBy 25 = .ok (.invokevirtual 66, 3) := by decide +kernel
theorem dX4_growBy_28 : decode cX4_growBy 28 = .ok (.iload_n 1, 1) := by decide +kernel
theorem dX4_growBy_29 : decode cX4_growBy 29 = .ok (.iadd, 1) := by decide +kernel
theorem dX4_growBy_30 : decode cX4_growBy 30 = .ok (.bipush 120, 2) := by decide +kernel
theorem dX4_growBy_32 : decode cX4_growBy 32 = .ok (.invokestatic 70, 3) := by decide +kernel
theorem dX4_growBy_35 : decode cX4_growBy 35 = .ok (.invokevirtual 58, 3) := by decide +kernel
theorem dX4_growBy_38 : decode cX4_growBy 38 = .ok (.iinc 2 1, 3) := by decide +kernel
theorem dX4_growBy_41 : decode cX4_growBy 41 = .ok (.goto (-39), 3) := by decide +kernel
theorem dX4_growBy_44 : decode cX4_growBy 44 = .ok (.return_, 1) := by decide +kernel
set_option maxRecDepth 20000 in
theorem ggX4_teachNow_X2_at : GoodIn wsX4_teachNow wsX2_at := goodIn_r _ [7, 8, 9, 10, 21, 22, 23, 24] (by decide +kernel) (by decide +kernel)
set_option maxRecDepth 20000 in
theorem gX4_teachNow_X2_at : GoodIn wsX4_teachNow (wsV RX4 66 RX2 yX2_at wsX2_at) := goodIn_app (goodIn_of _ (by decide +kernel)) ggX4_teachNow_X2_at
set_option maxRecDepth 20000 in
theorem ggX4_teachNow_X2_put : GoodIn wsX4_teachNow wsX2_put := goodIn_r _ [14, 8, 9, 10, 21, 22, 23, 24] (by decide +kernel) (by decide +kernel)
set_option maxRecDepth 20000 in
theorem gX4_teachNow_X2_put : GoodIn wsX4_teachNow (wsV RX4 58 RX2 yX2_put wsX2_put) := goodIn_app (goodIn_of _ (by decide +kernel)) ggX4_teachNow_X2_put
theorem dX4_teachNow_0 : decode cX4_teachNow 0 = .ok (.aload_n 0, 1) := by decide +kernel
theorem dX4_teachNow_1 : decode cX4_teachNow 1 = .ok (.getfield 14, 3) := by decide +kernel
theorem dX4_teachNow_4 : decode cX4_teachNow 4 = .ok (.iload_n 1, 1) := by decide +kernel
theorem dX4_teachNow_5 : decode cX4_teachNow 5 = .ok (.iconst 1, 1) := by decide +kernel
theorem dX4_teachNow_6 : decode cX4_teachNow 6 = .ok (.iload_n 2, 1) := by decide +kernel
theorem dX4_teachNow_7 : decode cX4_teachNow 7 = .ok (.iadd, 1) := by decide +kernel
theorem dX4_teachNow_8 : decode cX4_teachNow 8 = .ok (.invokevirtual 66, 3) := by decide +kernel
theorem dX4_teachNow_11 : decode cX4_teachNow 11 = .ok (.ldc 62, 2) := by decide +kernel
theorem dX4_teachNow_13 : decode cX4_teachNow 13 = .ok (.if_icmp .eq 5, 3) := by decide +kernel
theorem dX4_teachNow_16 : decode cX4_teachNow 16 = .ok (.iconst 0, 1) := by decide +kernel
theorem dX4_teachNow_17 : decode cX4_teachNow 17 = .ok (.ireturn, 1) := by decide +kernel
theorem dX4_teachNow_18 : decode cX4_teachNow 18 = .ok (.aload_n 0, 1) := by decide +kernel
theorem dX4_teachNow_19 : decode cX4_teachNow 19 = .ok (.getfield 14, 3) := by decide +kernel
theorem dX4_teachNow_22 : decode cX4_teachNow 22 = .ok (.iload_n 1, 1) := by decide +kernel
theorem dX4_teachNow_23 : decode cX4_teachNow 23 = .ok (.iconst 1, 1) := by decide +kernel
theorem dX4_teachNow_24 : decode cX4_teachNow 24 = .ok (.iload_n 2, 1) := by decide +kernel
theorem dX4_teachNow_25 : decode cX4_teachNow 25 = .ok (.iadd, 1) := by decide +kernel
theorem dX4_teachNow_26 : decode cX4_teachNow 26 = .ok (.aload_n 0, 1) := by decide +kernel
theorem dX4_teachNow_27 : decode cX4_teachNow 27 = .ok (.getfield 14, 3) := by decide +kernel
theorem dX4_teachNow_30 : decode cX4_teachNow 30 = .ok (.iload_n 1, 1) := by decide +kernel
theorem dX4_teachNow_31 : decode cX4_teachNow 31 = .ok (.iconst 0, 1) := by decide +kernel
theorem dX4_teachNow_32 : decode cX4_teachNow 32 = .ok (.invokevirtual 66, 3) := by decide +kernel
theorem dX4_teachNow_35 : decode cX4_teachNow 35 = .ok (.invokevirtual 58, 3) := by decide +kernel
theorem dX4_teachNow_38 : decode cX4_teachNow 38 = .ok (.iconst 1, 1) := by decide +kernel
theorem dX4_teachNow_39 : decode cX4_teachNow 39 = .ok (.ireturn, 1) := by decide +kernel
set_option maxRecDepth 20000 in
theorem ggX4_isTaughtSome_X2_at : GoodIn wsX4_isTaughtSome wsX2_at := goodIn_r _ [7, 8, 9, 10, 17, 18, 19, 20] (by decide +kernel) (by decide +kernel)
set_option maxRecDepth 20000 in
theorem gX4_isTaughtSome_X2_at : GoodIn wsX4_isTaughtSome (wsV RX4 66 RX2 yX2_at wsX2_at) := goodIn_app (goodIn_of _ (by decide +kernel)) ggX4_isTaughtSome_X2_at
theorem dX4_isTaughtSome_0 : decode cX4_isTaughtSome 0 = .ok (.iconst 0, 1) := by decide +kernel
theorem dX4_isTaughtSome_1 : decode cX4_isTaughtSome 1 = .ok (.istore_n 2, 1) := by decide +kernel
theorem dX4_isTaughtSome_2 : decode cX4_isTaughtSome 2 = .ok (.iload_n 2, 1) := by decide +kernel
theorem dX4_isTaughtSome_3 : decode cX4_isTaughtSome 3 = .ok (.iconst 4, 1) := by decide +kernel
theorem dX4_isTaughtSome_4 : decode cX4_isTaughtSome 4 = .ok (.if_icmp .ge 27, 3) := by decide +kernel
theorem dX4_isTaughtSome_7 : decode cX4_isTaughtSome 7 = .ok (.aload_n 0, 1) := by decide +kernel
theorem dX4_isTaughtSome_8 : decode cX4_isTaughtSome 8 = .ok (.getfield 14, 3) := by decide +kernel
theorem dX4_isTaughtSome_11 : decode cX4_isTaughtSome 11 = .ok (.iload_n 1, 1) := by decide +kernel
theorem dX4_isTaughtSome_12 : decode cX4_isTaughtSome 12 = .ok (.iconst 1, 1) := by decide +kernel
theorem dX4_isTaughtSome_13 : decode cX4_isTaughtSome 13 = .ok (.iload_n 2, 1) := by decide +kernel
theorem dX4_isTaughtSome_14 : decode cX4_isTaughtSome 14 = .ok (.iadd, 1) := by decide +kernel
theorem dX4_isTaughtSome_15 : decode cX4_isTaughtSome 15 = .ok (.invokevirtual 66, 3) := by decide +kernel
theorem dX4_isTaughtSome_18 : decode cX4_isTaughtSome 18 = .ok (.ldc 62, 2) := by decide +kernel
theorem dX4_isTaughtSome_20 : decode cX4_isTaughtSome 20 = .ok (.if_icmp .eq 5, 3) := by decide +kernel
theorem dX4_isTaughtSome_23 : decode cX4_isTaughtSome 23 = .ok (.iconst 1, 1) := by decide +kernel
theorem dX4_isTaughtSome_24 : decode cX4_isTaughtSome 24 = .ok (.ireturn, 1) := by decide +kernel
theorem dX4_isTaughtSome_25 : decode cX4_isTaughtSome 25 = .ok (.iinc 2 1, 3) := by decide +kernel
theorem dX4_isTaughtSome_28 : decode cX4_isTaughtSome 28 = .ok (.goto (-26), 3) := by decide +kernel
theorem dX4_isTaughtSome_31 : decode cX4_isTaughtSome 31 = .ok (.iconst 0, 1) := by decide +kernel
theorem dX4_isTaughtSome_32 : decode cX4_isTaughtSome 32 = .ok (.ireturn, 1) := by decide +kernel
set_option maxRecDepth 20000 in
theorem ggX4_keptAt_X2_at : GoodIn wsX4_keptAt wsX2_at := goodIn_r _ [9, 10, 11, 12, 27, 28, 29, 30] (by decide +kernel) (by decide +kernel)
set_option maxRecDepth 20000 in
theorem gX4_keptAt_X2_at : GoodIn wsX4_keptAt (wsV RX4 66 RX2 yX2_at wsX2_at) := goodIn_app (goodIn_of _ (by decide +kernel)) ggX4_keptAt_X2_at
theorem dX4_keptAt_0 : decode cX4_keptAt 0 = .ok (.iconst 0, 1) := by decide +kernel
theorem dX4_keptAt_1 : decode cX4_keptAt 1 = .ok (.istore 4, 2) := by decide +kernel
theorem dX4_keptAt_3 : decode cX4_keptAt 3 = .ok (.iconst 0, 1) := by decide +kernel
theorem dX4_keptAt_4 : decode cX4_keptAt 4 = .ok (.istore 5, 2) := by decide +kernel
theorem dX4_keptAt_6 : decode cX4_keptAt 6 = .ok (.iload 5, 2) := by decide +kernel
theorem dX4_keptAt_8 : decode cX4_keptAt 8 = .ok (.iconst 4, 1) := by decide +kernel
theorem dX4_keptAt_9 : decode cX4_keptAt 9 = .ok (.if_icmp .ge 45, 3) := by decide +kernel
theorem dX4_keptAt_12 : decode cX4_keptAt 12 = .ok (.iload_n 3, 1) := by decide +kernel
theorem dX4_keptAt_13 : decode cX4_keptAt 13 = .ok (.aload_n 1, 1) := by decide +kernel
theorem dX4_keptAt_14 : decode cX4_keptAt 14 = .ok (.getfield 75, 3) := by decide +kernel
theorem dX4_keptAt_17 : decode cX4_keptAt 17 = .ok (.iload 5, 2) := by decide +kernel
theorem dX4_keptAt_19 : decode cX4_keptAt 19 = .ok (.iaload, 1) := by decide +kernel
theorem dX4_keptAt_20 : decode cX4_keptAt 20 = .ok (.if_icmp .ge 19, 3) := by decide +kernel
theorem dX4_keptAt_23 : decode cX4_keptAt 23 = .ok (.aload_n 0, 1) := by decide +kernel
theorem dX4_keptAt_24 : decode cX4_keptAt 24 = .ok (.getfield 14, 3) := by decide +kernel
theorem dX4_keptAt_27 : decode cX4_keptAt 27 = .ok (.iload_n 2, 1) := by decide +kernel
theorem dX4_keptAt_28 : decode cX4_keptAt 28 = .ok (.iconst 1, 1) := by decide +kernel
theorem dX4_keptAt_29 : decode cX4_keptAt 29 = .ok (.iload 5, 2) := by decide +kernel
theorem dX4_keptAt_31 : decode cX4_keptAt 31 = .ok (.iadd, 1) := by decide +kernel
theorem dX4_keptAt_32 : decode cX4_keptAt 32 = .ok (.invokevirtual 66, 3) := by decide +kernel
theorem dX4_keptAt_35 : decode cX4_keptAt 35 = .ok (.iload_n 3, 1) := by decide +kernel
theorem dX4_keptAt_36 : decode cX4_keptAt 36 = .ok (.if_icmp .gt 12, 3) := by decide +kernel
theorem dX4_keptAt_39 : decode cX4_keptAt 39 = .ok (.iload 4, 2) := by decide +kernel
theorem dX4_keptAt_41 : decode cX4_keptAt 41 = .ok (.iconst 1, 1) := by decide +kernel
theorem dX4_keptAt_42 : decode cX4_keptAt 42 = .ok (.iload 5, 2) := by decide +kernel
theorem dX4_keptAt_44 : decode cX4_keptAt 44 = .ok (.ishl, 1) := by decide +kernel
theorem dX4_keptAt_45 : decode cX4_keptAt 45 = .ok (.ior, 1) := by decide +kernel
theorem dX4_keptAt_46 : decode cX4_keptAt 46 = .ok (.istore 4, 2) := by decide +kernel
theorem dX4_keptAt_48 : decode cX4_keptAt 48 = .ok (.iinc 5 1, 3) := by decide +kernel
theorem dX4_keptAt_51 : decode cX4_keptAt 51 = .ok (.goto (-45), 3) := by decide +kernel
theorem dX4_keptAt_54 : decode cX4_keptAt 54 = .ok (.iconst 0, 1) := by decide +kernel
theorem dX4_keptAt_55 : decode cX4_keptAt 55 = .ok (.istore 5, 2) := by decide +kernel
theorem dX4_keptAt_57 : decode cX4_keptAt 57 = .ok (.iload 5, 2) := by decide +kernel
theorem dX4_keptAt_59 : decode cX4_keptAt 59 = .ok (.aload_n 1, 1) := by decide +kernel
theorem dX4_keptAt_60 : decode cX4_keptAt 60 = .ok (.getfield 79, 3) := by decide +kernel
theorem dX4_keptAt_63 : decode cX4_keptAt 63 = .ok (.getfield 63, 3) := by decide +kernel
theorem dX4_keptAt_66 : decode cX4_keptAt 66 = .ok (.if_icmp .ge 65, 3) := by decide +kernel
theorem dX4_keptAt_69 : decode cX4_keptAt 69 = .ok (.aload_n 0, 1) := by decide +kernel
theorem dX4_keptAt_70 : decode cX4_keptAt 70 = .ok (.getfield 14, 3) := by decide +kernel
theorem dX4_keptAt_73 : decode cX4_keptAt 73 = .ok (.iload_n 2, 1) := by decide +kernel
theorem dX4_keptAt_74 : decode cX4_keptAt 74 = .ok (.iconst 1, 1) := by decide +kernel
theorem dX4_keptAt_75 : decode cX4_keptAt 75 = .ok (.aload_n 1, 1) := by decide +kernel
theorem dX4_keptAt_76 : decode cX4_keptAt 76 = .ok (.getfield 79, 3) := by decide +kernel
theorem dX4_keptAt_79 : decode cX4_keptAt 79 = .ok (.iload 5, 2) := by decide +kernel
theorem dX4_keptAt_81 : decode cX4_keptAt 81 = .ok (.iconst 0, 1) := by decide +kernel
theorem dX4_keptAt_82 : decode cX4_keptAt 82 = .ok (.invokevirtual 66, 3) := by decide +kernel
theorem dX4_keptAt_85 : decode cX4_keptAt 85 = .ok (.iadd, 1) := by decide +kernel
theorem dX4_keptAt_86 : decode cX4_keptAt 86 = .ok (.invokevirtual 66, 3) := by decide +kernel
theorem dX4_keptAt_89 : decode cX4_keptAt 89 = .ok (.istore 6, 2) := by decide +kernel
theorem dX4_keptAt_91 : decode cX4_keptAt 91 = .ok (.iload 6, 2) := by decide +kernel
theorem dX4_keptAt_93 : decode cX4_keptAt 93 = .ok (.iload_n 3, 1) := by decide +kernel
theorem dX4_keptAt_94 : decode cX4_keptAt 94 = .ok (.aload_n 1, 1) := by decide +kernel
theorem dX4_keptAt_95 : decode cX4_keptAt 95 = .ok (.getfield 79, 3) := by decide +kernel
theorem dX4_keptAt_98 : decode cX4_keptAt 98 = .ok (.iload 5, 2) := by decide +kernel
theorem dX4_keptAt_100 : decode cX4_keptAt 100 = .ok (.iconst 2, 1) := by decide +kernel
theorem dX4_keptAt_101 : decode cX4_keptAt 101 = .ok (.invokevirtual 66, 3) := by decide +kernel
theorem dX4_keptAt_104 : decode cX4_keptAt 104 = .ok (.isub, 1) := by decide +kernel
theorem dX4_keptAt_105 : decode cX4_keptAt 105 = .ok (.if_icmp .gt 20, 3) := by decide +kernel
theorem dX4_keptAt_108 : decode cX4_keptAt 108 = .ok (.iload 4, 2) := by decide +kernel
theorem dX4_keptAt_110 : decode cX4_keptAt 110 = .ok (.iconst 1, 1) := by decide +kernel
theorem dX4_keptAt_111 : decode cX4_keptAt 111 = .ok (.aload_n 1, 1) := by decide +kernel
theorem dX4_keptAt_112 : decode cX4_keptAt 112 = .ok (.getfield 79, 3) := by decide +kernel
theorem dX4_keptAt_115 : decode cX4_keptAt 115 = .ok (.iload 5, 2) := by decide +kernel
theorem dX4_keptAt_117 : decode cX4_keptAt 117 = .ok (.iconst 1, 1) := by decide +kernel
theorem dX4_keptAt_118 : decode cX4_keptAt 118 = .ok (.invokevirtual 66, 3) := by decide +kernel
theorem dX4_keptAt_121 : decode cX4_keptAt 121 = .ok (.ishl, 1) := by decide +kernel
theorem dX4_keptAt_122 : decode cX4_keptAt 122 = .ok (.ior, 1) := by decide +kernel
theorem dX4_keptAt_123 : decode cX4_keptAt 123 = .ok (.istore 4, 2) := by decide +kernel
theorem dX4_keptAt_125 : decode cX4_keptAt 125 = .ok (.iinc 5 1, 3) := by decide +kernel
theorem dX4_keptAt_128 : decode cX4_keptAt 128 = .ok (.goto (-71), 3) := by decide +kernel
theorem dX4_keptAt_131 : decode cX4_keptAt 131 = .ok (.iload 4, 2) := by decide +kernel
theorem dX4_keptAt_133 : decode cX4_keptAt 133 = .ok (.ireturn, 1) := by decide +kernel
set_option maxRecDepth 20000 in
theorem ggX4_toldNow_X2_at : GoodIn wsX4_toldNow wsX2_at := goodIn_r _ [6, 7, 8, 9, 68, 69, 70, 71] (by decide +kernel) (by decide +kernel)
set_option maxRecDepth 20000 in
theorem gX4_toldNow_X2_at : GoodIn wsX4_toldNow (wsV RX4 66 RX2 yX2_at wsX2_at) := goodIn_app (goodIn_of _ (by decide +kernel)) ggX4_toldNow_X2_at
set_option maxRecDepth 20000 in
theorem ggX4_toldNow_X4_toldAt : GoodIn wsX4_toldNow wsX4_toldAt := goodIn_r _ [14, 15, 16, 17, 18, 19, 13, 20, 21, 22, 23, 24, 25, 26, 27, 28, 29, 30, 31, 32, 33, 3, 4, 5, 6, 7, 8, 9, 34, 35, 36, 37, 38, 39, 40, 41, 1, 42, 43, 2, 44, 45, 46, 47, 48, 49, 50, 51, 52, 53, 54, 55, 56, 57, 58, 59, 60, 61, 62, 63, 64, 65, 66, 67, 72, 73, 74, 75, 76, 77, 78, 79, 68, 69, 70, 71] (by decide +kernel) (by decide +kernel)
set_option maxRecDepth 20000 in
theorem gX4_toldNow_X4_toldAt : GoodIn wsX4_toldNow (wsV RX4 82 RX4 yX4_toldAt wsX4_toldAt) := goodIn_app (goodIn_of _ (by decide +kernel)) ggX4_toldNow_X4_toldAt
theorem dX4_toldNow_0 : decode cX4_toldNow 0 = .ok (.aload_n 0, 1) := by decide +kernel
theorem dX4_toldNow_1 : decode cX4_toldNow 1 = .ok (.iload_n 1, 1) := by decide +kernel
theorem dX4_toldNow_2 : decode cX4_toldNow 2 = .ok (.iload_n 2, 1) := by decide +kernel
theorem dX4_toldNow_3 : decode cX4_toldNow 3 = .ok (.iload_n 3, 1) := by decide +kernel
theorem dX4_toldNow_4 : decode cX4_toldNow 4 = .ok (.aload_n 0, 1) := by decide +kernel
theorem dX4_toldNow_5 : decode cX4_toldNow 5 = .ok (.getfield 14, 3) := by decide +kernel
theorem dX4_toldNow_8 : decode cX4_toldNow 8 = .ok (.iload_n 2, 1) := by decide +kernel
theorem dX4_toldNow_9 : decode cX4_toldNow 9 = .ok (.iconst 0, 1) := by decide +kernel
theorem dX4_toldNow_10 : decode cX4_toldNow 10 = .ok (.invokevirtual 66, 3) := by decide +kernel
theorem dX4_toldNow_13 : decode cX4_toldNow 13 = .ok (.invokevirtual 82, 3) := by decide +kernel
theorem dX4_toldNow_16 : decode cX4_toldNow 16 = .ok (.ireturn, 1) := by decide +kernel
set_option maxRecDepth 20000 in
theorem ggX4_toldAt_X4_hasLaw : GoodIn wsX4_toldAt wsX4_hasLaw := goodIn_r _ [7, 8, 58, 59, 60, 61, 62, 63] (by decide +kernel) (by decide +kernel)
set_option maxRecDepth 20000 in
theorem gX4_toldAt_X4_hasLaw : GoodIn wsX4_toldAt (wsV RX4 86 RX4 yX4_hasLaw wsX4_hasLaw) := goodIn_app (goodIn_of _ (by decide +kernel)) ggX4_toldAt_X4_hasLaw
set_option maxRecDepth 20000 in
theorem ggX4_toldAt_X1_firstSaid : GoodIn wsX4_toldAt wsX1_firstSaid := goodIn_r _ [13, 14, 15, 16, 17, 18, 12, 19, 20, 21, 22, 23, 24, 25, 26, 27, 28, 29, 30, 64, 65, 66, 67, 68, 69, 70, 71, 72, 73, 74, 75] (by decide +kernel) (by decide +kernel)
set_option maxRecDepth 20000 in
theorem gX4_toldAt_X1_firstSaid : GoodIn wsX4_toldAt (wsV RX4 90 RX1 yX1_firstSaid wsX1_firstSaid) := goodIn_app (goodIn_of _ (by decide +kernel)) ggX4_toldAt_X1_firstSaid
set_option maxRecDepth 20000 in
theorem ggX4_toldAt_X4_keptAt : GoodIn wsX4_toldAt wsX4_keptAt := goodIn_r _ [34, 35, 36, 37, 38, 39, 21, 22, 23, 24, 25, 26, 27, 64, 65, 66, 67, 68, 69, 70, 71, 58, 59, 60, 61, 62, 63, 72, 73, 74, 75] (by decide +kernel) (by decide +kernel)
set_option maxRecDepth 20000 in
theorem gX4_toldAt_X4_keptAt : GoodIn wsX4_toldAt (wsV RX4 94 RX4 yX4_keptAt wsX4_keptAt) := goodIn_app (goodIn_of _ (by decide +kernel)) ggX4_toldAt_X4_keptAt
set_option maxRecDepth 20000 in
theorem ggX4_toldAt_X4_toldByKind : GoodIn wsX4_toldAt wsX4_toldByKind := goodIn_r _ [43, 2, 44, 45, 39, 21, 22, 23, 24, 25, 26, 27, 46, 47, 48, 6, 49, 50, 51, 52, 53, 54, 55, 56, 57, 58, 59, 60, 61, 62, 63, 64, 65, 66, 67, 68, 69, 70, 71, 72, 73, 74, 75] (by decide +kernel) (by decide +kernel)
set_option maxRecDepth 20000 in
theorem gX4_toldAt_X4_toldByKind : GoodIn wsX4_toldAt (wsV RX4 98 RX4 yX4_toldByKind wsX4_toldByKind) := goodIn_app (goodIn_of _ (by decide +kernel)) ggX4_toldAt_X4_toldByKind
theorem dX4_toldAt_0 : decode cX4_toldAt 0 = .ok (.aload_n 0, 1) := by decide +kernel
theorem dX4_toldAt_1 : decode cX4_toldAt 1 = .ok (.iload_n 1, 1) := by decide +kernel
theorem dX4_toldAt_2 : decode cX4_toldAt 2 = .ok (.invokevirtual 86, 3) := by decide +kernel
theorem dX4_toldAt_5 : decode cX4_toldAt 5 = .ok (.ifCond .ne 5, 3) := by decide +kernel
theorem dX4_toldAt_8 : decode cX4_toldAt 8 = .ok (.iconst 1, 1) := by decide +kernel
theorem dX4_toldAt_9 : decode cX4_toldAt 9 = .ok (.ireturn, 1) := by decide +kernel
theorem dX4_toldAt_10 : decode cX4_toldAt 10 = .ok (.aload_n 0, 1) := by decide +kernel
theorem dX4_toldAt_11 : decode cX4_toldAt 11 = .ok (.getfield 35, 3) := by decide +kernel
theorem dX4_toldAt_14 : decode cX4_toldAt 14 = .ok (.iload_n 1, 1) := by decide +kernel
theorem dX4_toldAt_15 : decode cX4_toldAt 15 = .ok (.aaload, 1) := by decide +kernel
theorem dX4_toldAt_16 : decode cX4_toldAt 16 = .ok (.aload_n 0, 1) := by decide +kernel
theorem dX4_toldAt_17 : decode cX4_toldAt 17 = .ok (.getfield 20, 3) := by decide +kernel
theorem dX4_toldAt_20 : decode cX4_toldAt 20 = .ok (.iload_n 3, 1) := by decide +kernel
theorem dX4_toldAt_21 : decode cX4_toldAt 21 = .ok (.iload 4, 2) := by decide +kernel
theorem dX4_toldAt_23 : decode cX4_toldAt 23 = .ok (.invokevirtual 90, 3) := by decide +kernel
theorem dX4_toldAt_26 : decode cX4_toldAt 26 = .ok (.istore 5, 2) := by decide +kernel
theorem dX4_toldAt_28 : decode cX4_toldAt 28 = .ok (.iload 5, 2) := by decide +kernel
theorem dX4_toldAt_30 : decode cX4_toldAt 30 = .ok (.ifCond .lt 8, 3) := by decide +kernel
theorem dX4_toldAt_33 : decode cX4_toldAt 33 = .ok (.iload 5, 2) := by decide +kernel
theorem dX4_toldAt_35 : decode cX4_toldAt 35 = .ok (.goto 29, 3) := by decide +kernel
theorem dX4_toldAt_38 : decode cX4_toldAt 38 = .ok (.aload_n 0, 1) := by decide +kernel
theorem dX4_toldAt_39 : decode cX4_toldAt 39 = .ok (.aload_n 0, 1) := by decide +kernel
theorem dX4_toldAt_40 : decode cX4_toldAt 40 = .ok (.getfield 35, 3) := by decide +kernel
theorem dX4_toldAt_43 : decode cX4_toldAt 43 = .ok (.iload_n 1, 1) := by decide +kernel
theorem dX4_toldAt_44 : decode cX4_toldAt 44 = .ok (.aaload, 1) := by decide +kernel
theorem dX4_toldAt_45 : decode cX4_toldAt 45 = .ok (.aload_n 0, 1) := by decide +kernel
theorem dX4_toldAt_46 : decode cX4_toldAt 46 = .ok (.aload_n 0, 1) := by decide +kernel
theorem dX4_toldAt_47 : decode cX4_toldAt 47 = .ok (.getfield 35, 3) := by decide +kernel
theorem dX4_toldAt_50 : decode cX4_toldAt 50 = .ok (.iload_n 1, 1) := by decide +kernel
theorem dX4_toldAt_51 : decode cX4_toldAt 51 = .ok (.aaload, 1) := by decide +kernel
theorem dX4_toldAt_52 : decode cX4_toldAt 52 = .ok (.iload_n 2, 1) := by decide +kernel
theorem dX4_toldAt_53 : decode cX4_toldAt 53 = .ok (.iload 4, 2) := by decide +kernel
theorem dX4_toldAt_55 : decode cX4_toldAt 55 = .ok (.invokevirtual 94, 3) := by decide +kernel
theorem dX4_toldAt_58 : decode cX4_toldAt 58 = .ok (.iload_n 3, 1) := by decide +kernel
theorem dX4_toldAt_59 : decode cX4_toldAt 59 = .ok (.iload 4, 2) := by decide +kernel
theorem dX4_toldAt_61 : decode cX4_toldAt 61 = .ok (.invokevirtual 98, 3) := by decide +kernel
theorem dX4_toldAt_64 : decode cX4_toldAt 64 = .ok (.ireturn, 1) := by decide +kernel
set_option maxRecDepth 20000 in
theorem ggX4_toldByKind_X2_at : GoodIn wsX4_toldByKind wsX2_at := goodIn_r _ [8, 9, 10, 11, 39, 40, 41, 42] (by decide +kernel) (by decide +kernel)
set_option maxRecDepth 20000 in
theorem gX4_toldByKind_X2_at : GoodIn wsX4_toldByKind (wsV RX4 66 RX2 yX2_at wsX2_at) := goodIn_app (goodIn_of _ (by decide +kernel)) ggX4_toldByKind_X2_at
set_option maxRecDepth 20000 in
theorem ggX4_toldByKind_X4_asLooks : GoodIn wsX4_toldByKind wsX4_asLooks := goodIn_r _ [16, 1, 17, 18, 19, 20, 4, 5, 6, 7, 8, 9, 10, 11, 25, 26, 27, 28, 29, 30, 39, 40, 41, 42] (by decide +kernel) (by decide +kernel)
set_option maxRecDepth 20000 in
theorem gX4_toldByKind_X4_asLooks : GoodIn wsX4_toldByKind (wsV RX4 105 RX4 yX4_asLooks wsX4_asLooks) := goodIn_app (goodIn_of _ (by decide +kernel)) ggX4_toldByKind_X4_asLooks
set_option maxRecDepth 20000 in
theorem ggX4_toldByKind_X4_isPressed : GoodIn wsX4_toldByKind wsX4_isPressed := goodIn_r _ [24, 1, 4, 5, 6, 7, 8, 9, 10, 11, 25, 26, 27, 28, 29, 30, 39, 40, 41, 42] (by decide +kernel) (by decide +kernel)
set_option maxRecDepth 20000 in
theorem gX4_toldByKind_X4_isPressed : GoodIn wsX4_toldByKind (wsV RX4 111 RX4 yX4_isPressed wsX4_isPressed) := goodIn_app (goodIn_of _ (by decide +kernel)) ggX4_toldByKind_X4_isPressed
theorem dX4_toldByKind_0 : decode cX4_toldByKind 0 = .ok (.iconst 1, 1) := by decide +kernel
theorem dX4_toldByKind_1 : decode cX4_toldByKind 1 = .ok (.aload_n 0, 1) := by decide +kernel
theorem dX4_toldByKind_2 : decode cX4_toldByKind 2 = .ok (.getfield 20, 3) := by decide +kernel
theorem dX4_toldByKind_5 : decode cX4_toldByKind 5 = .ok (.iload_n 3, 1) := by decide +kernel
theorem dX4_toldByKind_6 : decode cX4_toldByKind 6 = .ok (.iconst 0, 1) := by decide +kernel
theorem dX4_toldByKind_7 : decode cX4_toldByKind 7 = .ok (.invokevirtual 66, 3) := by decide +kernel
theorem dX4_toldByKind_10 : decode cX4_toldByKind 10 = .ok (.ishl, 1) := by decide +kernel
theorem dX4_toldByKind_11 : decode cX4_toldByKind 11 = .ok (.istore 5, 2) := by decide +kernel
theorem dX4_toldByKind_13 : decode cX4_toldByKind 13 = .ok (.aload_n 1, 1) := by decide +kernel
theorem dX4_toldByKind_14 : decode cX4_toldByKind 14 = .ok (.getfield 102, 3) := by decide +kernel
theorem dX4_toldByKind_17 : decode cX4_toldByKind 17 = .ok (.bipush 6, 2) := by decide +kernel
theorem dX4_toldByKind_19 : decode cX4_toldByKind 19 = .ok (.if_icmp .ne 12, 3) := by decide +kernel
theorem dX4_toldByKind_22 : decode cX4_toldByKind 22 = .ok (.iload 5, 2) := by decide +kernel
theorem dX4_toldByKind_24 : decode cX4_toldByKind 24 = .ok (.iload 5, 2) := by decide +kernel
theorem dX4_toldByKind_26 : decode cX4_toldByKind 26 = .ok (.iconst 1, 1) := by decide +kernel
theorem dX4_toldByKind_27 : decode cX4_toldByKind 27 = .ok (.isub, 1) := by decide +kernel
theorem dX4_toldByKind_28 : decode cX4_toldByKind 28 = .ok (.ior, 1) := by decide +kernel
theorem dX4_toldByKind_29 : decode cX4_toldByKind 29 = .ok (.istore 5, 2) := by decide +kernel
theorem dX4_toldByKind_31 : decode cX4_toldByKind 31 = .ok (.aload_n 0, 1) := by decide +kernel
theorem dX4_toldByKind_32 : decode cX4_toldByKind 32 = .ok (.getfield 20, 3) := by decide +kernel
theorem dX4_toldByKind_35 : decode cX4_toldByKind 35 = .ok (.iload_n 3, 1) := by decide +kernel
theorem dX4_toldByKind_36 : decode cX4_toldByKind 36 = .ok (.bipush 6, 2) := by decide +kernel
theorem dX4_toldByKind_38 : decode cX4_toldByKind 38 = .ok (.invokevirtual 66, 3) := by decide +kernel
theorem dX4_toldByKind_41 : decode cX4_toldByKind 41 = .ok (.iconst 1, 1) := by decide +kernel
theorem dX4_toldByKind_42 : decode cX4_toldByKind 42 = .ok (.iadd, 1) := by decide +kernel
theorem dX4_toldByKind_43 : decode cX4_toldByKind 43 = .ok (.istore 6, 2) := by decide +kernel
theorem dX4_toldByKind_45 : decode cX4_toldByKind 45 = .ok (.aload_n 0, 1) := by decide +kernel
theorem dX4_toldByKind_46 : decode cX4_toldByKind 46 = .ok (.iload_n 3, 1) := by decide +kernel
theorem dX4_toldByKind_47 : decode cX4_toldByKind 47 = .ok (.iconst 1, 1) := by decide +kernel
theorem dX4_toldByKind_48 : decode cX4_toldByKind 48 = .ok (.invokevirtual 105, 3) := by decide +kernel
theorem dX4_toldByKind_51 : decode cX4_toldByKind 51 = .ok (.istore 7, 2) := by decide +kernel
theorem dX4_toldByKind_53 : decode cX4_toldByKind 53 = .ok (.iload_n 2, 1) := by decide +kernel
theorem dX4_toldByKind_54 : decode cX4_toldByKind 54 = .ok (.iload 5, 2) := by decide +kernel
theorem dX4_toldByKind_56 : decode cX4_toldByKind 56 = .ok (.iand, 1) := by decide +kernel
theorem dX4_toldByKind_57 : decode cX4_toldByKind 57 = .ok (.iload 5, 2) := by decide +kernel
theorem dX4_toldByKind_59 : decode cX4_toldByKind 59 = .ok (.if_icmp .ne 8, 3) := by decide +kernel
theorem dX4_toldByKind_62 : decode cX4_toldByKind 62 = .ok (.iload 6, 2) := by decide +kernel
theorem dX4_toldByKind_64 : decode cX4_toldByKind 64 = .ok (.goto 5, 3) := by decide +kernel
theorem dX4_toldByKind_67 : decode cX4_toldByKind 67 = .ok (.iload 7, 2) := by decide +kernel
theorem dX4_toldByKind_69 : decode cX4_toldByKind 69 = .ok (.istore 8, 2) := by decide +kernel
theorem dX4_toldByKind_71 : decode cX4_toldByKind 71 = .ok (.aload_n 1, 1) := by decide +kernel
theorem dX4_toldByKind_72 : decode cX4_toldByKind 72 = .ok (.getfield 102, 3) := by decide +kernel
theorem dX4_toldByKind_75 : decode cX4_toldByKind 75 = .ok (.tableswitch 142 1 6 #[37, 84, 120, 47, 87, 120], 37) := by decide +kernel
theorem dX4_toldByKind_112 : decode cX4_toldByKind 112 = .ok (.aload_n 0, 1) := by decide +kernel
theorem dX4_toldByKind_113 : decode cX4_toldByKind 113 = .ok (.iload_n 3, 1) := by decide +kernel
theorem dX4_toldByKind_114 : decode cX4_toldByKind 114 = .ok (.aload_n 1, 1) := by decide +kernel
theorem dX4_toldByKind_115 : decode cX4_toldByKind 115 = .ok (.getfield 108, 3) := by decide +kernel
theorem dX4_toldByKind_118 : decode cX4_toldByKind 118 = .ok (.invokevirtual 105, 3) := by decide +kernel
theorem dX4_toldByKind_121 : decode cX4_toldByKind 121 = .ok (.ireturn, 1) := by decide +kernel
theorem dX4_toldByKind_122 : decode cX4_toldByKind 122 = .ok (.aload_n 0, 1) := by decide +kernel
theorem dX4_toldByKind_123 : decode cX4_toldByKind 123 = .ok (.iload_n 3, 1) := by decide +kernel
theorem dX4_toldByKind_124 : decode cX4_toldByKind 124 = .ok (.aload_n 1, 1) := by decide +kernel
theorem dX4_toldByKind_125 : decode cX4_toldByKind 125 = .ok (.getfield 108, 3) := by decide +kernel
theorem dX4_toldByKind_128 : decode cX4_toldByKind 128 = .ok (.invokevirtual 105, 3) := by decide +kernel
theorem dX4_toldByKind_131 : decode cX4_toldByKind 131 = .ok (.istore 9, 2) := by decide +kernel
theorem dX4_toldByKind_133 : decode cX4_toldByKind 133 = .ok (.aload_n 0, 1) := by decide +kernel
theorem dX4_toldByKind_134 : decode cX4_toldByKind 134 = .ok (.getfield 20, 3) := by decide +kernel
theorem dX4_toldByKind_137 : decode cX4_toldByKind 137 = .ok (.iload_n 3, 1) := by decide +kernel
theorem dX4_toldByKind_138 : decode cX4_toldByKind 138 = .ok (.iconst 4, 1) := by decide +kernel
theorem dX4_toldByKind_139 : decode cX4_toldByKind 139 = .ok (.invokevirtual 66, 3) := by decide +kernel
theorem dX4_toldByKind_142 : decode cX4_toldByKind 142 = .ok (.aload_n 1, 1) := by decide +kernel
theorem dX4_toldByKind_143 : decode cX4_toldByKind 143 = .ok (.getfield 108, 3) := by decide +kernel
theorem dX4_toldByKind_146 : decode cX4_toldByKind 146 = .ok (.if_icmp .ne 10, 3) := by decide +kernel
theorem dX4_toldByKind_149 : decode cX4_toldByKind 149 = .ok (.iconst 2, 1) := by decide +kernel
theorem dX4_toldByKind_150 : decode cX4_toldByKind 150 = .ok (.iload 9, 2) := by decide +kernel
theorem dX4_toldByKind_152 : decode cX4_toldByKind 152 = .ok (.isub, 1) := by decide +kernel
theorem dX4_toldByKind_153 : decode cX4_toldByKind 153 = .ok (.goto 5, 3) := by decide +kernel
theorem dX4_toldByKind_156 : decode cX4_toldByKind 156 = .ok (.iload 9, 2) := by decide +kernel
theorem dX4_toldByKind_158 : decode cX4_toldByKind 158 = .ok (.ireturn, 1) := by decide +kernel
theorem dX4_toldByKind_159 : decode cX4_toldByKind 159 = .ok (.iload 8, 2) := by decide +kernel
theorem dX4_toldByKind_161 : decode cX4_toldByKind 161 = .ok (.ireturn, 1) := by decide +kernel
theorem dX4_toldByKind_162 : decode cX4_toldByKind 162 = .ok (.aload_n 0, 1) := by decide +kernel
theorem dX4_toldByKind_163 : decode cX4_toldByKind 163 = .ok (.getfield 20, 3) := by decide +kernel
theorem dX4_toldByKind_166 : decode cX4_toldByKind 166 = .ok (.iload_n 3, 1) := by decide +kernel
theorem dX4_toldByKind_167 : decode cX4_toldByKind 167 = .ok (.iconst 3, 1) := by decide +kernel
theorem dX4_toldByKind_168 : decode cX4_toldByKind 168 = .ok (.invokevirtual 66, 3) := by decide +kernel
theorem dX4_toldByKind_171 : decode cX4_toldByKind 171 = .ok (.iconst 1, 1) := by decide +kernel
theorem dX4_toldByKind_172 : decode cX4_toldByKind 172 = .ok (.if_icmp .ne 20, 3) := by decide +kernel
theorem dX4_toldByKind_175 : decode cX4_toldByKind 175 = .ok (.iload 4, 2) := by decide +kernel
theorem dX4_toldByKind_177 : decode cX4_toldByKind 177 = .ok (.bipush 6, 2) := by decide +kernel
theorem dX4_toldByKind_179 : decode cX4_toldByKind 179 = .ok (.aload_n 1, 1) := by decide +kernel
theorem dX4_toldByKind_180 : decode cX4_toldByKind 180 = .ok (.getfield 108, 3) := by decide +kernel
theorem dX4_toldByKind_183 : decode cX4_toldByKind 183 = .ok (.imul, 1) := by decide +kernel
theorem dX4_toldByKind_184 : decode cX4_toldByKind 184 = .ok (.if_icmp .lt 8, 3) := by decide +kernel
theorem dX4_toldByKind_187 : decode cX4_toldByKind 187 = .ok (.iload 6, 2) := by decide +kernel
theorem dX4_toldByKind_189 : decode cX4_toldByKind 189 = .ok (.goto 5, 3) := by decide +kernel
theorem dX4_toldByKind_192 : decode cX4_toldByKind 192 = .ok (.iload 8, 2) := by decide +kernel
theorem dX4_toldByKind_194 : decode cX4_toldByKind 194 = .ok (.ireturn, 1) := by decide +kernel
theorem dX4_toldByKind_195 : decode cX4_toldByKind 195 = .ok (.iload 8, 2) := by decide +kernel
theorem dX4_toldByKind_197 : decode cX4_toldByKind 197 = .ok (.iconst 1, 1) := by decide +kernel
theorem dX4_toldByKind_198 : decode cX4_toldByKind 198 = .ok (.if_icmp .ne 16, 3) := by decide +kernel
theorem dX4_toldByKind_201 : decode cX4_toldByKind 201 = .ok (.aload_n 0, 1) := by decide +kernel
theorem dX4_toldByKind_202 : decode cX4_toldByKind 202 = .ok (.iload_n 3, 1) := by decide +kernel
theorem dX4_toldByKind_203 : decode cX4_toldByKind 203 = .ok (.invokevirtual 111, 3) := by decide +kernel
theorem dX4_toldByKind_206 : decode cX4_toldByKind 206 = .ok (.ifCond .eq 8, 3) := by decide +kernel
theorem dX4_toldByKind_209 : decode cX4_toldByKind 209 = .ok (.iload 7, 2) := by decide +kernel
theorem dX4_toldByKind_211 : decode cX4_toldByKind 211 = .ok (.goto 5, 3) := by decide +kernel
theorem dX4_toldByKind_214 : decode cX4_toldByKind 214 = .ok (.iload 8, 2) := by decide +kernel
theorem dX4_toldByKind_216 : decode cX4_toldByKind 216 = .ok (.ireturn, 1) := by decide +kernel
theorem dX4_toldByKind_217 : decode cX4_toldByKind 217 = .ok (.iconst 1, 1) := by decide +kernel
theorem dX4_toldByKind_218 : decode cX4_toldByKind 218 = .ok (.ireturn, 1) := by decide +kernel
set_option maxRecDepth 20000 in
theorem ggX4_asLooks_X2_at : GoodIn wsX4_asLooks wsX2_at := goodIn_r _ [10, 11, 12, 13, 20, 21, 22, 23] (by decide +kernel) (by decide +kernel)
set_option maxRecDepth 20000 in
theorem gX4_asLooks_X2_at : GoodIn wsX4_asLooks (wsV RX4 66 RX2 yX2_at wsX2_at) := goodIn_app (goodIn_of _ (by decide +kernel)) ggX4_asLooks_X2_at
theorem dX4_asLooks_0 : decode cX4_asLooks 0 = .ok (.aload_n 0, 1) := by decide +kernel
theorem dX4_asLooks_1 : decode cX4_asLooks 1 = .ok (.getfield 20, 3) := by decide +kernel
theorem dX4_asLooks_4 : decode cX4_asLooks 4 = .ok (.iload_n 1, 1) := by decide +kernel
theorem dX4_asLooks_5 : decode cX4_asLooks 5 = .ok (.iconst 5, 1) := by decide +kernel
theorem dX4_asLooks_6 : decode cX4_asLooks 6 = .ok (.invokevirtual 66, 3) := by decide +kernel
theorem dX4_asLooks_9 : decode cX4_asLooks 9 = .ok (.istore_n 3, 1) := by decide +kernel
theorem dX4_asLooks_10 : decode cX4_asLooks 10 = .ok (.iload_n 3, 1) := by decide +kernel
theorem dX4_asLooks_11 : decode cX4_asLooks 11 = .ok (.iload_n 2, 1) := by decide +kernel
theorem dX4_asLooks_12 : decode cX4_asLooks 12 = .ok (.iconst 1, 1) := by decide +kernel
theorem dX4_asLooks_13 : decode cX4_asLooks 13 = .ok (.invokestatic 114, 3) := by decide +kernel
theorem dX4_asLooks_16 : decode cX4_asLooks 16 = .ok (.if_icmp .lt 5, 3) := by decide +kernel
theorem dX4_asLooks_19 : decode cX4_asLooks 19 = .ok (.iconst 2, 1) := by decide +kernel
theorem dX4_asLooks_20 : decode cX4_asLooks 20 = .ok (.ireturn, 1) := by decide +kernel
theorem dX4_asLooks_21 : decode cX4_asLooks 21 = .ok (.iload_n 3, 1) := by decide +kernel
theorem dX4_asLooks_22 : decode cX4_asLooks 22 = .ok (.iload_n 2, 1) := by decide +kernel
theorem dX4_asLooks_23 : decode cX4_asLooks 23 = .ok (.iconst 1, 1) := by decide +kernel
theorem dX4_asLooks_24 : decode cX4_asLooks 24 = .ok (.invokestatic 114, 3) := by decide +kernel
theorem dX4_asLooks_27 : decode cX4_asLooks 27 = .ok (.ineg, 1) := by decide +kernel
theorem dX4_asLooks_28 : decode cX4_asLooks 28 = .ok (.if_icmp .gt 7, 3) := by decide +kernel
theorem dX4_asLooks_31 : decode cX4_asLooks 31 = .ok (.iconst 0, 1) := by decide +kernel
theorem dX4_asLooks_32 : decode cX4_asLooks 32 = .ok (.goto 4, 3) := by decide +kernel
theorem dX4_asLooks_35 : decode cX4_asLooks 35 = .ok (.iconst 1, 1) := by decide +kernel
theorem dX4_asLooks_36 : decode cX4_asLooks 36 = .ok (.ireturn, 1) := by decide +kernel
set_option maxRecDepth 20000 in
theorem ggX4_isPressed_X2_at : GoodIn wsX4_isPressed wsX2_at := goodIn_r _ [6, 7, 8, 9, 16, 17, 18, 19] (by decide +kernel) (by decide +kernel)
set_option maxRecDepth 20000 in
theorem gX4_isPressed_X2_at : GoodIn wsX4_isPressed (wsV RX4 66 RX2 yX2_at wsX2_at) := goodIn_app (goodIn_of _ (by decide +kernel)) ggX4_isPressed_X2_at
theorem dX4_isPressed_0 : decode cX4_isPressed 0 = .ok (.aload_n 0, 1) := by decide +kernel
theorem dX4_isPressed_1 : decode cX4_isPressed 1 = .ok (.getfield 20, 3) := by decide +kernel
theorem dX4_isPressed_4 : decode cX4_isPressed 4 = .ok (.iload_n 1, 1) := by decide +kernel
theorem dX4_isPressed_5 : decode cX4_isPressed 5 = .ok (.iconst 1, 1) := by decide +kernel
theorem dX4_isPressed_6 : decode cX4_isPressed 6 = .ok (.invokevirtual 66, 3) := by decide +kernel
theorem dX4_isPressed_9 : decode cX4_isPressed 9 = .ok (.ifCond .ne 20, 3) := by decide +kernel
theorem dX4_isPressed_12 : decode cX4_isPressed 12 = .ok (.aload_n 0, 1) := by decide +kernel
theorem dX4_isPressed_13 : decode cX4_isPressed 13 = .ok (.getfield 20, 3) := by decide +kernel
theorem dX4_isPressed_16 : decode cX4_isPressed 16 = .ok (.iload_n 1, 1) := by decide +kernel
theorem dX4_isPressed_17 : decode cX4_isPressed 17 = .ok (.iconst 2, 1) := by decide +kernel
theorem dX4_isPressed_18 : decode cX4_isPressed 18 = .ok (.invokevirtual 66, 3) := by decide +kernel
theorem dX4_isPressed_21 : decode cX4_isPressed 21 = .ok (.iconst 2, 1) := by decide +kernel
theorem dX4_isPressed_22 : decode cX4_isPressed 22 = .ok (.if_icmp .ne 7, 3) := by decide +kernel
theorem dX4_isPressed_25 : decode cX4_isPressed 25 = .ok (.iconst 1, 1) := by decide +kernel
theorem dX4_isPressed_26 : decode cX4_isPressed 26 = .ok (.goto 4, 3) := by decide +kernel
theorem dX4_isPressed_29 : decode cX4_isPressed 29 = .ok (.iconst 0, 1) := by decide +kernel
theorem dX4_isPressed_30 : decode cX4_isPressed 30 = .ok (.ireturn, 1) := by decide +kernel
set_option maxRecDepth 20000 in
theorem ggX4_isAsTold_X2_at : GoodIn wsX4_isAsTold wsX2_at := goodIn_r _ [6, 7, 8, 9, 69, 70, 71, 72] (by decide +kernel) (by decide +kernel)
set_option maxRecDepth 20000 in
theorem gX4_isAsTold_X2_at : GoodIn wsX4_isAsTold (wsV RX4 66 RX2 yX2_at wsX2_at) := goodIn_app (goodIn_of _ (by decide +kernel)) ggX4_isAsTold_X2_at
set_option maxRecDepth 20000 in
theorem ggX4_isAsTold_X4_toldAt : GoodIn wsX4_isAsTold wsX4_toldAt := goodIn_r _ [14, 15, 16, 17, 18, 19, 13, 20, 21, 22, 23, 24, 25, 26, 27, 28, 29, 30, 31, 32, 33, 3, 4, 5, 6, 7, 8, 9, 34, 35, 36, 37, 38, 39, 40, 41, 42, 43, 44, 2, 45, 46, 47, 48, 49, 50, 51, 52, 53, 54, 55, 56, 57, 58, 59, 60, 61, 62, 63, 64, 65, 66, 67, 68, 73, 74, 75, 76, 77, 78, 79, 80, 69, 70, 71, 72] (by decide +kernel) (by decide +kernel)
set_option maxRecDepth 20000 in
theorem gX4_isAsTold_X4_toldAt : GoodIn wsX4_isAsTold (wsV RX4 82 RX4 yX4_toldAt wsX4_toldAt) := goodIn_app (goodIn_of _ (by decide +kernel)) ggX4_isAsTold_X4_toldAt
theorem dX4_isAsTold_0 : decode cX4_isAsTold 0 = .ok (.aload_n 0, 1) := by decide +kernel
theorem dX4_isAsTold_1 : decode cX4_isAsTold 1 = .ok (.iload_n 1, 1) := by decide +kernel
theorem dX4_isAsTold_2 : decode cX4_isAsTold 2 = .ok (.aload_n 0, 1) := by decide +kernel
theorem dX4_isAsTold_3 : decode cX4_isAsTold 3 = .ok (.getfield 23, 3) := by decide +kernel
theorem dX4_isAsTold_6 : decode cX4_isAsTold 6 = .ok (.iload_n 2, 1) := by decide +kernel
theorem dX4_isAsTold_7 : decode cX4_isAsTold 7 = .ok (.iconst 0, 1) := by decide +kernel
theorem dX4_isAsTold_8 : decode cX4_isAsTold 8 = .ok (.invokevirtual 66, 3) := by decide +kernel
theorem dX4_isAsTold_11 : decode cX4_isAsTold 11 = .ok (.aload_n 0, 1) := by decide +kernel
theorem dX4_isAsTold_12 : decode cX4_isAsTold 12 = .ok (.getfield 23, 3) := by decide +kernel
theorem dX4_isAsTold_15 : decode cX4_isAsTold 15 = .ok (.iload_n 2, 1) := by decide +kernel
theorem dX4_isAsTold_16 : decode cX4_isAsTold 16 = .ok (.iconst 1, 1) := by decide +kernel
theorem dX4_isAsTold_17 : decode cX4_isAsTold 17 = .ok (.invokevirtual 66, 3) := by decide +kernel
theorem dX4_isAsTold_20 : decode cX4_isAsTold 20 = .ok (.aload_n 0, 1) := by decide +kernel
theorem dX4_isAsTold_21 : decode cX4_isAsTold 21 = .ok (.getfield 23, 3) := by decide +kernel
theorem dX4_isAsTold_24 : decode cX4_isAsTold 24 = .ok (.iload_n 2, 1) := by decide +kernel
theorem dX4_isAsTold_25 : decode cX4_isAsTold 25 = .ok (.iconst 4, 1) := by decide +kernel
theorem dX4_isAsTold_26 : decode cX4_isAsTold 26 = .ok (.invokevirtual 66, 3) := by decide +kernel
theorem dX4_isAsTold_29 : decode cX4_isAsTold 29 = .ok (.invokevirtual 82, 3) := by decide +kernel
theorem dX4_isAsTold_32 : decode cX4_isAsTold 32 = .ok (.istore_n 3, 1) := by decide +kernel
theorem dX4_isAsTold_33 : decode cX4_isAsTold 33 = .ok (.iload_n 3, 1) := by decide +kernel
theorem dX4_isAsTold_34 : decode cX4_isAsTold 34 = .ok (.aload_n 0, 1) := by decide +kernel
theorem dX4_isAsTold_35 : decode cX4_isAsTold 35 = .ok (.getfield 23, 3) := by decide +kernel
theorem dX4_isAsTold_38 : decode cX4_isAsTold 38 = .ok (.iload_n 2, 1) := by decide +kernel
theorem dX4_isAsTold_39 : decode cX4_isAsTold 39 = .ok (.iconst 2, 1) := by decide +kernel
theorem dX4_isAsTold_40 : decode cX4_isAsTold 40 = .ok (.invokevirtual 66, 3) := by decide +kernel
theorem dX4_isAsTold_43 : decode cX4_isAsTold 43 = .ok (.if_icmp .ne 7, 3) := by decide +kernel
theorem dX4_isAsTold_46 : decode cX4_isAsTold 46 = .ok (.iconst 1, 1) := by decide +kernel
theorem dX4_isAsTold_47 : decode cX4_isAsTold 47 = .ok (.goto 4, 3) := by decide +kernel
theorem dX4_isAsTold_50 : decode cX4_isAsTold 50 = .ok (.iconst 0, 1) := by decide +kernel
theorem dX4_isAsTold_51 : decode cX4_isAsTold 51 = .ok (.ireturn, 1) := by decide +kernel
set_option maxRecDepth 20000 in
theorem ggX4_chanceOf200_X4_hasLaw : GoodIn wsX4_chanceOf200 wsX4_hasLaw := goodIn_r _ [7, 8, 68, 69, 70, 71, 72, 73] (by decide +kernel) (by decide +kernel)
set_option maxRecDepth 20000 in
theorem gX4_chanceOf200_X4_hasLaw : GoodIn wsX4_chanceOf200 (wsV RX4 86 RX4 yX4_hasLaw wsX4_hasLaw) := goodIn_app (goodIn_of _ (by decide +kernel)) ggX4_chanceOf200_X4_hasLaw
set_option maxRecDepth 20000 in
theorem ggX4_chanceOf200_X4_isAsTold : GoodIn wsX4_chanceOf200 wsX4_isAsTold := goodIn_r _ [12, 13, 14, 15, 16, 17, 18, 19, 20, 21, 22, 23, 24, 6, 25, 1, 26, 3, 4, 5, 7, 8, 27, 28, 29, 30, 31, 32, 33, 34, 35, 36, 37, 38, 39, 40, 41, 42, 43, 44, 45, 46, 47, 48, 49, 50, 51, 52, 53, 54, 55, 56, 57, 58, 59, 60, 61, 62, 63, 64, 65, 66, 67, 68, 69, 70, 71, 72, 73, 82, 83, 84, 85, 74, 75, 76, 77, 78, 79, 80, 81] (by decide +kernel) (by decide +kernel)
set_option maxRecDepth 20000 in
theorem gX4_chanceOf200_X4_isAsTold : GoodIn wsX4_chanceOf200 (wsV RX4 120 RX4 yX4_isAsTold wsX4_isAsTold) := goodIn_app (goodIn_of _ (by decide +kernel)) ggX4_chanceOf200_X4_isAsTold
theorem dX4_chanceOf200_0 : decode cX4_chanceOf200 0 = .ok (.aload_n 0, 1) := by decide +kernel
theorem dX4_chanceOf200_1 : decode cX4_chanceOf200 1 = .ok (.iload_n 1, 1) := by decide +kernel
theorem dX4_chanceOf200_2 : decode cX4_chanceOf200 2 = .ok (.invokevirtual 86, 3) := by decide +kernel
theorem dX4_chanceOf200_5 : decode cX4_chanceOf200 5 = .ok (.ifCond .ne 5, 3) := by decide +kernel
theorem dX4_chanceOf200_8 : decode cX4_chanceOf200 8 = .ok (.iconst 0, 1) := by decide +kernel
theorem dX4_chanceOf200_9 : decode cX4_chanceOf200 9 = .ok (.ireturn, 1) := by decide +kernel
theorem dX4_chanceOf200_10 : decode cX4_chanceOf200 10 = .ok (.aload_n 0, 1) := by decide +kernel
theorem dX4_chanceOf200_11 : decode cX4_chanceOf200 11 = .ok (.getfield 35, 3) := by decide +kernel
theorem dX4_chanceOf200_14 : decode cX4_chanceOf200 14 = .ok (.iload_n 1, 1) := by decide +kernel
theorem dX4_chanceOf200_15 : decode cX4_chanceOf200 15 = .ok (.aaload, 1) := by decide +kernel
theorem dX4_chanceOf200_16 : decode cX4_chanceOf200 16 = .ok (.getfield 117, 3) := by decide +kernel
theorem dX4_chanceOf200_19 : decode cX4_chanceOf200 19 = .ok (.istore_n 3, 1) := by decide +kernel
theorem dX4_chanceOf200_20 : decode cX4_chanceOf200 20 = .ok (.aload_n 0, 1) := by decide +kernel
theorem dX4_chanceOf200_21 : decode cX4_chanceOf200 21 = .ok (.iload_n 1, 1) := by decide +kernel
