theorem dX0_init_0 : decode cX0_init 0 = .ok (.aload_n 0, 1) := by decide +kernel
theorem dX0_init_1 : decode cX0_init 1 = .ok (.invokespecial 3, 3) := by decide +kernel
theorem dX0_init_4 : decode cX0_init 4 = .ok (.aload_n 0, 1) := by decide +kernel
theorem dX0_init_5 : decode cX0_init 5 = .ok (.bipush 20, 2) := by decide +kernel
theorem dX0_init_7 : decode cX0_init 7 = .ok (.newarray .int, 2) := by decide +kernel
theorem dX0_init_9 : decode cX0_init 9 = .ok (.putfield 9, 3) := by decide +kernel
theorem dX0_init_12 : decode cX0_init 12 = .ok (.return_, 1) := by decide +kernel
theorem dX0_forget_0 : decode cX0_forget 0 = .ok (.aload_n 0, 1) := by decide +kernel
theorem dX0_forget_1 : decode cX0_forget 1 = .ok (.iconst 0, 1) := by decide +kernel
theorem dX0_forget_2 : decode cX0_forget 2 = .ok (.putfield 15, 3) := by decide +kernel
theorem dX0_forget_5 : decode cX0_forget 5 = .ok (.return_, 1) := by decide +kernel
theorem dX0_kept_0 : decode cX0_kept 0 = .ok (.aload_n 0, 1) := by decide +kernel
theorem dX0_kept_1 : decode cX0_kept 1 = .ok (.getfield 15, 3) := by decide +kernel
theorem dX0_kept_4 : decode cX0_kept 4 = .ok (.bipush 20, 2) := by decide +kernel
theorem dX0_kept_6 : decode cX0_kept 6 = .ok (.invokestatic 19, 3) := by decide +kernel
theorem dX0_kept_9 : decode cX0_kept 9 = .ok (.ireturn, 1) := by decide +kernel
set_option maxRecDepth 20000 in
theorem ggX0_start_X0_perform : GoodIn wsX0_start wsX0_perform := goodIn_r _ [10, 5, 3, 1, 11, 12, 9, 13, 14, 15, 16, 17, 18, 19, 6, 7, 8, 20, 21, 22, 23, 24] rfl (by decide +kernel)
set_option maxRecDepth 20000 in
theorem gX0_start_X0_perform : GoodIn wsX0_start (wsV RX0 40 RX0 yX0_perform wsX0_perform) := goodIn_app (goodIn_of _ (by decide +kernel)) ggX0_start_X0_perform
theorem dX0_start_0 : decode cX0_start 0 = .ok (.aload_n 0, 1) := by decide +kernel
theorem dX0_start_1 : decode cX0_start 1 = .ok (.iload_n 2, 1) := by decide +kernel
theorem dX0_start_2 : decode cX0_start 2 = .ok (.putfield 25, 3) := by decide +kernel
theorem dX0_start_5 : decode cX0_start 5 = .ok (.aload_n 0, 1) := by decide +kernel
theorem dX0_start_6 : decode cX0_start 6 = .ok (.aload_n 1, 1) := by decide +kernel
theorem dX0_start_7 : decode cX0_start 7 = .ok (.getfield 28, 3) := by decide +kernel
theorem dX0_start_10 : decode cX0_start 10 = .ok (.iload_n 2, 1) := by decide +kernel
theorem dX0_start_11 : decode cX0_start 11 = .ok (.iaload, 1) := by decide +kernel
theorem dX0_start_12 : decode cX0_start 12 = .ok (.putfield 33, 3) := by decide +kernel
theorem dX0_start_15 : decode cX0_start 15 = .ok (.aload_n 0, 1) := by decide +kernel
theorem dX0_start_16 : decode cX0_start 16 = .ok (.aload_n 1, 1) := by decide +kernel
theorem dX0_start_17 : decode cX0_start 17 = .ok (.getfield 35, 3) := by decide +kernel
theorem dX0_start_20 : decode cX0_start 20 = .ok (.iload_n 2, 1) := by decide +kernel
theorem dX0_start_21 : decode cX0_start 21 = .ok (.iaload, 1) := by decide +kernel
theorem dX0_start_22 : decode cX0_start 22 = .ok (.putfield 38, 3) := by decide +kernel
theorem dX0_start_25 : decode cX0_start 25 = .ok (.aload_n 0, 1) := by decide +kernel
theorem dX0_start_26 : decode cX0_start 26 = .ok (.iload_n 3, 1) := by decide +kernel
theorem dX0_start_27 : decode cX0_start 27 = .ok (.aload_n 0, 1) := by decide +kernel
theorem dX0_start_28 : decode cX0_start 28 = .ok (.getfield 38, 3) := by decide +kernel
theorem dX0_start_31 : decode cX0_start 31 = .ok (.iload 4, 2) := by decide +kernel
theorem dX0_start_33 : decode cX0_start 33 = .ok (.iconst 0, 1) := by decide +kernel
theorem dX0_start_34 : decode cX0_start 34 = .ok (.invokevirtual 40, 3) := by decide +kernel
theorem dX0_start_37 : decode cX0_start 37 = .ok (.ireturn, 1) := by decide +kernel
set_option maxRecDepth 20000 in
theorem ggX0_perform_X0_bodyFor : GoodIn wsX0_perform wsX0_bodyFor := goodIn_r _ [7] rfl (by decide +kernel)
set_option maxRecDepth 20000 in
theorem gX0_perform_X0_bodyFor : GoodIn wsX0_perform (va_wsS RX0 44 yX0_bodyFor wsX0_bodyFor) := goodIn_app (goodIn_of _ (by decide +kernel)) ggX0_perform_X0_bodyFor
set_option maxRecDepth 20000 in
theorem ggX0_perform_X0_note : GoodIn wsX0_perform wsX0_note := goodIn_r _ [11, 12, 13, 17, 18, 19, 20, 21] rfl (by decide +kernel)
set_option maxRecDepth 20000 in
theorem gX0_perform_X0_note : GoodIn wsX0_perform (wsV RX0 47 RX0 yX0_note wsX0_note) := goodIn_app (goodIn_of _ (by decide +kernel)) ggX0_perform_X0_note
set_option maxRecDepth 20000 in
theorem ggX0_perform_X0_perform : GoodIn wsX0_perform wsX0_perform := goodIn_r _ [0, 1, 2, 3, 4, 5, 6, 7, 8, 9, 10, 11, 12, 13, 14, 15, 16, 17, 18, 19, 20, 21] rfl (by decide +kernel)
set_option maxRecDepth 20000 in
theorem gX0_perform_X0_perform : GoodIn wsX0_perform (wsV RX0 40 RX0 yX0_perform wsX0_perform) := goodIn_app (goodIn_of _ (by decide +kernel)) ggX0_perform_X0_perform
theorem dX0_perform_0 : decode cX0_perform 0 = .ok (.iload 4, 2) := by decide +kernel
theorem dX0_perform_2 : decode cX0_perform 2 = .ok (.bipush 40, 2) := by decide +kernel
theorem dX0_perform_4 : decode cX0_perform 4 = .ok (.if_icmp .le 5, 3) := by decide +kernel
theorem dX0_perform_7 : decode cX0_perform 7 = .ok (.iconst 0, 1) := by decide +kernel
theorem dX0_perform_8 : decode cX0_perform 8 = .ok (.ireturn, 1) := by decide +kernel
theorem dX0_perform_9 : decode cX0_perform 9 = .ok (.iload_n 1, 1) := by decide +kernel
theorem dX0_perform_10 : decode cX0_perform 10 = .ok (.iload_n 2, 1) := by decide +kernel
theorem dX0_perform_11 : decode cX0_perform 11 = .ok (.invokestatic 44, 3) := by decide +kernel
theorem dX0_perform_14 : decode cX0_perform 14 = .ok (.istore 5, 2) := by decide +kernel
theorem dX0_perform_16 : decode cX0_perform 16 = .ok (.aload_n 0, 1) := by decide +kernel
theorem dX0_perform_17 : decode cX0_perform 17 = .ok (.iload 5, 2) := by decide +kernel
theorem dX0_perform_19 : decode cX0_perform 19 = .ok (.invokevirtual 47, 3) := by decide +kernel
theorem dX0_perform_22 : decode cX0_perform 22 = .ok (.iload 4, 2) := by decide +kernel
theorem dX0_perform_24 : decode cX0_perform 24 = .ok (.iconst 1, 1) := by decide +kernel
theorem dX0_perform_25 : decode cX0_perform 25 = .ok (.iadd, 1) := by decide +kernel
theorem dX0_perform_26 : decode cX0_perform 26 = .ok (.istore 6, 2) := by decide +kernel
theorem dX0_perform_28 : decode cX0_perform 28 = .ok (.iload 5, 2) := by decide +kernel
theorem dX0_perform_30 : decode cX0_perform 30 = .ok (.lookupswitch 244 #[(11, 90), (12, 108), (20, 123), (30, 136), (40, 148), (50, 171), (51, 182), (60, 194), (70, 209), (71, 229)], 90) := by decide +kernel
theorem dX0_perform_120 : decode cX0_perform 120 = .ok (.aload_n 0, 1) := by decide +kernel
theorem dX0_perform_121 : decode cX0_perform 121 = .ok (.iconst 0, 1) := by decide +kernel
theorem dX0_perform_122 : decode cX0_perform 122 = .ok (.aload_n 0, 1) := by decide +kernel
theorem dX0_perform_123 : decode cX0_perform 123 = .ok (.getfield 38, 3) := by decide +kernel
theorem dX0_perform_126 : decode cX0_perform 126 = .ok (.iload_n 3, 1) := by decide +kernel
theorem dX0_perform_127 : decode cX0_perform 127 = .ok (.iload 6, 2) := by decide +kernel
theorem dX0_perform_129 : decode cX0_perform 129 = .ok (.invokevirtual 40, 3) := by decide +kernel
theorem dX0_perform_132 : decode cX0_perform 132 = .ok (.aload_n 0, 1) := by decide +kernel
theorem dX0_perform_133 : decode cX0_perform 133 = .ok (.getfield 33, 3) := by decide +kernel
theorem dX0_perform_136 : decode cX0_perform 136 = .ok (.isub, 1) := by decide +kernel
theorem dX0_perform_137 : decode cX0_perform 137 = .ok (.ireturn, 1) := by decide +kernel
theorem dX0_perform_138 : decode cX0_perform 138 = .ok (.aload_n 0, 1) := by decide +kernel
theorem dX0_perform_139 : decode cX0_perform 139 = .ok (.iconst 1, 1) := by decide +kernel
theorem dX0_perform_140 : decode cX0_perform 140 = .ok (.aload_n 0, 1) := by decide +kernel
theorem dX0_perform_141 : decode cX0_perform 141 = .ok (.getfield 38, 3) := by decide +kernel
theorem dX0_perform_144 : decode cX0_perform 144 = .ok (.iload_n 3, 1) := by decide +kernel
theorem dX0_perform_145 : decode cX0_perform 145 = .ok (.iload 6, 2) := by decide +kernel
theorem dX0_perform_147 : decode cX0_perform 147 = .ok (.invokevirtual 40, 3) := by decide +kernel
theorem dX0_perform_150 : decode cX0_perform 150 = .ok (.iconst 2, 1) := by decide +kernel
theorem dX0_perform_151 : decode cX0_perform 151 = .ok (.imul, 1) := by decide +kernel
theorem dX0_perform_152 : decode cX0_perform 152 = .ok (.ireturn, 1) := by decide +kernel
theorem dX0_perform_153 : decode cX0_perform 153 = .ok (.aload_n 0, 1) := by decide +kernel
theorem dX0_perform_154 : decode cX0_perform 154 = .ok (.iconst 1, 1) := by decide +kernel
theorem dX0_perform_155 : decode cX0_perform 155 = .ok (.iconst 0, 1) := by decide +kernel
theorem dX0_perform_156 : decode cX0_perform 156 = .ok (.iload_n 3, 1) := by decide +kernel
theorem dX0_perform_157 : decode cX0_perform 157 = .ok (.iload 6, 2) := by decide +kernel
theorem dX0_perform_159 : decode cX0_perform 159 = .ok (.invokevirtual 40, 3) := by decide +kernel
theorem dX0_perform_162 : decode cX0_perform 162 = .ok (.bipush 6, 2) := by decide +kernel
theorem dX0_perform_164 : decode cX0_perform 164 = .ok (.ixor, 1) := by decide +kernel
theorem dX0_perform_165 : decode cX0_perform 165 = .ok (.ireturn, 1) := by decide +kernel
theorem dX0_perform_166 : decode cX0_perform 166 = .ok (.aload_n 0, 1) := by decide +kernel
theorem dX0_perform_167 : decode cX0_perform 167 = .ok (.iconst 0, 1) := by decide +kernel
theorem dX0_perform_168 : decode cX0_perform 168 = .ok (.iconst 0, 1) := by decide +kernel
theorem dX0_perform_169 : decode cX0_perform 169 = .ok (.iload_n 3, 1) := by decide +kernel
theorem dX0_perform_170 : decode cX0_perform 170 = .ok (.iconst 3, 1) := by decide +kernel
theorem dX0_perform_171 : decode cX0_perform 171 = .ok (.imul, 1) := by decide +kernel
theorem dX0_perform_172 : decode cX0_perform 172 = .ok (.iload 6, 2) := by decide +kernel
theorem dX0_perform_174 : decode cX0_perform 174 = .ok (.invokevirtual 40, 3) := by decide +kernel
theorem dX0_perform_177 : decode cX0_perform 177 = .ok (.ireturn, 1) := by decide +kernel
theorem dX0_perform_178 : decode cX0_perform 178 = .ok (.aload_n 0, 1) := by decide +kernel
theorem dX0_perform_179 : decode cX0_perform 179 = .ok (.iconst 2, 1) := by decide +kernel
theorem dX0_perform_180 : decode cX0_perform 180 = .ok (.iconst 0, 1) := by decide +kernel
theorem dX0_perform_181 : decode cX0_perform 181 = .ok (.iload_n 3, 1) := by decide +kernel
theorem dX0_perform_182 : decode cX0_perform 182 = .ok (.iload 6, 2) := by decide +kernel
theorem dX0_perform_184 : decode cX0_perform 184 = .ok (.invokevirtual 40, 3) := by decide +kernel
theorem dX0_perform_187 : decode cX0_perform 187 = .ok (.aload_n 0, 1) := by decide +kernel
theorem dX0_perform_188 : decode cX0_perform 188 = .ok (.iconst 1, 1) := by decide +kernel
theorem dX0_perform_189 : decode cX0_perform 189 = .ok (.aload_n 0, 1) := by decide +kernel
theorem dX0_perform_190 : decode cX0_perform 190 = .ok (.getfield 38, 3) := by decide +kernel
theorem dX0_perform_193 : decode cX0_perform 193 = .ok (.iconst 1, 1) := by decide +kernel
theorem dX0_perform_194 : decode cX0_perform 194 = .ok (.iload 6, 2) := by decide +kernel
theorem dX0_perform_196 : decode cX0_perform 196 = .ok (.invokevirtual 40, 3) := by decide +kernel
theorem dX0_perform_199 : decode cX0_perform 199 = .ok (.iadd, 1) := by decide +kernel
theorem dX0_perform_200 : decode cX0_perform 200 = .ok (.ireturn, 1) := by decide +kernel
theorem dX0_perform_201 : decode cX0_perform 201 = .ok (.aload_n 0, 1) := by decide +kernel
theorem dX0_perform_202 : decode cX0_perform 202 = .ok (.iconst 0, 1) := by decide +kernel
theorem dX0_perform_203 : decode cX0_perform 203 = .ok (.iconst 1, 1) := by decide +kernel
theorem dX0_perform_204 : decode cX0_perform 204 = .ok (.iload_n 3, 1) := by decide +kernel
theorem dX0_perform_205 : decode cX0_perform 205 = .ok (.iload 6, 2) := by decide +kernel
theorem dX0_perform_207 : decode cX0_perform 207 = .ok (.invokevirtual 40, 3) := by decide +kernel
theorem dX0_perform_210 : decode cX0_perform 210 = .ok (.ineg, 1) := by decide +kernel
theorem dX0_perform_211 : decode cX0_perform 211 = .ok (.ireturn, 1) := by decide +kernel
theorem dX0_perform_212 : decode cX0_perform 212 = .ok (.aload_n 0, 1) := by decide +kernel
theorem dX0_perform_213 : decode cX0_perform 213 = .ok (.iconst 1, 1) := by decide +kernel
theorem dX0_perform_214 : decode cX0_perform 214 = .ok (.iconst 1, 1) := by decide +kernel
theorem dX0_perform_215 : decode cX0_perform 215 = .ok (.iload_n 3, 1) := by decide +kernel
theorem dX0_perform_216 : decode cX0_perform 216 = .ok (.iconst 1, 1) := by decide +kernel
theorem dX0_perform_217 : decode cX0_perform 217 = .ok (.iadd, 1) := by decide +kernel
theorem dX0_perform_218 : decode cX0_perform 218 = .ok (.iload 6, 2) := by decide +kernel
theorem dX0_perform_220 : decode cX0_perform 220 = .ok (.invokevirtual 40, 3) := by decide +kernel
theorem dX0_perform_223 : decode cX0_perform 223 = .ok (.ireturn, 1) := by decide +kernel
theorem dX0_perform_224 : decode cX0_perform 224 = .ok (.aload_n 0, 1) := by decide +kernel
theorem dX0_perform_225 : decode cX0_perform 225 = .ok (.iconst 2, 1) := by decide +kernel
theorem dX0_perform_226 : decode cX0_perform 226 = .ok (.iconst 2, 1) := by decide +kernel
theorem dX0_perform_227 : decode cX0_perform 227 = .ok (.iload_n 3, 1) := by decide +kernel
theorem dX0_perform_228 : decode cX0_perform 228 = .ok (.aload_n 0, 1) := by decide +kernel
theorem dX0_perform_229 : decode cX0_perform 229 = .ok (.getfield 25, 3) := by decide +kernel
theorem dX0_perform_232 : decode cX0_perform 232 = .ok (.isub, 1) := by decide +kernel
theorem dX0_perform_233 : decode cX0_perform 233 = .ok (.iload 6, 2) := by decide +kernel
theorem dX0_perform_235 : decode cX0_perform 235 = .ok (.invokevirtual 40, 3) := by decide +kernel
theorem dX0_perform_238 : decode cX0_perform 238 = .ok (.ireturn, 1) := by decide +kernel
theorem dX0_perform_239 : decode cX0_perform 239 = .ok (.aload_n 0, 1) := by decide +kernel
theorem dX0_perform_240 : decode cX0_perform 240 = .ok (.iconst 1, 1) := by decide +kernel
theorem dX0_perform_241 : decode cX0_perform 241 = .ok (.iconst 3, 1) := by decide +kernel
theorem dX0_perform_242 : decode cX0_perform 242 = .ok (.iload_n 3, 1) := by decide +kernel
theorem dX0_perform_243 : decode cX0_perform 243 = .ok (.iload 6, 2) := by decide +kernel
theorem dX0_perform_245 : decode cX0_perform 245 = .ok (.invokevirtual 40, 3) := by decide +kernel
theorem dX0_perform_248 : decode cX0_perform 248 = .ok (.aload_n 0, 1) := by decide +kernel
theorem dX0_perform_249 : decode cX0_perform 249 = .ok (.iconst 0, 1) := by decide +kernel
theorem dX0_perform_250 : decode cX0_perform 250 = .ok (.iconst 3, 1) := by decide +kernel
theorem dX0_perform_251 : decode cX0_perform 251 = .ok (.iconst 2, 1) := by decide +kernel
theorem dX0_perform_252 : decode cX0_perform 252 = .ok (.iload 6, 2) := by decide +kernel
theorem dX0_perform_254 : decode cX0_perform 254 = .ok (.invokevirtual 40, 3) := by decide +kernel
theorem dX0_perform_257 : decode cX0_perform 257 = .ok (.iadd, 1) := by decide +kernel
theorem dX0_perform_258 : decode cX0_perform 258 = .ok (.ireturn, 1) := by decide +kernel
theorem dX0_perform_259 : decode cX0_perform 259 = .ok (.aload_n 0, 1) := by decide +kernel
theorem dX0_perform_260 : decode cX0_perform 260 = .ok (.iconst 0, 1) := by decide +kernel
theorem dX0_perform_261 : decode cX0_perform 261 = .ok (.iconst 3, 1) := by decide +kernel
theorem dX0_perform_262 : decode cX0_perform 262 = .ok (.iload_n 3, 1) := by decide +kernel
theorem dX0_perform_263 : decode cX0_perform 263 = .ok (.iload 6, 2) := by decide +kernel
theorem dX0_perform_265 : decode cX0_perform 265 = .ok (.invokevirtual 40, 3) := by decide +kernel
theorem dX0_perform_268 : decode cX0_perform 268 = .ok (.aload_n 0, 1) := by decide +kernel
theorem dX0_perform_269 : decode cX0_perform 269 = .ok (.getfield 33, 3) := by decide +kernel
theorem dX0_perform_272 : decode cX0_perform 272 = .ok (.ixor, 1) := by decide +kernel
theorem dX0_perform_273 : decode cX0_perform 273 = .ok (.ireturn, 1) := by decide +kernel
theorem dX0_perform_274 : decode cX0_perform 274 = .ok (.iload_n 3, 1) := by decide +kernel
theorem dX0_perform_275 : decode cX0_perform 275 = .ok (.aload_n 0, 1) := by decide +kernel
theorem dX0_perform_276 : decode cX0_perform 276 = .ok (.getfield 25, 3) := by decide +kernel
theorem dX0_perform_279 : decode cX0_perform 279 = .ok (.iadd, 1) := by decide +kernel
theorem dX0_perform_280 : decode cX0_perform 280 = .ok (.ireturn, 1) := by decide +kernel
theorem dX0_bodyFor_0 : decode cX0_bodyFor 0 = .ok (.iload_n 1, 1) := by decide +kernel
theorem dX0_bodyFor_1 : decode cX0_bodyFor 1 = .ok (.istore_n 2, 1) := by decide +kernel
theorem dX0_bodyFor_2 : decode cX0_bodyFor 2 = .ok (.iconst 0, 1) := by decide +kernel
theorem dX0_bodyFor_3 : decode cX0_bodyFor 3 = .ok (.istore_n 3, 1) := by decide +kernel
theorem dX0_bodyFor_4 : decode cX0_bodyFor 4 = .ok (.iload_n 3, 1) := by decide +kernel
theorem dX0_bodyFor_5 : decode cX0_bodyFor 5 = .ok (.bipush 6, 2) := by decide +kernel
theorem dX0_bodyFor_7 : decode cX0_bodyFor 7 = .ok (.if_icmp .gt 41, 3) := by decide +kernel
theorem dX0_bodyFor_10 : decode cX0_bodyFor 10 = .ok (.iload_n 2, 1) := by decide +kernel
theorem dX0_bodyFor_11 : decode cX0_bodyFor 11 = .ok (.ifCond .le 37, 3) := by decide +kernel
theorem dX0_bodyFor_14 : decode cX0_bodyFor 14 = .ok (.getstatic 51, 3) := by decide +kernel
theorem dX0_bodyFor_17 : decode cX0_bodyFor 17 = .ok (.iload_n 2, 1) := by decide +kernel
theorem dX0_bodyFor_18 : decode cX0_bodyFor 18 = .ok (.iconst 3, 1) := by decide +kernel
theorem dX0_bodyFor_19 : decode cX0_bodyFor 19 = .ok (.imul, 1) := by decide +kernel
theorem dX0_bodyFor_20 : decode cX0_bodyFor 20 = .ok (.iload_n 0, 1) := by decide +kernel
theorem dX0_bodyFor_21 : decode cX0_bodyFor 21 = .ok (.iadd, 1) := by decide +kernel
theorem dX0_bodyFor_22 : decode cX0_bodyFor 22 = .ok (.iaload, 1) := by decide +kernel
theorem dX0_bodyFor_23 : decode cX0_bodyFor 23 = .ok (.ifCond .eq 13, 3) := by decide +kernel
theorem dX0_bodyFor_26 : decode cX0_bodyFor 26 = .ok (.getstatic 51, 3) := by decide +kernel
theorem dX0_bodyFor_29 : decode cX0_bodyFor 29 = .ok (.iload_n 2, 1) := by decide +kernel
theorem dX0_bodyFor_30 : decode cX0_bodyFor 30 = .ok (.iconst 3, 1) := by decide +kernel
theorem dX0_bodyFor_31 : decode cX0_bodyFor 31 = .ok (.imul, 1) := by decide +kernel
theorem dX0_bodyFor_32 : decode cX0_bodyFor 32 = .ok (.iload_n 0, 1) := by decide +kernel
theorem dX0_bodyFor_33 : decode cX0_bodyFor 33 = .ok (.iadd, 1) := by decide +kernel
theorem dX0_bodyFor_34 : decode cX0_bodyFor 34 = .ok (.iaload, 1) := by decide +kernel
theorem dX0_bodyFor_35 : decode cX0_bodyFor 35 = .ok (.ireturn, 1) := by decide +kernel
theorem dX0_bodyFor_36 : decode cX0_bodyFor 36 = .ok (.getstatic 54, 3) := by decide +kernel
theorem dX0_bodyFor_39 : decode cX0_bodyFor 39 = .ok (.iload_n 2, 1) := by decide +kernel
theorem dX0_bodyFor_40 : decode cX0_bodyFor 40 = .ok (.iaload, 1) := by decide +kernel
theorem dX0_bodyFor_41 : decode cX0_bodyFor 41 = .ok (.istore_n 2, 1) := by decide +kernel
theorem dX0_bodyFor_42 : decode cX0_bodyFor 42 = .ok (.iinc 3 1, 3) := by decide +kernel
theorem dX0_bodyFor_45 : decode cX0_bodyFor 45 = .ok (.goto (-41), 3) := by decide +kernel
theorem dX0_bodyFor_48 : decode cX0_bodyFor 48 = .ok (.getstatic 51, 3) := by decide +kernel
theorem dX0_bodyFor_51 : decode cX0_bodyFor 51 = .ok (.iload_n 0, 1) := by decide +kernel
theorem dX0_bodyFor_52 : decode cX0_bodyFor 52 = .ok (.iaload, 1) := by decide +kernel
theorem dX0_bodyFor_53 : decode cX0_bodyFor 53 = .ok (.ireturn, 1) := by decide +kernel
theorem dX0_note_0 : decode cX0_note 0 = .ok (.aload_n 0, 1) := by decide +kernel
theorem dX0_note_1 : decode cX0_note 1 = .ok (.getfield 15, 3) := by decide +kernel
theorem dX0_note_4 : decode cX0_note 4 = .ok (.bipush 20, 2) := by decide +kernel
theorem dX0_note_6 : decode cX0_note 6 = .ok (.if_icmp .ge 13, 3) := by decide +kernel
theorem dX0_note_9 : decode cX0_note 9 = .ok (.aload_n 0, 1) := by decide +kernel
theorem dX0_note_10 : decode cX0_note 10 = .ok (.getfield 9, 3) := by decide +kernel
theorem dX0_note_13 : decode cX0_note 13 = .ok (.aload_n 0, 1) := by decide +kernel
theorem dX0_note_14 : decode cX0_note 14 = .ok (.getfield 15, 3) := by decide +kernel
theorem dX0_note_17 : decode cX0_note 17 = .ok (.iload_n 1, 1) := by decide +kernel
theorem dX0_note_18 : decode cX0_note 18 = .ok (.iastore, 1) := by decide +kernel
theorem dX0_note_19 : decode cX0_note 19 = .ok (.aload_n 0, 1) := by decide +kernel
theorem dX0_note_20 : decode cX0_note 20 = .ok (.dup, 1) := by decide +kernel
theorem dX0_note_21 : decode cX0_note 21 = .ok (.getfield 15, 3) := by decide +kernel
theorem dX0_note_24 : decode cX0_note 24 = .ok (.iconst 1, 1) := by decide +kernel
theorem dX0_note_25 : decode cX0_note 25 = .ok (.iadd, 1) := by decide +kernel
theorem dX0_note_26 : decode cX0_note 26 = .ok (.putfield 15, 3) := by decide +kernel
theorem dX0_note_29 : decode cX0_note 29 = .ok (.return_, 1) := by decide +kernel
