theorem dX8_looked_39 : decode cX8_looked 39 = .ok (.iaload, 1) := by decide +kernel
theorem dX8_looked_40 : decode cX8_looked 40 = .ok (.if_icmp .eq 5, 3) := by decide +kernel
theorem dX8_looked_43 : decode cX8_looked 43 = .ok (.iload_n 1, 1) := by decide +kernel
theorem dX8_looked_44 : decode cX8_looked 44 = .ok (.ireturn, 1) := by decide +kernel
theorem dX8_looked_45 : decode cX8_looked 45 = .ok (.iinc 1 1, 3) := by decide +kernel
theorem dX8_looked_48 : decode cX8_looked 48 = .ok (.goto (-46), 3) := by decide +kernel
theorem dX8_looked_51 : decode cX8_looked 51 = .ok (.bipush (-5), 2) := by decide +kernel
theorem dX8_looked_53 : decode cX8_looked 53 = .ok (.ireturn, 1) := by decide +kernel
theorem dX8_body_0 : decode cX8_body 0 = .ok (.aload_n 0, 1) := by decide +kernel
theorem dX8_body_1 : decode cX8_body 1 = .ok (.getfield 257, 3) := by decide +kernel
theorem dX8_body_4 : decode cX8_body 4 = .ok (.bipush 20, 2) := by decide +kernel
theorem dX8_body_6 : decode cX8_body 6 = .ok (.if_icmp .ge 13, 3) := by decide +kernel
theorem dX8_body_9 : decode cX8_body 9 = .ok (.aload_n 0, 1) := by decide +kernel
theorem dX8_body_10 : decode cX8_body 10 = .ok (.getfield 55, 3) := by decide +kernel
theorem dX8_body_13 : decode cX8_body 13 = .ok (.aload_n 0, 1) := by decide +kernel
theorem dX8_body_14 : decode cX8_body 14 = .ok (.getfield 257, 3) := by decide +kernel
theorem dX8_body_17 : decode cX8_body 17 = .ok (.iload_n 1, 1) := by decide +kernel
theorem dX8_body_18 : decode cX8_body 18 = .ok (.iastore, 1) := by decide +kernel
theorem dX8_body_19 : decode cX8_body 19 = .ok (.aload_n 0, 1) := by decide +kernel
theorem dX8_body_20 : decode cX8_body 20 = .ok (.dup, 1) := by decide +kernel
theorem dX8_body_21 : decode cX8_body 21 = .ok (.getfield 257, 3) := by decide +kernel
theorem dX8_body_24 : decode cX8_body 24 = .ok (.iconst 1, 1) := by decide +kernel
theorem dX8_body_25 : decode cX8_body 25 = .ok (.iadd, 1) := by decide +kernel
theorem dX8_body_26 : decode cX8_body 26 = .ok (.putfield 257, 3) := by decide +kernel
theorem dX8_body_29 : decode cX8_body 29 = .ok (.iload_n 1, 1) := by decide +kernel
theorem dX8_body_30 : decode cX8_body 30 = .ok (.ireturn, 1) := by decide +kernel
set_option maxRecDepth 20000 in
theorem ggX8_all_X8_number : GoodIn wsX8_all wsX8_number := goodIn_r _ [5, 6, 22, 23, 24, 25, 26, 27, 28, 29, 30, 31, 32, 33, 34, 35, 36, 37, 38, 39, 40, 41, 42, 43, 44, 45, 46, 47, 48, 49, 50] rfl (by decide +kernel)
set_option maxRecDepth 20000 in
theorem gX8_all_X8_number : GoodIn wsX8_all (wsV RX8 83 RX8 yX8_number wsX8_number) := goodIn_app (goodIn_of _ (by decide +kernel)) ggX8_all_X8_number
set_option maxRecDepth 20000 in
theorem ggX8_all_X8_byKind : GoodIn wsX8_all wsX8_byKind := goodIn_r _ [10, 11, 12, 13, 14, 15, 4, 16, 17, 18, 19, 20, 21, 1, 2, 3, 5, 6, 7, 8, 9, 0, 22, 23, 24, 25, 26, 27, 28, 29, 30, 31, 32, 33, 34, 35, 36, 37, 38, 39, 40, 41, 42, 43, 44, 45, 46, 47, 48, 49, 50] rfl (by decide +kernel)
set_option maxRecDepth 20000 in
theorem gX8_all_X8_byKind : GoodIn wsX8_all (wsV RX8 260 RX8 yX8_byKind wsX8_byKind) := goodIn_app (goodIn_of _ (by decide +kernel)) ggX8_all_X8_byKind
theorem dX8_all_0 : decode cX8_all 0 = .ok (.aload_n 0, 1) := by decide +kernel
theorem dX8_all_1 : decode cX8_all 1 = .ok (.aload_n 0, 1) := by decide +kernel
theorem dX8_all_2 : decode cX8_all 2 = .ok (.iload_n 1, 1) := by decide +kernel
theorem dX8_all_3 : decode cX8_all 3 = .ok (.iconst 0, 1) := by decide +kernel
theorem dX8_all_4 : decode cX8_all 4 = .ok (.invokevirtual 83, 3) := by decide +kernel
theorem dX8_all_7 : decode cX8_all 7 = .ok (.iload_n 1, 1) := by decide +kernel
theorem dX8_all_8 : decode cX8_all 8 = .ok (.iload_n 2, 1) := by decide +kernel
theorem dX8_all_9 : decode cX8_all 9 = .ok (.iload_n 3, 1) := by decide +kernel
theorem dX8_all_10 : decode cX8_all 10 = .ok (.invokevirtual 260, 3) := by decide +kernel
theorem dX8_all_13 : decode cX8_all 13 = .ok (.ireturn, 1) := by decide +kernel
set_option maxRecDepth 20000 in
theorem ggX8_byKind_X8_body : GoodIn wsX8_byKind wsX8_body := goodIn_r _ [7, 8, 9, 22, 23, 24, 25, 26, 27, 28, 29, 30, 31, 32, 33, 34, 35, 36, 37, 38, 39, 40, 41, 42, 43, 44, 45, 46, 47, 48, 49, 50] rfl (by decide +kernel)
set_option maxRecDepth 20000 in
theorem gX8_byKind_X8_body : GoodIn wsX8_byKind (wsV RX8 264 RX8 yX8_body wsX8_body) := goodIn_app (goodIn_of _ (by decide +kernel)) ggX8_byKind_X8_body
set_option maxRecDepth 20000 in
theorem ggX8_byKind_X8_all : GoodIn wsX8_byKind wsX8_all := goodIn_r _ [21, 13, 14, 15, 6, 16, 17, 18, 19, 20, 0, 1, 2, 3, 4, 5, 7, 8, 9, 10, 11, 12, 22, 23, 24, 25, 26, 27, 28, 29, 30, 31, 32, 33, 34, 35, 36, 37, 38, 39, 40, 41, 42, 43, 44, 45, 46, 47, 48, 49, 50] rfl (by decide +kernel)
set_option maxRecDepth 20000 in
theorem gX8_byKind_X8_all : GoodIn wsX8_byKind (wsV RX8 267 RX8 yX8_all wsX8_all) := goodIn_app (goodIn_of _ (by decide +kernel)) ggX8_byKind_X8_all
set_option maxRecDepth 20000 in
theorem ggX8_byKind_X8_number : GoodIn wsX8_byKind wsX8_number := goodIn_r _ [16, 17, 22, 23, 24, 25, 26, 27, 28, 29, 30, 31, 32, 33, 34, 35, 36, 37, 38, 39, 40, 41, 42, 43, 44, 45, 46, 47, 48, 49, 50] rfl (by decide +kernel)
set_option maxRecDepth 20000 in
theorem gX8_byKind_X8_number : GoodIn wsX8_byKind (wsV RX8 83 RX8 yX8_number wsX8_number) := goodIn_app (goodIn_of _ (by decide +kernel)) ggX8_byKind_X8_number
set_option maxRecDepth 20000 in
theorem ggX8_byKind_X8_byKind : GoodIn wsX8_byKind wsX8_byKind := goodIn_r _ [0, 1, 2, 3, 4, 5, 6, 7, 8, 9, 10, 11, 12, 13, 14, 15, 16, 17, 18, 19, 20, 21, 22, 23, 24, 25, 26, 27, 28, 29, 30, 31, 32, 33, 34, 35, 36, 37, 38, 39, 40, 41, 42, 43, 44, 45, 46, 47, 48, 49, 50] rfl (by decide +kernel)
set_option maxRecDepth 20000 in
theorem gX8_byKind_X8_byKind : GoodIn wsX8_byKind (wsV RX8 260 RX8 yX8_byKind wsX8_byKind) := goodIn_app (goodIn_of _ (by decide +kernel)) ggX8_byKind_X8_byKind
theorem dX8_byKind_0 : decode cX8_byKind 0 = .ok (.iload_n 1, 1) := by decide +kernel
theorem dX8_byKind_1 : decode cX8_byKind 1 = .ok (.istore 5, 2) := by decide +kernel
theorem dX8_byKind_3 : decode cX8_byKind 3 = .ok (.aload_n 0, 1) := by decide +kernel
theorem dX8_byKind_4 : decode cX8_byKind 4 = .ok (.getfield 52, 3) := by decide +kernel
theorem dX8_byKind_7 : decode cX8_byKind 7 = .ok (.iconst 3, 1) := by decide +kernel
theorem dX8_byKind_8 : decode cX8_byKind 8 = .ok (.iload 5, 2) := by decide +kernel
theorem dX8_byKind_10 : decode cX8_byKind 10 = .ok (.imul, 1) := by decide +kernel
theorem dX8_byKind_11 : decode cX8_byKind 11 = .ok (.iload_n 3, 1) := by decide +kernel
theorem dX8_byKind_12 : decode cX8_byKind 12 = .ok (.iadd, 1) := by decide +kernel
theorem dX8_byKind_13 : decode cX8_byKind 13 = .ok (.iaload, 1) := by decide +kernel
theorem dX8_byKind_14 : decode cX8_byKind 14 = .ok (.ifCond .ne 15, 3) := by decide +kernel
theorem dX8_byKind_17 : decode cX8_byKind 17 = .ok (.aload_n 0, 1) := by decide +kernel
theorem dX8_byKind_18 : decode cX8_byKind 18 = .ok (.getfield 49, 3) := by decide +kernel
theorem dX8_byKind_21 : decode cX8_byKind 21 = .ok (.iload 5, 2) := by decide +kernel
theorem dX8_byKind_23 : decode cX8_byKind 23 = .ok (.iaload, 1) := by decide +kernel
theorem dX8_byKind_24 : decode cX8_byKind 24 = .ok (.istore 5, 2) := by decide +kernel
theorem dX8_byKind_26 : decode cX8_byKind 26 = .ok (.goto (-23), 3) := by decide +kernel
theorem dX8_byKind_29 : decode cX8_byKind 29 = .ok (.aload_n 0, 1) := by decide +kernel
theorem dX8_byKind_30 : decode cX8_byKind 30 = .ok (.getfield 49, 3) := by decide +kernel
theorem dX8_byKind_33 : decode cX8_byKind 33 = .ok (.iload 5, 2) := by decide +kernel
theorem dX8_byKind_35 : decode cX8_byKind 35 = .ok (.iaload, 1) := by decide +kernel
theorem dX8_byKind_36 : decode cX8_byKind 36 = .ok (.istore 6, 2) := by decide +kernel
theorem dX8_byKind_38 : decode cX8_byKind 38 = .ok (.aload_n 0, 1) := by decide +kernel
theorem dX8_byKind_39 : decode cX8_byKind 39 = .ok (.aload_n 0, 1) := by decide +kernel
theorem dX8_byKind_40 : decode cX8_byKind 40 = .ok (.getfield 52, 3) := by decide +kernel
theorem dX8_byKind_43 : decode cX8_byKind 43 = .ok (.iconst 3, 1) := by decide +kernel
theorem dX8_byKind_44 : decode cX8_byKind 44 = .ok (.iload 5, 2) := by decide +kernel
theorem dX8_byKind_46 : decode cX8_byKind 46 = .ok (.imul, 1) := by decide +kernel
theorem dX8_byKind_47 : decode cX8_byKind 47 = .ok (.iload_n 3, 1) := by decide +kernel
theorem dX8_byKind_48 : decode cX8_byKind 48 = .ok (.iadd, 1) := by decide +kernel
theorem dX8_byKind_49 : decode cX8_byKind 49 = .ok (.iaload, 1) := by decide +kernel
theorem dX8_byKind_50 : decode cX8_byKind 50 = .ok (.invokevirtual 264, 3) := by decide +kernel
theorem dX8_byKind_53 : decode cX8_byKind 53 = .ok (.lookupswitch 228 #[(10, 91), (11, 96), (12, 112), (20, 123), (30, 137), (40, 150), (50, 169), (51, 181), (60, 194), (70, 207)], 91) := by decide +kernel
theorem dX8_byKind_144 : decode cX8_byKind 144 = .ok (.iload 4, 2) := by decide +kernel
theorem dX8_byKind_146 : decode cX8_byKind 146 = .ok (.iload_n 2, 1) := by decide +kernel
theorem dX8_byKind_147 : decode cX8_byKind 147 = .ok (.iadd, 1) := by decide +kernel
theorem dX8_byKind_148 : decode cX8_byKind 148 = .ok (.ireturn, 1) := by decide +kernel
theorem dX8_byKind_149 : decode cX8_byKind 149 = .ok (.aload_n 0, 1) := by decide +kernel
theorem dX8_byKind_150 : decode cX8_byKind 150 = .ok (.iload_n 2, 1) := by decide +kernel
theorem dX8_byKind_151 : decode cX8_byKind 151 = .ok (.iconst 0, 1) := by decide +kernel
theorem dX8_byKind_152 : decode cX8_byKind 152 = .ok (.iload 4, 2) := by decide +kernel
theorem dX8_byKind_154 : decode cX8_byKind 154 = .ok (.invokevirtual 267, 3) := by decide +kernel
theorem dX8_byKind_157 : decode cX8_byKind 157 = .ok (.aload_n 0, 1) := by decide +kernel
theorem dX8_byKind_158 : decode cX8_byKind 158 = .ok (.iload_n 2, 1) := by decide +kernel
theorem dX8_byKind_159 : decode cX8_byKind 159 = .ok (.iconst 1, 1) := by decide +kernel
theorem dX8_byKind_160 : decode cX8_byKind 160 = .ok (.invokevirtual 83, 3) := by decide +kernel
theorem dX8_byKind_163 : decode cX8_byKind 163 = .ok (.isub, 1) := by decide +kernel
theorem dX8_byKind_164 : decode cX8_byKind 164 = .ok (.ireturn, 1) := by decide +kernel
theorem dX8_byKind_165 : decode cX8_byKind 165 = .ok (.aload_n 0, 1) := by decide +kernel
theorem dX8_byKind_166 : decode cX8_byKind 166 = .ok (.iload_n 2, 1) := by decide +kernel
theorem dX8_byKind_167 : decode cX8_byKind 167 = .ok (.iconst 1, 1) := by decide +kernel
theorem dX8_byKind_168 : decode cX8_byKind 168 = .ok (.iload 4, 2) := by decide +kernel
theorem dX8_byKind_170 : decode cX8_byKind 170 = .ok (.invokevirtual 267, 3) := by decide +kernel
theorem dX8_byKind_173 : decode cX8_byKind 173 = .ok (.iconst 2, 1) := by decide +kernel
theorem dX8_byKind_174 : decode cX8_byKind 174 = .ok (.imul, 1) := by decide +kernel
theorem dX8_byKind_175 : decode cX8_byKind 175 = .ok (.ireturn, 1) := by decide +kernel
theorem dX8_byKind_176 : decode cX8_byKind 176 = .ok (.aload_n 0, 1) := by decide +kernel
theorem dX8_byKind_177 : decode cX8_byKind 177 = .ok (.iload 6, 2) := by decide +kernel
theorem dX8_byKind_179 : decode cX8_byKind 179 = .ok (.iload_n 2, 1) := by decide +kernel
theorem dX8_byKind_180 : decode cX8_byKind 180 = .ok (.iconst 1, 1) := by decide +kernel
theorem dX8_byKind_181 : decode cX8_byKind 181 = .ok (.iload 4, 2) := by decide +kernel
theorem dX8_byKind_183 : decode cX8_byKind 183 = .ok (.invokevirtual 260, 3) := by decide +kernel
theorem dX8_byKind_186 : decode cX8_byKind 186 = .ok (.bipush 6, 2) := by decide +kernel
theorem dX8_byKind_188 : decode cX8_byKind 188 = .ok (.ixor, 1) := by decide +kernel
theorem dX8_byKind_189 : decode cX8_byKind 189 = .ok (.ireturn, 1) := by decide +kernel
theorem dX8_byKind_190 : decode cX8_byKind 190 = .ok (.aload_n 0, 1) := by decide +kernel
theorem dX8_byKind_191 : decode cX8_byKind 191 = .ok (.iload 6, 2) := by decide +kernel
theorem dX8_byKind_193 : decode cX8_byKind 193 = .ok (.iload_n 2, 1) := by decide +kernel
theorem dX8_byKind_194 : decode cX8_byKind 194 = .ok (.iconst 0, 1) := by decide +kernel
theorem dX8_byKind_195 : decode cX8_byKind 195 = .ok (.iload 4, 2) := by decide +kernel
theorem dX8_byKind_197 : decode cX8_byKind 197 = .ok (.iconst 3, 1) := by decide +kernel
theorem dX8_byKind_198 : decode cX8_byKind 198 = .ok (.imul, 1) := by decide +kernel
theorem dX8_byKind_199 : decode cX8_byKind 199 = .ok (.invokevirtual 260, 3) := by decide +kernel
theorem dX8_byKind_202 : decode cX8_byKind 202 = .ok (.ireturn, 1) := by decide +kernel
theorem dX8_byKind_203 : decode cX8_byKind 203 = .ok (.aload_n 0, 1) := by decide +kernel
theorem dX8_byKind_204 : decode cX8_byKind 204 = .ok (.iload 6, 2) := by decide +kernel
theorem dX8_byKind_206 : decode cX8_byKind 206 = .ok (.iload_n 2, 1) := by decide +kernel
theorem dX8_byKind_207 : decode cX8_byKind 207 = .ok (.iconst 2, 1) := by decide +kernel
theorem dX8_byKind_208 : decode cX8_byKind 208 = .ok (.iload 4, 2) := by decide +kernel
theorem dX8_byKind_210 : decode cX8_byKind 210 = .ok (.invokevirtual 260, 3) := by decide +kernel
theorem dX8_byKind_213 : decode cX8_byKind 213 = .ok (.aload_n 0, 1) := by decide +kernel
theorem dX8_byKind_214 : decode cX8_byKind 214 = .ok (.iload_n 2, 1) := by decide +kernel
theorem dX8_byKind_215 : decode cX8_byKind 215 = .ok (.iconst 1, 1) := by decide +kernel
theorem dX8_byKind_216 : decode cX8_byKind 216 = .ok (.iconst 1, 1) := by decide +kernel
theorem dX8_byKind_217 : decode cX8_byKind 217 = .ok (.invokevirtual 267, 3) := by decide +kernel
theorem dX8_byKind_220 : decode cX8_byKind 220 = .ok (.iadd, 1) := by decide +kernel
theorem dX8_byKind_221 : decode cX8_byKind 221 = .ok (.ireturn, 1) := by decide +kernel
theorem dX8_byKind_222 : decode cX8_byKind 222 = .ok (.aload_n 0, 1) := by decide +kernel
theorem dX8_byKind_223 : decode cX8_byKind 223 = .ok (.iload 6, 2) := by decide +kernel
theorem dX8_byKind_225 : decode cX8_byKind 225 = .ok (.iload_n 2, 1) := by decide +kernel
theorem dX8_byKind_226 : decode cX8_byKind 226 = .ok (.iconst 0, 1) := by decide +kernel
theorem dX8_byKind_227 : decode cX8_byKind 227 = .ok (.iload 4, 2) := by decide +kernel
theorem dX8_byKind_229 : decode cX8_byKind 229 = .ok (.invokevirtual 260, 3) := by decide +kernel
theorem dX8_byKind_232 : decode cX8_byKind 232 = .ok (.ineg, 1) := by decide +kernel
theorem dX8_byKind_233 : decode cX8_byKind 233 = .ok (.ireturn, 1) := by decide +kernel
theorem dX8_byKind_234 : decode cX8_byKind 234 = .ok (.aload_n 0, 1) := by decide +kernel
theorem dX8_byKind_235 : decode cX8_byKind 235 = .ok (.iload 6, 2) := by decide +kernel
theorem dX8_byKind_237 : decode cX8_byKind 237 = .ok (.iload_n 2, 1) := by decide +kernel
theorem dX8_byKind_238 : decode cX8_byKind 238 = .ok (.iconst 1, 1) := by decide +kernel
theorem dX8_byKind_239 : decode cX8_byKind 239 = .ok (.iload 4, 2) := by decide +kernel
theorem dX8_byKind_241 : decode cX8_byKind 241 = .ok (.iconst 1, 1) := by decide +kernel
theorem dX8_byKind_242 : decode cX8_byKind 242 = .ok (.iadd, 1) := by decide +kernel
theorem dX8_byKind_243 : decode cX8_byKind 243 = .ok (.invokevirtual 260, 3) := by decide +kernel
theorem dX8_byKind_246 : decode cX8_byKind 246 = .ok (.ireturn, 1) := by decide +kernel
theorem dX8_byKind_247 : decode cX8_byKind 247 = .ok (.aload_n 0, 1) := by decide +kernel
theorem dX8_byKind_248 : decode cX8_byKind 248 = .ok (.iload 6, 2) := by decide +kernel
theorem dX8_byKind_250 : decode cX8_byKind 250 = .ok (.iload_n 2, 1) := by decide +kernel
theorem dX8_byKind_251 : decode cX8_byKind 251 = .ok (.iconst 2, 1) := by decide +kernel
theorem dX8_byKind_252 : decode cX8_byKind 252 = .ok (.iload 4, 2) := by decide +kernel
theorem dX8_byKind_254 : decode cX8_byKind 254 = .ok (.iload_n 2, 1) := by decide +kernel
theorem dX8_byKind_255 : decode cX8_byKind 255 = .ok (.isub, 1) := by decide +kernel
theorem dX8_byKind_256 : decode cX8_byKind 256 = .ok (.invokevirtual 260, 3) := by decide +kernel
theorem dX8_byKind_259 : decode cX8_byKind 259 = .ok (.ireturn, 1) := by decide +kernel
theorem dX8_byKind_260 : decode cX8_byKind 260 = .ok (.aload_n 0, 1) := by decide +kernel
theorem dX8_byKind_261 : decode cX8_byKind 261 = .ok (.iload 6, 2) := by decide +kernel
theorem dX8_byKind_263 : decode cX8_byKind 263 = .ok (.iload_n 2, 1) := by decide +kernel
theorem dX8_byKind_264 : decode cX8_byKind 264 = .ok (.iconst 1, 1) := by decide +kernel
theorem dX8_byKind_265 : decode cX8_byKind 265 = .ok (.iload 4, 2) := by decide +kernel
theorem dX8_byKind_267 : decode cX8_byKind 267 = .ok (.invokevirtual 260, 3) := by decide +kernel
theorem dX8_byKind_270 : decode cX8_byKind 270 = .ok (.aload_n 0, 1) := by decide +kernel
theorem dX8_byKind_271 : decode cX8_byKind 271 = .ok (.iload 6, 2) := by decide +kernel
theorem dX8_byKind_273 : decode cX8_byKind 273 = .ok (.iload_n 2, 1) := by decide +kernel
theorem dX8_byKind_274 : decode cX8_byKind 274 = .ok (.iconst 0, 1) := by decide +kernel
theorem dX8_byKind_275 : decode cX8_byKind 275 = .ok (.iconst 2, 1) := by decide +kernel
theorem dX8_byKind_276 : decode cX8_byKind 276 = .ok (.invokevirtual 260, 3) := by decide +kernel
theorem dX8_byKind_279 : decode cX8_byKind 279 = .ok (.iadd, 1) := by decide +kernel
theorem dX8_byKind_280 : decode cX8_byKind 280 = .ok (.ireturn, 1) := by decide +kernel
theorem dX8_byKind_281 : decode cX8_byKind 281 = .ok (.aload_n 0, 1) := by decide +kernel
theorem dX8_byKind_282 : decode cX8_byKind 282 = .ok (.iload 6, 2) := by decide +kernel
theorem dX8_byKind_284 : decode cX8_byKind 284 = .ok (.iload_n 2, 1) := by decide +kernel
theorem dX8_byKind_285 : decode cX8_byKind 285 = .ok (.iconst 0, 1) := by decide +kernel
theorem dX8_byKind_286 : decode cX8_byKind 286 = .ok (.iload 4, 2) := by decide +kernel
theorem dX8_byKind_288 : decode cX8_byKind 288 = .ok (.invokevirtual 260, 3) := by decide +kernel
theorem dX8_byKind_291 : decode cX8_byKind 291 = .ok (.aload_n 0, 1) := by decide +kernel
theorem dX8_byKind_292 : decode cX8_byKind 292 = .ok (.iload_n 2, 1) := by decide +kernel
theorem dX8_byKind_293 : decode cX8_byKind 293 = .ok (.iconst 1, 1) := by decide +kernel
theorem dX8_byKind_294 : decode cX8_byKind 294 = .ok (.invokevirtual 83, 3) := by decide +kernel
theorem dX8_byKind_297 : decode cX8_byKind 297 = .ok (.ixor, 1) := by decide +kernel
theorem dX8_byKind_298 : decode cX8_byKind 298 = .ok (.ireturn, 1) := by decide +kernel
set_option maxRecDepth 20000 in
theorem ggX8_act_X8_isOne : GoodIn wsX8_act wsX8_isOne := goodIn_r _ [6, 7, 8, 9, 5, 10, 30, 31, 32, 33, 34, 35, 36, 37, 38, 39, 40, 41, 42, 43, 44, 45, 46, 47, 48, 49, 50, 51, 52, 53, 54, 55, 56, 57, 58] rfl (by decide +kernel)
set_option maxRecDepth 20000 in
theorem gX8_act_X8_isOne : GoodIn wsX8_act (wsV RX8 94 RX8 yX8_isOne wsX8_isOne) := goodIn_app (goodIn_of _ (by decide +kernel)) ggX8_act_X8_isOne
set_option maxRecDepth 20000 in
theorem ggX8_act_X8_isIn : GoodIn wsX8_act wsX8_isIn := goodIn_r _ [10] rfl (by decide +kernel)
set_option maxRecDepth 20000 in
theorem gX8_act_X8_isIn : GoodIn wsX8_act (va_wsS RX8 79 yX8_isIn wsX8_isIn) := goodIn_app (goodIn_of _ (by decide +kernel)) ggX8_act_X8_isIn
set_option maxRecDepth 20000 in
theorem ggX8_act_X8_all : GoodIn wsX8_act wsX8_all := goodIn_r _ [14, 15, 16, 17, 5, 18, 7, 19, 20, 21, 22, 23, 24, 25, 26, 27, 28, 1, 29, 11, 12, 13, 30, 31, 32, 33, 34, 35, 36, 37, 38, 39, 40, 41, 42, 43, 44, 45, 46, 47, 48, 49, 50, 51, 52, 53, 54, 55, 56, 57, 58] rfl (by decide +kernel)
set_option maxRecDepth 20000 in
theorem gX8_act_X8_all : GoodIn wsX8_act (wsV RX8 267 RX8 yX8_all wsX8_all) := goodIn_app (goodIn_of _ (by decide +kernel)) ggX8_act_X8_all
theorem dX8_act_0 : decode cX8_act 0 = .ok (.aload_n 0, 1) := by decide +kernel
theorem dX8_act_1 : decode cX8_act 1 = .ok (.iconst 0, 1) := by decide +kernel
theorem dX8_act_2 : decode cX8_act 2 = .ok (.putfield 257, 3) := by decide +kernel
theorem dX8_act_5 : decode cX8_act 5 = .ok (.aload_n 0, 1) := by decide +kernel
theorem dX8_act_6 : decode cX8_act 6 = .ok (.iload_n 1, 1) := by decide +kernel
theorem dX8_act_7 : decode cX8_act 7 = .ok (.invokevirtual 94, 3) := by decide +kernel
theorem dX8_act_10 : decode cX8_act 10 = .ok (.ifCond .eq 22, 3) := by decide +kernel
theorem dX8_act_13 : decode cX8_act 13 = .ok (.iload_n 2, 1) := by decide +kernel
theorem dX8_act_14 : decode cX8_act 14 = .ok (.iconst 0, 1) := by decide +kernel
theorem dX8_act_15 : decode cX8_act 15 = .ok (.iconst 2, 1) := by decide +kernel
theorem dX8_act_16 : decode cX8_act 16 = .ok (.invokestatic 79, 3) := by decide +kernel
theorem dX8_act_19 : decode cX8_act 19 = .ok (.ifCond .eq 13, 3) := by decide +kernel
theorem dX8_act_22 : decode cX8_act 22 = .ok (.aload_n 0, 1) := by decide +kernel
theorem dX8_act_23 : decode cX8_act 23 = .ok (.iload_n 1, 1) := by decide +kernel
theorem dX8_act_24 : decode cX8_act 24 = .ok (.iload_n 2, 1) := by decide +kernel
theorem dX8_act_25 : decode cX8_act 25 = .ok (.iload_n 3, 1) := by decide +kernel
theorem dX8_act_26 : decode cX8_act 26 = .ok (.invokevirtual 267, 3) := by decide +kernel
theorem dX8_act_29 : decode cX8_act 29 = .ok (.goto 4, 3) := by decide +kernel
theorem dX8_act_32 : decode cX8_act 32 = .ok (.iconst 0, 1) := by decide +kernel
theorem dX8_act_33 : decode cX8_act 33 = .ok (.ireturn, 1) := by decide +kernel
set_option maxRecDepth 20000 in
theorem ggX8_trace_X8_isIn : GoodIn wsX8_trace wsX8_isIn := goodIn_r _ [10] rfl (by decide +kernel)
set_option maxRecDepth 20000 in
theorem gX8_trace_X8_isIn : GoodIn wsX8_trace (va_wsS RX8 79 yX8_isIn wsX8_isIn) := goodIn_app (goodIn_of _ (by decide +kernel)) ggX8_trace_X8_isIn
theorem dX8_trace_0 : decode cX8_trace 0 = .ok (.iload_n 1, 1) := by decide +kernel
theorem dX8_trace_1 : decode cX8_trace 1 = .ok (.iconst 0, 1) := by decide +kernel
theorem dX8_trace_2 : decode cX8_trace 2 = .ok (.bipush 20, 2) := by decide +kernel
theorem dX8_trace_4 : decode cX8_trace 4 = .ok (.aload_n 0, 1) := by decide +kernel
theorem dX8_trace_5 : decode cX8_trace 5 = .ok (.getfield 257, 3) := by decide +kernel
theorem dX8_trace_8 : decode cX8_trace 8 = .ok (.invokestatic 205, 3) := by decide +kernel
theorem dX8_trace_11 : decode cX8_trace 11 = .ok (.iconst 1, 1) := by decide +kernel
theorem dX8_trace_12 : decode cX8_trace 12 = .ok (.isub, 1) := by decide +kernel
theorem dX8_trace_13 : decode cX8_trace 13 = .ok (.invokestatic 79, 3) := by decide +kernel
theorem dX8_trace_16 : decode cX8_trace 16 = .ok (.ifCond .eq 12, 3) := by decide +kernel
theorem dX8_trace_19 : decode cX8_trace 19 = .ok (.aload_n 0, 1) := by decide +kernel
theorem dX8_trace_20 : decode cX8_trace 20 = .ok (.getfield 55, 3) := by decide +kernel
theorem dX8_trace_23 : decode cX8_trace 23 = .ok (.iload_n 1, 1) := by decide +kernel
theorem dX8_trace_24 : decode cX8_trace 24 = .ok (.iaload, 1) := by decide +kernel
theorem dX8_trace_25 : decode cX8_trace 25 = .ok (.goto 4, 3) := by decide +kernel
theorem dX8_trace_28 : decode cX8_trace 28 = .ok (.iconst (-1), 1) := by decide +kernel
theorem dX8_trace_29 : decode cX8_trace 29 = .ok (.ireturn, 1) := by decide +kernel
set_option maxRecDepth 20000 in
theorem ggX8_taken_X8_isIn : GoodIn wsX8_taken wsX8_isIn := goodIn_r _ [5] rfl (by decide +kernel)
set_option maxRecDepth 20000 in
theorem gX8_taken_X8_isIn : GoodIn wsX8_taken (va_wsS RX8 79 yX8_isIn wsX8_isIn) := goodIn_app (goodIn_of _ (by decide +kernel)) ggX8_taken_X8_isIn
set_option maxRecDepth 20000 in
theorem ggX8_taken_X8_isOne : GoodIn wsX8_taken wsX8_isOne := goodIn_r _ [9, 10, 2, 3, 4, 5, 15, 16, 17, 18, 19, 20, 21, 22, 23, 24, 25, 26, 27, 28, 29, 30, 31, 32, 33, 34, 35, 36, 37, 38, 39, 40, 41, 42, 43] rfl (by decide +kernel)
set_option maxRecDepth 20000 in
theorem gX8_taken_X8_isOne : GoodIn wsX8_taken (wsV RX8 94 RX8 yX8_isOne wsX8_isOne) := goodIn_app (goodIn_of _ (by decide +kernel)) ggX8_taken_X8_isOne
set_option maxRecDepth 20000 in
theorem ggX8_taken_X8_number : GoodIn wsX8_taken wsX8_number := goodIn_r _ [14, 10, 15, 16, 17, 18, 19, 20, 21, 22, 23, 24, 25, 26, 27, 28, 29, 30, 31, 32, 33, 34, 35, 36, 37, 38, 39, 40, 41, 42, 43] rfl (by decide +kernel)
set_option maxRecDepth 20000 in
theorem gX8_taken_X8_number : GoodIn wsX8_taken (wsV RX8 83 RX8 yX8_number wsX8_number) := goodIn_app (goodIn_of _ (by decide +kernel)) ggX8_taken_X8_number
theorem dX8_taken_0 : decode cX8_taken 0 = .ok (.iload_n 2, 1) := by decide +kernel
theorem dX8_taken_1 : decode cX8_taken 1 = .ok (.iconst 0, 1) := by decide +kernel
theorem dX8_taken_2 : decode cX8_taken 2 = .ok (.bipush 6, 2) := by decide +kernel
theorem dX8_taken_4 : decode cX8_taken 4 = .ok (.invokestatic 79, 3) := by decide +kernel
theorem dX8_taken_7 : decode cX8_taken 7 = .ok (.ifCond .ne 6, 3) := by decide +kernel
theorem dX8_taken_10 : decode cX8_taken 10 = .ok (.bipush (-2), 2) := by decide +kernel
theorem dX8_taken_12 : decode cX8_taken 12 = .ok (.ireturn, 1) := by decide +kernel
theorem dX8_taken_13 : decode cX8_taken 13 = .ok (.aload_n 0, 1) := by decide +kernel
theorem dX8_taken_14 : decode cX8_taken 14 = .ok (.iload_n 1, 1) := by decide +kernel
theorem dX8_taken_15 : decode cX8_taken 15 = .ok (.invokevirtual 94, 3) := by decide +kernel
theorem dX8_taken_18 : decode cX8_taken 18 = .ok (.ifCond .ne 6, 3) := by decide +kernel
theorem dX8_taken_21 : decode cX8_taken 21 = .ok (.bipush (-11), 2) := by decide +kernel
theorem dX8_taken_23 : decode cX8_taken 23 = .ok (.ireturn, 1) := by decide +kernel
theorem dX8_taken_24 : decode cX8_taken 24 = .ok (.aload_n 0, 1) := by decide +kernel
theorem dX8_taken_25 : decode cX8_taken 25 = .ok (.iload_n 1, 1) := by decide +kernel
theorem dX8_taken_26 : decode cX8_taken 26 = .ok (.iconst 0, 1) := by decide +kernel
theorem dX8_taken_27 : decode cX8_taken 27 = .ok (.invokevirtual 83, 3) := by decide +kernel
theorem dX8_taken_30 : decode cX8_taken 30 = .ok (.istore_n 3, 1) := by decide +kernel
theorem dX8_taken_31 : decode cX8_taken 31 = .ok (.iload_n 3, 1) := by decide +kernel
theorem dX8_taken_32 : decode cX8_taken 32 = .ok (.iconst (-1), 1) := by decide +kernel
theorem dX8_taken_33 : decode cX8_taken 33 = .ok (.if_icmp .eq 18, 3) := by decide +kernel
theorem dX8_taken_36 : decode cX8_taken 36 = .ok (.iload_n 3, 1) := by decide +kernel
theorem dX8_taken_37 : decode cX8_taken 37 = .ok (.iload_n 2, 1) := by decide +kernel
theorem dX8_taken_38 : decode cX8_taken 38 = .ok (.if_icmp .eq 13, 3) := by decide +kernel
theorem dX8_taken_41 : decode cX8_taken 41 = .ok (.aload_n 0, 1) := by decide +kernel
theorem dX8_taken_42 : decode cX8_taken 42 = .ok (.getfield 49, 3) := by decide +kernel
theorem dX8_taken_45 : decode cX8_taken 45 = .ok (.iload_n 3, 1) := by decide +kernel
theorem dX8_taken_46 : decode cX8_taken 46 = .ok (.iaload, 1) := by decide +kernel
theorem dX8_taken_47 : decode cX8_taken 47 = .ok (.istore_n 3, 1) := by decide +kernel
theorem dX8_taken_48 : decode cX8_taken 48 = .ok (.goto (-17), 3) := by decide +kernel
theorem dX8_taken_51 : decode cX8_taken 51 = .ok (.iload_n 3, 1) := by decide +kernel
theorem dX8_taken_52 : decode cX8_taken 52 = .ok (.iload_n 2, 1) := by decide +kernel
theorem dX8_taken_53 : decode cX8_taken 53 = .ok (.if_icmp .ne 12, 3) := by decide +kernel
theorem dX8_taken_56 : decode cX8_taken 56 = .ok (.aload_n 0, 1) := by decide +kernel
theorem dX8_taken_57 : decode cX8_taken 57 = .ok (.iload_n 1, 1) := by decide +kernel
theorem dX8_taken_58 : decode cX8_taken 58 = .ok (.iconst 0, 1) := by decide +kernel
theorem dX8_taken_59 : decode cX8_taken 59 = .ok (.invokevirtual 83, 3) := by decide +kernel
theorem dX8_taken_62 : decode cX8_taken 62 = .ok (.goto 5, 3) := by decide +kernel
theorem dX8_taken_65 : decode cX8_taken 65 = .ok (.bipush (-12), 2) := by decide +kernel
theorem dX8_taken_67 : decode cX8_taken 67 = .ok (.ireturn, 1) := by decide +kernel
theorem dX8_count_0 : decode cX8_count 0 = .ok (.iload_n 1, 1) := by decide +kernel
theorem dX8_count_1 : decode cX8_count 1 = .ok (.tableswitch 102 0 7 #[47, 55, 63, 68, 76, 84, 92, 97], 47) := by decide +kernel
theorem dX8_count_48 : decode cX8_count 48 = .ok (.aload_n 0, 1) := by decide +kernel
theorem dX8_count_49 : decode cX8_count 49 = .ok (.getfield 9, 3) := by decide +kernel
theorem dX8_count_52 : decode cX8_count 52 = .ok (.bipush 54, 2) := by decide +kernel
theorem dX8_count_54 : decode cX8_count 54 = .ok (.iaload, 1) := by decide +kernel
theorem dX8_count_55 : decode cX8_count 55 = .ok (.ireturn, 1) := by decide +kernel
theorem dX8_count_56 : decode cX8_count 56 = .ok (.aload_n 0, 1) := by decide +kernel
theorem dX8_count_57 : decode cX8_count 57 = .ok (.getfield 9, 3) := by decide +kernel
theorem dX8_count_60 : decode cX8_count 60 = .ok (.bipush 55, 2) := by decide +kernel
theorem dX8_count_62 : decode cX8_count 62 = .ok (.iaload, 1) := by decide +kernel
theorem dX8_count_63 : decode cX8_count 63 = .ok (.ireturn, 1) := by decide +kernel
theorem dX8_count_64 : decode cX8_count 64 = .ok (.aload_n 0, 1) := by decide +kernel
theorem dX8_count_65 : decode cX8_count 65 = .ok (.getfield 196, 3) := by decide +kernel
theorem dX8_count_68 : decode cX8_count 68 = .ok (.ireturn, 1) := by decide +kernel
theorem dX8_count_69 : decode cX8_count 69 = .ok (.aload_n 0, 1) := by decide +kernel
theorem dX8_count_70 : decode cX8_count 70 = .ok (.getfield 9, 3) := by decide +kernel
theorem dX8_count_73 : decode cX8_count 73 = .ok (.bipush 59, 2) := by decide +kernel
theorem dX8_count_75 : decode cX8_count 75 = .ok (.iaload, 1) := by decide +kernel
theorem dX8_count_76 : decode cX8_count 76 = .ok (.ireturn, 1) := by decide +kernel
theorem dX8_count_77 : decode cX8_count 77 = .ok (.aload_n 0, 1) := by decide +kernel
theorem dX8_count_78 : decode cX8_count 78 = .ok (.getfield 9, 3) := by decide +kernel
theorem dX8_count_81 : decode cX8_count 81 = .ok (.bipush 75, 2) := by decide +kernel
theorem dX8_count_83 : decode cX8_count 83 = .ok (.iaload, 1) := by decide +kernel
theorem dX8_count_84 : decode cX8_count 84 = .ok (.ireturn, 1) := by decide +kernel
theorem dX8_count_85 : decode cX8_count 85 = .ok (.aload_n 0, 1) := by decide +kernel
theorem dX8_count_86 : decode cX8_count 86 = .ok (.getfield 9, 3) := by decide +kernel
theorem dX8_count_89 : decode cX8_count 89 = .ok (.bipush 96, 2) := by decide +kernel
theorem dX8_count_91 : decode cX8_count 91 = .ok (.iaload, 1) := by decide +kernel
theorem dX8_count_92 : decode cX8_count 92 = .ok (.ireturn, 1) := by decide +kernel
theorem dX8_count_93 : decode cX8_count 93 = .ok (.aload_n 0, 1) := by decide +kernel
theorem dX8_count_94 : decode cX8_count 94 = .ok (.getfield 142, 3) := by decide +kernel
theorem dX8_count_97 : decode cX8_count 97 = .ok (.ireturn, 1) := by decide +kernel
theorem dX8_count_98 : decode cX8_count 98 = .ok (.aload_n 0, 1) := by decide +kernel
theorem dX8_count_99 : decode cX8_count 99 = .ok (.getfield 257, 3) := by decide +kernel
theorem dX8_count_102 : decode cX8_count 102 = .ok (.ireturn, 1) := by decide +kernel
theorem dX8_count_103 : decode cX8_count 103 = .ok (.bipush (-2), 2) := by decide +kernel
theorem dX8_count_105 : decode cX8_count 105 = .ok (.ireturn, 1) := by decide +kernel
set_option maxRecDepth 20000 in
theorem ggX8_isTape_X8_isIn : GoodIn wsX8_isTape wsX8_isIn := goodIn_r _ [4] rfl (by decide +kernel)
set_option maxRecDepth 20000 in
theorem gX8_isTape_X8_isIn : GoodIn wsX8_isTape (va_wsS RX8 79 yX8_isIn wsX8_isIn) := goodIn_app (goodIn_of _ (by decide +kernel)) ggX8_isTape_X8_isIn
theorem dX8_isTape_0 : decode cX8_isTape 0 = .ok (.iload_n 0, 1) := by decide +kernel
theorem dX8_isTape_1 : decode cX8_isTape 1 = .ok (.iconst 0, 1) := by decide +kernel
theorem dX8_isTape_2 : decode cX8_isTape 2 = .ok (.iconst 5, 1) := by decide +kernel
theorem dX8_isTape_3 : decode cX8_isTape 3 = .ok (.invokestatic 79, 3) := by decide +kernel
theorem dX8_isTape_6 : decode cX8_isTape 6 = .ok (.ireturn, 1) := by decide +kernel
set_option maxRecDepth 20000 in
theorem ggX8_tape_X8_isTape : GoodIn wsX8_tape wsX8_isTape := goodIn_r _ [7, 8, 9, 6, 10] rfl (by decide +kernel)
set_option maxRecDepth 20000 in
theorem gX8_tape_X8_isTape : GoodIn wsX8_tape (va_wsS RX8 270 yX8_isTape wsX8_isTape) := goodIn_app (goodIn_of _ (by decide +kernel)) ggX8_tape_X8_isTape
set_option maxRecDepth 20000 in
theorem ggX8_tape_X8_isIn : GoodIn wsX8_tape wsX8_isIn := goodIn_r _ [10] rfl (by decide +kernel)
set_option maxRecDepth 20000 in
theorem gX8_tape_X8_isIn : GoodIn wsX8_tape (va_wsS RX8 79 yX8_isIn wsX8_isIn) := goodIn_app (goodIn_of _ (by decide +kernel)) ggX8_tape_X8_isIn
theorem dX8_tape_0 : decode cX8_tape 0 = .ok (.iload_n 1, 1) := by decide +kernel
theorem dX8_tape_1 : decode cX8_tape 1 = .ok (.invokestatic 270, 3) := by decide +kernel
theorem dX8_tape_4 : decode cX8_tape 4 = .ok (.ifCond .ne 5, 3) := by decide +kernel
theorem dX8_tape_7 : decode cX8_tape 7 = .ok (.iconst (-1), 1) := by decide +kernel
theorem dX8_tape_8 : decode cX8_tape 8 = .ok (.ireturn, 1) := by decide +kernel
theorem dX8_tape_9 : decode cX8_tape 9 = .ok (.iload_n 2, 1) := by decide +kernel
theorem dX8_tape_10 : decode cX8_tape 10 = .ok (.iconst (-1), 1) := by decide +kernel
theorem dX8_tape_11 : decode cX8_tape 11 = .ok (.iconst 4, 1) := by decide +kernel
theorem dX8_tape_12 : decode cX8_tape 12 = .ok (.invokestatic 79, 3) := by decide +kernel
theorem dX8_tape_15 : decode cX8_tape 15 = .ok (.ifCond .eq 13, 3) := by decide +kernel
theorem dX8_tape_18 : decode cX8_tape 18 = .ok (.iload_n 2, 1) := by decide +kernel
theorem dX8_tape_19 : decode cX8_tape 19 = .ok (.ifCond .lt 12, 3) := by decide +kernel
theorem dX8_tape_22 : decode cX8_tape 22 = .ok (.iload_n 3, 1) := by decide +kernel
theorem dX8_tape_23 : decode cX8_tape 23 = .ok (.bipush 60, 2) := by decide +kernel
theorem dX8_tape_25 : decode cX8_tape 25 = .ok (.if_icmp .le 6, 3) := by decide +kernel
theorem dX8_tape_28 : decode cX8_tape 28 = .ok (.bipush (-2), 2) := by decide +kernel
theorem dX8_tape_30 : decode cX8_tape 30 = .ok (.ireturn, 1) := by decide +kernel
theorem dX8_tape_31 : decode cX8_tape 31 = .ok (.iload_n 2, 1) := by decide +kernel
theorem dX8_tape_32 : decode cX8_tape 32 = .ok (.ifCond .lt 10, 3) := by decide +kernel
theorem dX8_tape_35 : decode cX8_tape 35 = .ok (.iload_n 3, 1) := by decide +kernel
theorem dX8_tape_36 : decode cX8_tape 36 = .ok (.ifCond .ge 6, 3) := by decide +kernel
theorem dX8_tape_39 : decode cX8_tape 39 = .ok (.bipush (-14), 2) := by decide +kernel
theorem dX8_tape_41 : decode cX8_tape 41 = .ok (.ireturn, 1) := by decide +kernel
theorem dX8_tape_42 : decode cX8_tape 42 = .ok (.aload_n 0, 1) := by decide +kernel
theorem dX8_tape_43 : decode cX8_tape 43 = .ok (.getfield 58, 3) := by decide +kernel
theorem dX8_tape_46 : decode cX8_tape 46 = .ok (.iload_n 1, 1) := by decide +kernel
theorem dX8_tape_47 : decode cX8_tape 47 = .ok (.iload_n 2, 1) := by decide +kernel
theorem dX8_tape_48 : decode cX8_tape 48 = .ok (.iastore, 1) := by decide +kernel
theorem dX8_tape_49 : decode cX8_tape 49 = .ok (.aload_n 0, 1) := by decide +kernel
theorem dX8_tape_50 : decode cX8_tape 50 = .ok (.getfield 61, 3) := by decide +kernel
theorem dX8_tape_53 : decode cX8_tape 53 = .ok (.iload_n 1, 1) := by decide +kernel
theorem dX8_tape_54 : decode cX8_tape 54 = .ok (.iload_n 2, 1) := by decide +kernel
theorem dX8_tape_55 : decode cX8_tape 55 = .ok (.ifCond .ge 7, 3) := by decide +kernel
theorem dX8_tape_58 : decode cX8_tape 58 = .ok (.iconst 0, 1) := by decide +kernel
theorem dX8_tape_59 : decode cX8_tape 59 = .ok (.goto 4, 3) := by decide +kernel
theorem dX8_tape_62 : decode cX8_tape 62 = .ok (.iload_n 3, 1) := by decide +kernel
theorem dX8_tape_63 : decode cX8_tape 63 = .ok (.iastore, 1) := by decide +kernel
theorem dX8_tape_64 : decode cX8_tape 64 = .ok (.iconst 0, 1) := by decide +kernel
theorem dX8_tape_65 : decode cX8_tape 65 = .ok (.istore 4, 2) := by decide +kernel
theorem dX8_tape_67 : decode cX8_tape 67 = .ok (.iload 4, 2) := by decide +kernel
theorem dX8_tape_69 : decode cX8_tape 69 = .ok (.bipush 60, 2) := by decide +kernel
theorem dX8_tape_71 : decode cX8_tape 71 = .ok (.if_icmp .ge 22, 3) := by decide +kernel
theorem dX8_tape_74 : decode cX8_tape 74 = .ok (.aload_n 0, 1) := by decide +kernel
theorem dX8_tape_75 : decode cX8_tape 75 = .ok (.getfield 64, 3) := by decide +kernel
theorem dX8_tape_78 : decode cX8_tape 78 = .ok (.bipush 60, 2) := by decide +kernel
theorem dX8_tape_80 : decode cX8_tape 80 = .ok (.iload_n 1, 1) := by decide +kernel
theorem dX8_tape_81 : decode cX8_tape 81 = .ok (.imul, 1) := by decide +kernel
theorem dX8_tape_82 : decode cX8_tape 82 = .ok (.iload 4, 2) := by decide +kernel
theorem dX8_tape_84 : decode cX8_tape 84 = .ok (.iadd, 1) := by decide +kernel
theorem dX8_tape_85 : decode cX8_tape 85 = .ok (.lconst 0, 1) := by decide +kernel
theorem dX8_tape_86 : decode cX8_tape 86 = .ok (.lastore, 1) := by decide +kernel
theorem dX8_tape_87 : decode cX8_tape 87 = .ok (.iinc 4 1, 3) := by decide +kernel
theorem dX8_tape_90 : decode cX8_tape 90 = .ok (.goto (-23), 3) := by decide +kernel
theorem dX8_tape_93 : decode cX8_tape 93 = .ok (.iconst 1, 1) := by decide +kernel
theorem dX8_tape_94 : decode cX8_tape 94 = .ok (.ireturn, 1) := by decide +kernel
set_option maxRecDepth 20000 in
theorem ggX8_item_X8_isTape : GoodIn wsX8_item wsX8_isTape := goodIn_r _ [7, 8, 9, 6, 10] rfl (by decide +kernel)
set_option maxRecDepth 20000 in
theorem gX8_item_X8_isTape : GoodIn wsX8_item (va_wsS RX8 270 yX8_isTape wsX8_isTape) := goodIn_app (goodIn_of _ (by decide +kernel)) ggX8_item_X8_isTape
set_option maxRecDepth 20000 in
theorem ggX8_item_X8_isIn : GoodIn wsX8_item wsX8_isIn := goodIn_r _ [10] rfl (by decide +kernel)
set_option maxRecDepth 20000 in
theorem gX8_item_X8_isIn : GoodIn wsX8_item (va_wsS RX8 79 yX8_isIn wsX8_isIn) := goodIn_app (goodIn_of _ (by decide +kernel)) ggX8_item_X8_isIn
theorem dX8_item_0 : decode cX8_item 0 = .ok (.iload_n 1, 1) := by decide +kernel
theorem dX8_item_1 : decode cX8_item 1 = .ok (.invokestatic 270, 3) := by decide +kernel
theorem dX8_item_4 : decode cX8_item 4 = .ok (.ifCond .ne 5, 3) := by decide +kernel
theorem dX8_item_7 : decode cX8_item 7 = .ok (.iconst (-1), 1) := by decide +kernel
theorem dX8_item_8 : decode cX8_item 8 = .ok (.ireturn, 1) := by decide +kernel
theorem dX8_item_9 : decode cX8_item 9 = .ok (.aload_n 0, 1) := by decide +kernel
theorem dX8_item_10 : decode cX8_item 10 = .ok (.getfield 58, 3) := by decide +kernel
theorem dX8_item_13 : decode cX8_item 13 = .ok (.iload_n 1, 1) := by decide +kernel
theorem dX8_item_14 : decode cX8_item 14 = .ok (.iaload, 1) := by decide +kernel
theorem dX8_item_15 : decode cX8_item 15 = .ok (.ifCond .ge 6, 3) := by decide +kernel
theorem dX8_item_18 : decode cX8_item 18 = .ok (.bipush (-11), 2) := by decide +kernel
theorem dX8_item_20 : decode cX8_item 20 = .ok (.ireturn, 1) := by decide +kernel
theorem dX8_item_21 : decode cX8_item 21 = .ok (.iload_n 2, 1) := by decide +kernel
theorem dX8_item_22 : decode cX8_item 22 = .ok (.iconst 0, 1) := by decide +kernel
theorem dX8_item_23 : decode cX8_item 23 = .ok (.aload_n 0, 1) := by decide +kernel
theorem dX8_item_24 : decode cX8_item 24 = .ok (.getfield 61, 3) := by decide +kernel
theorem dX8_item_27 : decode cX8_item 27 = .ok (.iload_n 1, 1) := by decide +kernel
theorem dX8_item_28 : decode cX8_item 28 = .ok (.iaload, 1) := by decide +kernel
theorem dX8_item_29 : decode cX8_item 29 = .ok (.iconst 1, 1) := by decide +kernel
theorem dX8_item_30 : decode cX8_item 30 = .ok (.isub, 1) := by decide +kernel
theorem dX8_item_31 : decode cX8_item 31 = .ok (.invokestatic 79, 3) := by decide +kernel
theorem dX8_item_34 : decode cX8_item 34 = .ok (.ifCond .ne 6, 3) := by decide +kernel
theorem dX8_item_37 : decode cX8_item 37 = .ok (.bipush (-13), 2) := by decide +kernel
theorem dX8_item_39 : decode cX8_item 39 = .ok (.ireturn, 1) := by decide +kernel
theorem dX8_item_40 : decode cX8_item 40 = .ok (.aload_n 0, 1) := by decide +kernel
theorem dX8_item_41 : decode cX8_item 41 = .ok (.getfield 58, 3) := by decide +kernel
theorem dX8_item_44 : decode cX8_item 44 = .ok (.iload_n 1, 1) := by decide +kernel
theorem dX8_item_45 : decode cX8_item 45 = .ok (.iaload, 1) := by decide +kernel
theorem dX8_item_46 : decode cX8_item 46 = .ok (.istore 5, 2) := by decide +kernel
theorem dX8_item_48 : decode cX8_item 48 = .ok (.aload_n 0, 1) := by decide +kernel
theorem dX8_item_49 : decode cX8_item 49 = .ok (.getfield 64, 3) := by decide +kernel
theorem dX8_item_52 : decode cX8_item 52 = .ok (.bipush 60, 2) := by decide +kernel
theorem dX8_item_54 : decode cX8_item 54 = .ok (.iload_n 1, 1) := by decide +kernel
theorem dX8_item_55 : decode cX8_item 55 = .ok (.imul, 1) := by decide +kernel
theorem dX8_item_56 : decode cX8_item 56 = .ok (.iload_n 2, 1) := by decide +kernel
theorem dX8_item_57 : decode cX8_item 57 = .ok (.iadd, 1) := by decide +kernel
theorem dX8_item_58 : decode cX8_item 58 = .ok (.iload 5, 2) := by decide +kernel
theorem dX8_item_60 : decode cX8_item 60 = .ok (.ifCond .ne 10, 3) := by decide +kernel
theorem dX8_item_63 : decode cX8_item 63 = .ok (.lload_n 3, 1) := by decide +kernel
theorem dX8_item_64 : decode cX8_item 64 = .ok (.l2i, 1) := by decide +kernel
theorem dX8_item_65 : decode cX8_item 65 = .ok (.i2b, 1) := by decide +kernel
theorem dX8_item_66 : decode cX8_item 66 = .ok (.i2l, 1) := by decide +kernel
theorem dX8_item_67 : decode cX8_item 67 = .ok (.goto 49, 3) := by decide +kernel
theorem dX8_item_70 : decode cX8_item 70 = .ok (.iload 5, 2) := by decide +kernel
theorem dX8_item_72 : decode cX8_item 72 = .ok (.iconst 1, 1) := by decide +kernel
theorem dX8_item_73 : decode cX8_item 73 = .ok (.if_icmp .ne 10, 3) := by decide +kernel
theorem dX8_item_76 : decode cX8_item 76 = .ok (.lload_n 3, 1) := by decide +kernel
theorem dX8_item_77 : decode cX8_item 77 = .ok (.l2i, 1) := by decide +kernel
theorem dX8_item_78 : decode cX8_item 78 = .ok (.i2s, 1) := by decide +kernel
theorem dX8_item_79 : decode cX8_item 79 = .ok (.i2l, 1) := by decide +kernel
theorem dX8_item_80 : decode cX8_item 80 = .ok (.goto 36, 3) := by decide +kernel
theorem dX8_item_83 : decode cX8_item 83 = .ok (.iload 5, 2) := by decide +kernel
theorem dX8_item_85 : decode cX8_item 85 = .ok (.iconst 2, 1) := by decide +kernel
theorem dX8_item_86 : decode cX8_item 86 = .ok (.if_icmp .ne 9, 3) := by decide +kernel
theorem dX8_item_89 : decode cX8_item 89 = .ok (.lload_n 3, 1) := by decide +kernel
theorem dX8_item_90 : decode cX8_item 90 = .ok (.l2i, 1) := by decide +kernel
theorem dX8_item_91 : decode cX8_item 91 = .ok (.i2l, 1) := by decide +kernel
theorem dX8_item_92 : decode cX8_item 92 = .ok (.goto 24, 3) := by decide +kernel
theorem dX8_item_95 : decode cX8_item 95 = .ok (.iload 5, 2) := by decide +kernel
theorem dX8_item_97 : decode cX8_item 97 = .ok (.iconst 3, 1) := by decide +kernel
theorem dX8_item_98 : decode cX8_item 98 = .ok (.if_icmp .ne 7, 3) := by decide +kernel
theorem dX8_item_101 : decode cX8_item 101 = .ok (.lload_n 3, 1) := by decide +kernel
theorem dX8_item_102 : decode cX8_item 102 = .ok (.goto 14, 3) := by decide +kernel
theorem dX8_item_105 : decode cX8_item 105 = .ok (.lload_n 3, 1) := by decide +kernel
theorem dX8_item_106 : decode cX8_item 106 = .ok (.lconst 0, 1) := by decide +kernel
theorem dX8_item_107 : decode cX8_item 107 = .ok (.lcmp, 1) := by decide +kernel
theorem dX8_item_108 : decode cX8_item 108 = .ok (.ifCond .eq 7, 3) := by decide +kernel
theorem dX8_item_111 : decode cX8_item 111 = .ok (.lconst 1, 1) := by decide +kernel
theorem dX8_item_112 : decode cX8_item 112 = .ok (.goto 4, 3) := by decide +kernel
theorem dX8_item_115 : decode cX8_item 115 = .ok (.lconst 0, 1) := by decide +kernel
theorem dX8_item_116 : decode cX8_item 116 = .ok (.lastore, 1) := by decide +kernel
theorem dX8_item_117 : decode cX8_item 117 = .ok (.iconst 1, 1) := by decide +kernel
theorem dX8_item_118 : decode cX8_item 118 = .ok (.ireturn, 1) := by decide +kernel
set_option maxRecDepth 20000 in
theorem ggX8_read_X8_isTape : GoodIn wsX8_read wsX8_isTape := goodIn_r _ [7, 8, 9, 6, 10] rfl (by decide +kernel)
set_option maxRecDepth 20000 in
theorem gX8_read_X8_isTape : GoodIn wsX8_read (va_wsS RX8 270 yX8_isTape wsX8_isTape) := goodIn_app (goodIn_of _ (by decide +kernel)) ggX8_read_X8_isTape
set_option maxRecDepth 20000 in
theorem ggX8_read_X8_isIn : GoodIn wsX8_read wsX8_isIn := goodIn_r _ [10] rfl (by decide +kernel)
set_option maxRecDepth 20000 in
theorem gX8_read_X8_isIn : GoodIn wsX8_read (va_wsS RX8 79 yX8_isIn wsX8_isIn) := goodIn_app (goodIn_of _ (by decide +kernel)) ggX8_read_X8_isIn
theorem dX8_read_0 : decode cX8_read 0 = .ok (.iload_n 1, 1) := by decide +kernel
theorem dX8_read_1 : decode cX8_read 1 = .ok (.invokestatic 270, 3) := by decide +kernel
theorem dX8_read_4 : decode cX8_read 4 = .ok (.ifCond .eq 33, 3) := by decide +kernel
theorem dX8_read_7 : decode cX8_read 7 = .ok (.iload_n 2, 1) := by decide +kernel
theorem dX8_read_8 : decode cX8_read 8 = .ok (.iconst 0, 1) := by decide +kernel
theorem dX8_read_9 : decode cX8_read 9 = .ok (.aload_n 0, 1) := by decide +kernel
theorem dX8_read_10 : decode cX8_read 10 = .ok (.getfield 61, 3) := by decide +kernel
theorem dX8_read_13 : decode cX8_read 13 = .ok (.iload_n 1, 1) := by decide +kernel
theorem dX8_read_14 : decode cX8_read 14 = .ok (.iaload, 1) := by decide +kernel
theorem dX8_read_15 : decode cX8_read 15 = .ok (.iconst 1, 1) := by decide +kernel
theorem dX8_read_16 : decode cX8_read 16 = .ok (.isub, 1) := by decide +kernel
theorem dX8_read_17 : decode cX8_read 17 = .ok (.invokestatic 79, 3) := by decide +kernel
theorem dX8_read_20 : decode cX8_read 20 = .ok (.ifCond .eq 17, 3) := by decide +kernel
theorem dX8_read_23 : decode cX8_read 23 = .ok (.aload_n 0, 1) := by decide +kernel
theorem dX8_read_24 : decode cX8_read 24 = .ok (.getfield 64, 3) := by decide +kernel
theorem dX8_read_27 : decode cX8_read 27 = .ok (.bipush 60, 2) := by decide +kernel
theorem dX8_read_29 : decode cX8_read 29 = .ok (.iload_n 1, 1) := by decide +kernel
theorem dX8_read_30 : decode cX8_read 30 = .ok (.imul, 1) := by decide +kernel
theorem dX8_read_31 : decode cX8_read 31 = .ok (.iload_n 2, 1) := by decide +kernel
theorem dX8_read_32 : decode cX8_read 32 = .ok (.iadd, 1) := by decide +kernel
theorem dX8_read_33 : decode cX8_read 33 = .ok (.laload, 1) := by decide +kernel
theorem dX8_read_34 : decode cX8_read 34 = .ok (.goto 6, 3) := by decide +kernel
theorem dX8_read_37 : decode cX8_read 37 = .ok (.ldc2_w 248, 3) := by decide +kernel
theorem dX8_read_40 : decode cX8_read 40 = .ok (.lreturn, 1) := by decide +kernel
set_option maxRecDepth 20000 in
theorem ggX8_shift_X8_isTape : GoodIn wsX8_shift wsX8_isTape := goodIn_r _ [8, 9, 10, 7, 11] rfl (by decide +kernel)
set_option maxRecDepth 20000 in
theorem gX8_shift_X8_isTape : GoodIn wsX8_shift (va_wsS RX8 270 yX8_isTape wsX8_isTape) := goodIn_app (goodIn_of _ (by decide +kernel)) ggX8_shift_X8_isTape
theorem dX8_shift_0 : decode cX8_shift 0 = .ok (.iload_n 1, 1) := by decide +kernel
theorem dX8_shift_1 : decode cX8_shift 1 = .ok (.invokestatic 270, 3) := by decide +kernel
theorem dX8_shift_4 : decode cX8_shift 4 = .ok (.ifCond .eq 10, 3) := by decide +kernel
theorem dX8_shift_7 : decode cX8_shift 7 = .ok (.iload_n 3, 1) := by decide +kernel
theorem dX8_shift_8 : decode cX8_shift 8 = .ok (.invokestatic 270, 3) := by decide +kernel
theorem dX8_shift_11 : decode cX8_shift 11 = .ok (.ifCond .ne 5, 3) := by decide +kernel
theorem dX8_shift_14 : decode cX8_shift 14 = .ok (.iconst (-1), 1) := by decide +kernel
theorem dX8_shift_15 : decode cX8_shift 15 = .ok (.ireturn, 1) := by decide +kernel
theorem dX8_shift_16 : decode cX8_shift 16 = .ok (.aload_n 0, 1) := by decide +kernel
theorem dX8_shift_17 : decode cX8_shift 17 = .ok (.getfield 58, 3) := by decide +kernel
theorem dX8_shift_20 : decode cX8_shift 20 = .ok (.iload_n 1, 1) := by decide +kernel
theorem dX8_shift_21 : decode cX8_shift 21 = .ok (.iaload, 1) := by decide +kernel
theorem dX8_shift_22 : decode cX8_shift 22 = .ok (.ifCond .lt 12, 3) := by decide +kernel
theorem dX8_shift_25 : decode cX8_shift 25 = .ok (.aload_n 0, 1) := by decide +kernel
theorem dX8_shift_26 : decode cX8_shift 26 = .ok (.getfield 58, 3) := by decide +kernel
theorem dX8_shift_29 : decode cX8_shift 29 = .ok (.iload_n 3, 1) := by decide +kernel
theorem dX8_shift_30 : decode cX8_shift 30 = .ok (.iaload, 1) := by decide +kernel
theorem dX8_shift_31 : decode cX8_shift 31 = .ok (.ifCond .ge 6, 3) := by decide +kernel
theorem dX8_shift_34 : decode cX8_shift 34 = .ok (.bipush (-11), 2) := by decide +kernel
theorem dX8_shift_36 : decode cX8_shift 36 = .ok (.ireturn, 1) := by decide +kernel
theorem dX8_shift_37 : decode cX8_shift 37 = .ok (.aload_n 0, 1) := by decide +kernel
theorem dX8_shift_38 : decode cX8_shift 38 = .ok (.getfield 58, 3) := by decide +kernel
theorem dX8_shift_41 : decode cX8_shift 41 = .ok (.iload_n 1, 1) := by decide +kernel
theorem dX8_shift_42 : decode cX8_shift 42 = .ok (.iaload, 1) := by decide +kernel
theorem dX8_shift_43 : decode cX8_shift 43 = .ok (.aload_n 0, 1) := by decide +kernel
theorem dX8_shift_44 : decode cX8_shift 44 = .ok (.getfield 58, 3) := by decide +kernel
theorem dX8_shift_47 : decode cX8_shift 47 = .ok (.iload_n 3, 1) := by decide +kernel
theorem dX8_shift_48 : decode cX8_shift 48 = .ok (.iaload, 1) := by decide +kernel
theorem dX8_shift_49 : decode cX8_shift 49 = .ok (.if_icmp .eq 6, 3) := by decide +kernel
theorem dX8_shift_52 : decode cX8_shift 52 = .ok (.bipush (-12), 2) := by decide +kernel
theorem dX8_shift_54 : decode cX8_shift 54 = .ok (.ireturn, 1) := by decide +kernel
theorem dX8_shift_55 : decode cX8_shift 55 = .ok (.iload 5, 2) := by decide +kernel
theorem dX8_shift_57 : decode cX8_shift 57 = .ok (.ifCond .lt 39, 3) := by decide +kernel
theorem dX8_shift_60 : decode cX8_shift 60 = .ok (.iload_n 2, 1) := by decide +kernel
theorem dX8_shift_61 : decode cX8_shift 61 = .ok (.ifCond .lt 35, 3) := by decide +kernel
theorem dX8_shift_64 : decode cX8_shift 64 = .ok (.iload 4, 2) := by decide +kernel
theorem dX8_shift_66 : decode cX8_shift 66 = .ok (.ifCond .lt 30, 3) := by decide +kernel
theorem dX8_shift_69 : decode cX8_shift 69 = .ok (.iload 5, 2) := by decide +kernel
theorem dX8_shift_71 : decode cX8_shift 71 = .ok (.aload_n 0, 1) := by decide +kernel
theorem dX8_shift_72 : decode cX8_shift 72 = .ok (.getfield 61, 3) := by decide +kernel
theorem dX8_shift_75 : decode cX8_shift 75 = .ok (.iload_n 1, 1) := by decide +kernel
theorem dX8_shift_76 : decode cX8_shift 76 = .ok (.iaload, 1) := by decide +kernel
theorem dX8_shift_77 : decode cX8_shift 77 = .ok (.iload_n 2, 1) := by decide +kernel
theorem dX8_shift_78 : decode cX8_shift 78 = .ok (.isub, 1) := by decide +kernel
theorem dX8_shift_79 : decode cX8_shift 79 = .ok (.if_icmp .gt 17, 3) := by decide +kernel
theorem dX8_shift_82 : decode cX8_shift 82 = .ok (.iload 5, 2) := by decide +kernel
theorem dX8_shift_84 : decode cX8_shift 84 = .ok (.aload_n 0, 1) := by decide +kernel
theorem dX8_shift_85 : decode cX8_shift 85 = .ok (.getfield 61, 3) := by decide +kernel
theorem dX8_shift_88 : decode cX8_shift 88 = .ok (.iload_n 3, 1) := by decide +kernel
theorem dX8_shift_89 : decode cX8_shift 89 = .ok (.iaload, 1) := by decide +kernel
theorem dX8_shift_90 : decode cX8_shift 90 = .ok (.iload 4, 2) := by decide +kernel
theorem dX8_shift_92 : decode cX8_shift 92 = .ok (.isub, 1) := by decide +kernel
theorem dX8_shift_93 : decode cX8_shift 93 = .ok (.if_icmp .le 6, 3) := by decide +kernel
theorem dX8_shift_96 : decode cX8_shift 96 = .ok (.bipush (-13), 2) := by decide +kernel
theorem dX8_shift_98 : decode cX8_shift 98 = .ok (.ireturn, 1) := by decide +kernel
theorem dX8_shift_99 : decode cX8_shift 99 = .ok (.iconst 0, 1) := by decide +kernel
theorem dX8_shift_100 : decode cX8_shift 100 = .ok (.istore 6, 2) := by decide +kernel
theorem dX8_shift_102 : decode cX8_shift 102 = .ok (.iload 6, 2) := by decide +kernel
theorem dX8_shift_104 : decode cX8_shift 104 = .ok (.iload 5, 2) := by decide +kernel
theorem dX8_shift_106 : decode cX8_shift 106 = .ok (.if_icmp .ge 30, 3) := by decide +kernel
theorem dX8_shift_109 : decode cX8_shift 109 = .ok (.aload_n 0, 1) := by decide +kernel
theorem dX8_shift_110 : decode cX8_shift 110 = .ok (.getfield 68, 3) := by decide +kernel
theorem dX8_shift_113 : decode cX8_shift 113 = .ok (.iload 6, 2) := by decide +kernel
theorem dX8_shift_115 : decode cX8_shift 115 = .ok (.aload_n 0, 1) := by decide +kernel
theorem dX8_shift_116 : decode cX8_shift 116 = .ok (.getfield 64, 3) := by decide +kernel
theorem dX8_shift_119 : decode cX8_shift 119 = .ok (.bipush 60, 2) := by decide +kernel
theorem dX8_shift_121 : decode cX8_shift 121 = .ok (.iload_n 1, 1) := by decide +kernel
theorem dX8_shift_122 : decode cX8_shift 122 = .ok (.imul, 1) := by decide +kernel
theorem dX8_shift_123 : decode cX8_shift 123 = .ok (.iload_n 2, 1) := by decide +kernel
theorem dX8_shift_124 : decode cX8_shift 124 = .ok (.iadd, 1) := by decide +kernel
theorem dX8_shift_125 : decode cX8_shift 125 = .ok (.iload 6, 2) := by decide +kernel
theorem dX8_shift_127 : decode cX8_shift 127 = .ok (.iadd, 1) := by decide +kernel
theorem dX8_shift_128 : decode cX8_shift 128 = .ok (.laload, 1) := by decide +kernel
theorem dX8_shift_129 : decode cX8_shift 129 = .ok (.lastore, 1) := by decide +kernel
theorem dX8_shift_130 : decode cX8_shift 130 = .ok (.iinc 6 1, 3) := by decide +kernel
theorem dX8_shift_133 : decode cX8_shift 133 = .ok (.goto (-31), 3) := by decide +kernel
theorem dX8_shift_136 : decode cX8_shift 136 = .ok (.iconst 0, 1) := by decide +kernel
theorem dX8_shift_137 : decode cX8_shift 137 = .ok (.istore 6, 2) := by decide +kernel
theorem dX8_shift_139 : decode cX8_shift 139 = .ok (.iload 6, 2) := by decide +kernel
theorem dX8_shift_141 : decode cX8_shift 141 = .ok (.iload 5, 2) := by decide +kernel
theorem dX8_shift_143 : decode cX8_shift 143 = .ok (.if_icmp .ge 31, 3) := by decide +kernel
theorem dX8_shift_146 : decode cX8_shift 146 = .ok (.aload_n 0, 1) := by decide +kernel
theorem dX8_shift_147 : decode cX8_shift 147 = .ok (.getfield 64, 3) := by decide +kernel
theorem dX8_shift_150 : decode cX8_shift 150 = .ok (.bipush 60, 2) := by decide +kernel
theorem dX8_shift_152 : decode cX8_shift 152 = .ok (.iload_n 3, 1) := by decide +kernel
theorem dX8_shift_153 : decode cX8_shift 153 = .ok (.imul, 1) := by decide +kernel
theorem dX8_shift_154 : decode cX8_shift 154 = .ok (.iload 4, 2) := by decide +kernel
theorem dX8_shift_156 : decode cX8_shift 156 = .ok (.iadd, 1) := by decide +kernel
theorem dX8_shift_157 : decode cX8_shift 157 = .ok (.iload 6, 2) := by decide +kernel
theorem dX8_shift_159 : decode cX8_shift 159 = .ok (.iadd, 1) := by decide +kernel
theorem dX8_shift_160 : decode cX8_shift 160 = .ok (.aload_n 0, 1) := by decide +kernel
theorem dX8_shift_161 : decode cX8_shift 161 = .ok (.getfield 68, 3) := by decide +kernel
theorem dX8_shift_164 : decode cX8_shift 164 = .ok (.iload 6, 2) := by decide +kernel
theorem dX8_shift_166 : decode cX8_shift 166 = .ok (.laload, 1) := by decide +kernel
theorem dX8_shift_167 : decode cX8_shift 167 = .ok (.lastore, 1) := by decide +kernel
theorem dX8_shift_168 : decode cX8_shift 168 = .ok (.iinc 6 1, 3) := by decide +kernel
theorem dX8_shift_171 : decode cX8_shift 171 = .ok (.goto (-32), 3) := by decide +kernel
theorem dX8_shift_174 : decode cX8_shift 174 = .ok (.iload 5, 2) := by decide +kernel
theorem dX8_shift_176 : decode cX8_shift 176 = .ok (.ireturn, 1) := by decide +kernel
set_option maxRecDepth 20000 in
theorem ggX8_judge_X8_isTape : GoodIn wsX8_judge wsX8_isTape := goodIn_r _ [8, 9, 10, 7, 11] rfl (by decide +kernel)
set_option maxRecDepth 20000 in
theorem gX8_judge_X8_isTape : GoodIn wsX8_judge (va_wsS RX8 270 yX8_isTape wsX8_isTape) := goodIn_app (goodIn_of _ (by decide +kernel)) ggX8_judge_X8_isTape
set_option maxRecDepth 20000 in
theorem ggX8_judge_X8_number : GoodIn wsX8_judge wsX8_number := goodIn_r _ [15, 2, 16, 17, 18, 19, 20, 21, 22, 23, 24, 25, 26, 27, 28, 29, 30, 31, 32, 33, 34, 35, 36, 37, 38, 39, 40, 41, 42, 43, 44] rfl (by decide +kernel)
set_option maxRecDepth 20000 in
theorem gX8_judge_X8_number : GoodIn wsX8_judge (wsV RX8 83 RX8 yX8_number wsX8_number) := goodIn_app (goodIn_of _ (by decide +kernel)) ggX8_judge_X8_number
theorem dX8_judge_0 : decode cX8_judge 0 = .ok (.iload_n 1, 1) := by decide +kernel
theorem dX8_judge_1 : decode cX8_judge 1 = .ok (.invokestatic 270, 3) := by decide +kernel
theorem dX8_judge_4 : decode cX8_judge 4 = .ok (.ifCond .ne 5, 3) := by decide +kernel
theorem dX8_judge_7 : decode cX8_judge 7 = .ok (.iconst (-1), 1) := by decide +kernel
theorem dX8_judge_8 : decode cX8_judge 8 = .ok (.ireturn, 1) := by decide +kernel
theorem dX8_judge_9 : decode cX8_judge 9 = .ok (.aload_n 0, 1) := by decide +kernel
theorem dX8_judge_10 : decode cX8_judge 10 = .ok (.getfield 58, 3) := by decide +kernel
theorem dX8_judge_13 : decode cX8_judge 13 = .ok (.iload_n 1, 1) := by decide +kernel
theorem dX8_judge_14 : decode cX8_judge 14 = .ok (.iaload, 1) := by decide +kernel
theorem dX8_judge_15 : decode cX8_judge 15 = .ok (.ifCond .le 6, 3) := by decide +kernel
theorem dX8_judge_18 : decode cX8_judge 18 = .ok (.bipush (-12), 2) := by decide +kernel
theorem dX8_judge_20 : decode cX8_judge 20 = .ok (.ireturn, 1) := by decide +kernel
theorem dX8_judge_21 : decode cX8_judge 21 = .ok (.iconst 0, 1) := by decide +kernel
theorem dX8_judge_22 : decode cX8_judge 22 = .ok (.istore_n 3, 1) := by decide +kernel
theorem dX8_judge_23 : decode cX8_judge 23 = .ok (.iload_n 3, 1) := by decide +kernel
theorem dX8_judge_24 : decode cX8_judge 24 = .ok (.aload_n 0, 1) := by decide +kernel
theorem dX8_judge_25 : decode cX8_judge 25 = .ok (.getfield 9, 3) := by decide +kernel
theorem dX8_judge_28 : decode cX8_judge 28 = .ok (.bipush 54, 2) := by decide +kernel
theorem dX8_judge_30 : decode cX8_judge 30 = .ok (.iaload, 1) := by decide +kernel
theorem dX8_judge_31 : decode cX8_judge 31 = .ok (.if_icmp .ge 64, 3) := by decide +kernel
theorem dX8_judge_34 : decode cX8_judge 34 = .ok (.iload_n 2, 1) := by decide +kernel
theorem dX8_judge_35 : decode cX8_judge 35 = .ok (.i2l, 1) := by decide +kernel
theorem dX8_judge_36 : decode cX8_judge 36 = .ok (.iload_n 3, 1) := by decide +kernel
theorem dX8_judge_37 : decode cX8_judge 37 = .ok (.i2l, 1) := by decide +kernel
theorem dX8_judge_38 : decode cX8_judge 38 = .ok (.ladd, 1) := by decide +kernel
theorem dX8_judge_39 : decode cX8_judge 39 = .ok (.lstore 4, 2) := by decide +kernel
theorem dX8_judge_41 : decode cX8_judge 41 = .ok (.iload_n 2, 1) := by decide +kernel
theorem dX8_judge_42 : decode cX8_judge 42 = .ok (.ifCond .lt 16, 3) := by decide +kernel
theorem dX8_judge_45 : decode cX8_judge 45 = .ok (.lload 4, 2) := by decide +kernel
theorem dX8_judge_47 : decode cX8_judge 47 = .ok (.aload_n 0, 1) := by decide +kernel
theorem dX8_judge_48 : decode cX8_judge 48 = .ok (.getfield 61, 3) := by decide +kernel
theorem dX8_judge_51 : decode cX8_judge 51 = .ok (.iload_n 1, 1) := by decide +kernel
theorem dX8_judge_52 : decode cX8_judge 52 = .ok (.iaload, 1) := by decide +kernel
theorem dX8_judge_53 : decode cX8_judge 53 = .ok (.i2l, 1) := by decide +kernel
theorem dX8_judge_54 : decode cX8_judge 54 = .ok (.lcmp, 1) := by decide +kernel
theorem dX8_judge_55 : decode cX8_judge 55 = .ok (.ifCond .lt 8, 3) := by decide +kernel
theorem dX8_judge_58 : decode cX8_judge 58 = .ok (.bipush 100, 2) := by decide +kernel
theorem dX8_judge_60 : decode cX8_judge 60 = .ok (.iload_n 3, 1) := by decide +kernel
theorem dX8_judge_61 : decode cX8_judge 61 = .ok (.iadd, 1) := by decide +kernel
theorem dX8_judge_62 : decode cX8_judge 62 = .ok (.ireturn, 1) := by decide +kernel
theorem dX8_judge_63 : decode cX8_judge 63 = .ok (.aload_n 0, 1) := by decide +kernel
theorem dX8_judge_64 : decode cX8_judge 64 = .ok (.getfield 64, 3) := by decide +kernel
theorem dX8_judge_67 : decode cX8_judge 67 = .ok (.bipush 60, 2) := by decide +kernel
theorem dX8_judge_69 : decode cX8_judge 69 = .ok (.iload_n 1, 1) := by decide +kernel
theorem dX8_judge_70 : decode cX8_judge 70 = .ok (.imul, 1) := by decide +kernel
theorem dX8_judge_71 : decode cX8_judge 71 = .ok (.lload 4, 2) := by decide +kernel
theorem dX8_judge_73 : decode cX8_judge 73 = .ok (.l2i, 1) := by decide +kernel
theorem dX8_judge_74 : decode cX8_judge 74 = .ok (.iadd, 1) := by decide +kernel
theorem dX8_judge_75 : decode cX8_judge 75 = .ok (.laload, 1) := by decide +kernel
theorem dX8_judge_76 : decode cX8_judge 76 = .ok (.aload_n 0, 1) := by decide +kernel
theorem dX8_judge_77 : decode cX8_judge 77 = .ok (.iload_n 3, 1) := by decide +kernel
theorem dX8_judge_78 : decode cX8_judge 78 = .ok (.iconst 2, 1) := by decide +kernel
theorem dX8_judge_79 : decode cX8_judge 79 = .ok (.invokevirtual 83, 3) := by decide +kernel
theorem dX8_judge_82 : decode cX8_judge 82 = .ok (.i2l, 1) := by decide +kernel
theorem dX8_judge_83 : decode cX8_judge 83 = .ok (.lcmp, 1) := by decide +kernel
theorem dX8_judge_84 : decode cX8_judge 84 = .ok (.ifCond .eq 5, 3) := by decide +kernel
theorem dX8_judge_87 : decode cX8_judge 87 = .ok (.iload_n 3, 1) := by decide +kernel
theorem dX8_judge_88 : decode cX8_judge 88 = .ok (.ireturn, 1) := by decide +kernel
theorem dX8_judge_89 : decode cX8_judge 89 = .ok (.iinc 3 1, 3) := by decide +kernel
theorem dX8_judge_92 : decode cX8_judge 92 = .ok (.goto (-69), 3) := by decide +kernel
theorem dX8_judge_95 : decode cX8_judge 95 = .ok (.bipush (-5), 2) := by decide +kernel
theorem dX8_judge_97 : decode cX8_judge 97 = .ok (.ireturn, 1) := by decide +kernel

