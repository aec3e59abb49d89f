theorem dX8_init_0 : decode cX8_init 0 = .ok (.aload_n 0, 1) := by decide +kernel
theorem dX8_init_1 : decode cX8_init 1 = .ok (.invokespecial 3, 3) := by decide +kernel
theorem dX8_init_4 : decode cX8_init 4 = .ok (.aload_n 0, 1) := by decide +kernel
theorem dX8_init_5 : decode cX8_init 5 = .ok (.bipush 113, 2) := by decide +kernel
theorem dX8_init_7 : decode cX8_init 7 = .ok (.newarray .int, 2) := by decide +kernel
theorem dX8_init_9 : decode cX8_init 9 = .ok (.putfield 9, 3) := by decide +kernel
theorem dX8_init_12 : decode cX8_init 12 = .ok (.aload_n 0, 1) := by decide +kernel
theorem dX8_init_13 : decode cX8_init 13 = .ok (.bipush 113, 2) := by decide +kernel
theorem dX8_init_15 : decode cX8_init 15 = .ok (.newarray .int, 2) := by decide +kernel
theorem dX8_init_17 : decode cX8_init 17 = .ok (.putfield 15, 3) := by decide +kernel
theorem dX8_init_20 : decode cX8_init 20 = .ok (.aload_n 0, 1) := by decide +kernel
theorem dX8_init_21 : decode cX8_init 21 = .ok (.bipush 113, 2) := by decide +kernel
theorem dX8_init_23 : decode cX8_init 23 = .ok (.newarray .int, 2) := by decide +kernel
theorem dX8_init_25 : decode cX8_init 25 = .ok (.putfield 18, 3) := by decide +kernel
theorem dX8_init_28 : decode cX8_init 28 = .ok (.aload_n 0, 1) := by decide +kernel
theorem dX8_init_29 : decode cX8_init 29 = .ok (.bipush 100, 2) := by decide +kernel
theorem dX8_init_31 : decode cX8_init 31 = .ok (.newarray .int, 2) := by decide +kernel
theorem dX8_init_33 : decode cX8_init 33 = .ok (.putfield 21, 3) := by decide +kernel
theorem dX8_init_36 : decode cX8_init 36 = .ok (.aload_n 0, 1) := by decide +kernel
theorem dX8_init_37 : decode cX8_init 37 = .ok (.sipush 600, 3) := by decide +kernel
theorem dX8_init_40 : decode cX8_init 40 = .ok (.newarray .int, 2) := by decide +kernel
theorem dX8_init_42 : decode cX8_init 42 = .ok (.putfield 24, 3) := by decide +kernel
theorem dX8_init_45 : decode cX8_init 45 = .ok (.aload_n 0, 1) := by decide +kernel
theorem dX8_init_46 : decode cX8_init 46 = .ok (.bipush 6, 2) := by decide +kernel
theorem dX8_init_48 : decode cX8_init 48 = .ok (.newarray .int, 2) := by decide +kernel
theorem dX8_init_50 : decode cX8_init 50 = .ok (.putfield 27, 3) := by decide +kernel
theorem dX8_init_53 : decode cX8_init 53 = .ok (.aload_n 0, 1) := by decide +kernel
theorem dX8_init_54 : decode cX8_init 54 = .ok (.bipush 100, 2) := by decide +kernel
theorem dX8_init_56 : decode cX8_init 56 = .ok (.newarray .int, 2) := by decide +kernel
theorem dX8_init_58 : decode cX8_init 58 = .ok (.putfield 30, 3) := by decide +kernel
theorem dX8_init_61 : decode cX8_init 61 = .ok (.aload_n 0, 1) := by decide +kernel
theorem dX8_init_62 : decode cX8_init 62 = .ok (.bipush 6, 2) := by decide +kernel
theorem dX8_init_64 : decode cX8_init 64 = .ok (.newarray .int, 2) := by decide +kernel
theorem dX8_init_66 : decode cX8_init 66 = .ok (.putfield 33, 3) := by decide +kernel
theorem dX8_init_69 : decode cX8_init 69 = .ok (.aload_n 0, 1) := by decide +kernel
theorem dX8_init_70 : decode cX8_init 70 = .ok (.bipush 6, 2) := by decide +kernel
theorem dX8_init_72 : decode cX8_init 72 = .ok (.newarray .char, 2) := by decide +kernel
theorem dX8_init_74 : decode cX8_init 74 = .ok (.dup, 1) := by decide +kernel
theorem dX8_init_75 : decode cX8_init 75 = .ok (.iconst 0, 1) := by decide +kernel
theorem dX8_init_76 : decode cX8_init 76 = .ok (.bipush 112, 2) := by decide +kernel
theorem dX8_init_78 : decode cX8_init 78 = .ok (.castore, 1) := by decide +kernel
theorem dX8_init_79 : decode cX8_init 79 = .ok (.dup, 1) := by decide +kernel
theorem dX8_init_80 : decode cX8_init 80 = .ok (.iconst 1, 1) := by decide +kernel
theorem dX8_init_81 : decode cX8_init 81 = .ok (.bipush 107, 2) := by decide +kernel
theorem dX8_init_83 : decode cX8_init 83 = .ok (.castore, 1) := by decide +kernel
theorem dX8_init_84 : decode cX8_init 84 = .ok (.dup, 1) := by decide +kernel
theorem dX8_init_85 : decode cX8_init 85 = .ok (.iconst 2, 1) := by decide +kernel
theorem dX8_init_86 : decode cX8_init 86 = .ok (.bipush 118, 2) := by decide +kernel
theorem dX8_init_88 : decode cX8_init 88 = .ok (.castore, 1) := by decide +kernel
theorem dX8_init_89 : decode cX8_init 89 = .ok (.dup, 1) := by decide +kernel
theorem dX8_init_90 : decode cX8_init 90 = .ok (.iconst 3, 1) := by decide +kernel
theorem dX8_init_91 : decode cX8_init 91 = .ok (.bipush 120, 2) := by decide +kernel
theorem dX8_init_93 : decode cX8_init 93 = .ok (.castore, 1) := by decide +kernel
theorem dX8_init_94 : decode cX8_init 94 = .ok (.dup, 1) := by decide +kernel
theorem dX8_init_95 : decode cX8_init 95 = .ok (.iconst 4, 1) := by decide +kernel
theorem dX8_init_96 : decode cX8_init 96 = .ok (.bipush 106, 2) := by decide +kernel
theorem dX8_init_98 : decode cX8_init 98 = .ok (.castore, 1) := by decide +kernel
theorem dX8_init_99 : decode cX8_init 99 = .ok (.dup, 1) := by decide +kernel
theorem dX8_init_100 : decode cX8_init 100 = .ok (.iconst 5, 1) := by decide +kernel
theorem dX8_init_101 : decode cX8_init 101 = .ok (.bipush 115, 2) := by decide +kernel
theorem dX8_init_103 : decode cX8_init 103 = .ok (.castore, 1) := by decide +kernel
theorem dX8_init_104 : decode cX8_init 104 = .ok (.putfield 36, 3) := by decide +kernel
theorem dX8_init_107 : decode cX8_init 107 = .ok (.aload_n 0, 1) := by decide +kernel
theorem dX8_init_108 : decode cX8_init 108 = .ok (.iconst 3, 1) := by decide +kernel
theorem dX8_init_109 : decode cX8_init 109 = .ok (.newarray .char, 2) := by decide +kernel
theorem dX8_init_111 : decode cX8_init 111 = .ok (.dup, 1) := by decide +kernel
theorem dX8_init_112 : decode cX8_init 112 = .ok (.iconst 0, 1) := by decide +kernel
theorem dX8_init_113 : decode cX8_init 113 = .ok (.bipush 117, 2) := by decide +kernel
theorem dX8_init_115 : decode cX8_init 115 = .ok (.castore, 1) := by decide +kernel
theorem dX8_init_116 : decode cX8_init 116 = .ok (.dup, 1) := by decide +kernel
theorem dX8_init_117 : decode cX8_init 117 = .ok (.iconst 1, 1) := by decide +kernel
theorem dX8_init_118 : decode cX8_init 118 = .ok (.bipush 100, 2) := by decide +kernel
theorem dX8_init_120 : decode cX8_init 120 = .ok (.castore, 1) := by decide +kernel
theorem dX8_init_121 : decode cX8_init 121 = .ok (.dup, 1) := by decide +kernel
theorem dX8_init_122 : decode cX8_init 122 = .ok (.iconst 2, 1) := by decide +kernel
theorem dX8_init_123 : decode cX8_init 123 = .ok (.bipush 98, 2) := by decide +kernel
theorem dX8_init_125 : decode cX8_init 125 = .ok (.castore, 1) := by decide +kernel
theorem dX8_init_126 : decode cX8_init 126 = .ok (.putfield 40, 3) := by decide +kernel
theorem dX8_init_129 : decode cX8_init 129 = .ok (.aload_n 0, 1) := by decide +kernel
theorem dX8_init_130 : decode cX8_init 130 = .ok (.bipush 15, 2) := by decide +kernel
theorem dX8_init_132 : decode cX8_init 132 = .ok (.newarray .char, 2) := by decide +kernel
theorem dX8_init_134 : decode cX8_init 134 = .ok (.dup, 1) := by decide +kernel
theorem dX8_init_135 : decode cX8_init 135 = .ok (.iconst 0, 1) := by decide +kernel
theorem dX8_init_136 : decode cX8_init 136 = .ok (.bipush 117, 2) := by decide +kernel
theorem dX8_init_138 : decode cX8_init 138 = .ok (.castore, 1) := by decide +kernel
theorem dX8_init_139 : decode cX8_init 139 = .ok (.dup, 1) := by decide +kernel
theorem dX8_init_140 : decode cX8_init 140 = .ok (.iconst 1, 1) := by decide +kernel
theorem dX8_init_141 : decode cX8_init 141 = .ok (.bipush 112, 2) := by decide +kernel
theorem dX8_init_143 : decode cX8_init 143 = .ok (.castore, 1) := by decide +kernel
theorem dX8_init_144 : decode cX8_init 144 = .ok (.dup, 1) := by decide +kernel
theorem dX8_init_145 : decode cX8_init 145 = .ok (.iconst 2, 1) := by decide +kernel
theorem dX8_init_146 : decode cX8_init 146 = .ok (.iconst 0, 1) := by decide +kernel
theorem dX8_init_147 : decode cX8_init 147 = .ok (.castore, 1) := by decide +kernel
theorem dX8_init_148 : decode cX8_init 148 = .ok (.dup, 1) := by decide +kernel
theorem dX8_init_149 : decode cX8_init 149 = .ok (.iconst 3, 1) := by decide +kernel
theorem dX8_init_150 : decode cX8_init 150 = .ok (.iconst 0, 1) := by decide +kernel
theorem dX8_init_151 : decode cX8_init 151 = .ok (.castore, 1) := by decide +kernel
theorem dX8_init_152 : decode cX8_init 152 = .ok (.dup, 1) := by decide +kernel
theorem dX8_init_153 : decode cX8_init 153 = .ok (.iconst 4, 1) := by decide +kernel
theorem dX8_init_154 : decode cX8_init 154 = .ok (.iconst 0, 1) := by decide +kernel
theorem dX8_init_155 : decode cX8_init 155 = .ok (.castore, 1) := by decide +kernel
theorem dX8_init_156 : decode cX8_init 156 = .ok (.dup, 1) := by decide +kernel
theorem dX8_init_157 : decode cX8_init 157 = .ok (.iconst 5, 1) := by decide +kernel
theorem dX8_init_158 : decode cX8_init 158 = .ok (.bipush 100, 2) := by decide +kernel
theorem dX8_init_160 : decode cX8_init 160 = .ok (.castore, 1) := by decide +kernel
theorem dX8_init_161 : decode cX8_init 161 = .ok (.dup, 1) := by decide +kernel
theorem dX8_init_162 : decode cX8_init 162 = .ok (.bipush 6, 2) := by decide +kernel
theorem dX8_init_164 : decode cX8_init 164 = .ok (.bipush 111, 2) := by decide +kernel
theorem dX8_init_166 : decode cX8_init 166 = .ok (.castore, 1) := by decide +kernel
theorem dX8_init_167 : decode cX8_init 167 = .ok (.dup, 1) := by decide +kernel
theorem dX8_init_168 : decode cX8_init 168 = .ok (.bipush 7, 2) := by decide +kernel
theorem dX8_init_170 : decode cX8_init 170 = .ok (.bipush 119, 2) := by decide +kernel
theorem dX8_init_172 : decode cX8_init 172 = .ok (.castore, 1) := by decide +kernel
theorem dX8_init_173 : decode cX8_init 173 = .ok (.dup, 1) := by decide +kernel
theorem dX8_init_174 : decode cX8_init 174 = .ok (.bipush 8, 2) := by decide +kernel
theorem dX8_init_176 : decode cX8_init 176 = .ok (.bipush 110, 2) := by decide +kernel
theorem dX8_init_178 : decode cX8_init 178 = .ok (.castore, 1) := by decide +kernel
theorem dX8_init_179 : decode cX8_init 179 = .ok (.dup, 1) := by decide +kernel
theorem dX8_init_180 : decode cX8_init 180 = .ok (.bipush 9, 2) := by decide +kernel
theorem dX8_init_182 : decode cX8_init 182 = .ok (.iconst 0, 1) := by decide +kernel
theorem dX8_init_183 : decode cX8_init 183 = .ok (.castore, 1) := by decide +kernel
theorem dX8_init_184 : decode cX8_init 184 = .ok (.dup, 1) := by decide +kernel
theorem dX8_init_185 : decode cX8_init 185 = .ok (.bipush 10, 2) := by decide +kernel
theorem dX8_init_187 : decode cX8_init 187 = .ok (.bipush 98, 2) := by decide +kernel
theorem dX8_init_189 : decode cX8_init 189 = .ok (.castore, 1) := by decide +kernel
theorem dX8_init_190 : decode cX8_init 190 = .ok (.dup, 1) := by decide +kernel
theorem dX8_init_191 : decode cX8_init 191 = .ok (.bipush 11, 2) := by decide +kernel
theorem dX8_init_193 : decode cX8_init 193 = .ok (.bipush 101, 2) := by decide +kernel
theorem dX8_init_195 : decode cX8_init 195 = .ok (.castore, 1) := by decide +kernel
theorem dX8_init_196 : decode cX8_init 196 = .ok (.dup, 1) := by decide +kernel
theorem dX8_init_197 : decode cX8_init 197 = .ok (.bipush 12, 2) := by decide +kernel
theorem dX8_init_199 : decode cX8_init 199 = .ok (.bipush 97, 2) := by decide +kernel
theorem dX8_init_201 : decode cX8_init 201 = .ok (.castore, 1) := by decide +kernel
theorem dX8_init_202 : decode cX8_init 202 = .ok (.dup, 1) := by decide +kernel
theorem dX8_init_203 : decode cX8_init 203 = .ok (.bipush 13, 2) := by decide +kernel
theorem dX8_init_205 : decode cX8_init 205 = .ok (.bipush 114, 2) := by decide +kernel
theorem dX8_init_207 : decode cX8_init 207 = .ok (.castore, 1) := by decide +kernel
theorem dX8_init_208 : decode cX8_init 208 = .ok (.dup, 1) := by decide +kernel
theorem dX8_init_209 : decode cX8_init 209 = .ok (.bipush 14, 2) := by decide +kernel
theorem dX8_init_211 : decode cX8_init 211 = .ok (.iconst 0, 1) := by decide +kernel
theorem dX8_init_212 : decode cX8_init 212 = .ok (.castore, 1) := by decide +kernel
theorem dX8_init_213 : decode cX8_init 213 = .ok (.putfield 43, 3) := by decide +kernel
theorem dX8_init_216 : decode cX8_init 216 = .ok (.aload_n 0, 1) := by decide +kernel
theorem dX8_init_217 : decode cX8_init 217 = .ok (.bipush 6, 2) := by decide +kernel
theorem dX8_init_219 : decode cX8_init 219 = .ok (.newarray .int, 2) := by decide +kernel
theorem dX8_init_221 : decode cX8_init 221 = .ok (.putfield 46, 3) := by decide +kernel
theorem dX8_init_224 : decode cX8_init 224 = .ok (.aload_n 0, 1) := by decide +kernel
theorem dX8_init_225 : decode cX8_init 225 = .ok (.bipush 7, 2) := by decide +kernel
theorem dX8_init_227 : decode cX8_init 227 = .ok (.newarray .int, 2) := by decide +kernel
theorem dX8_init_229 : decode cX8_init 229 = .ok (.dup, 1) := by decide +kernel
theorem dX8_init_230 : decode cX8_init 230 = .ok (.iconst 0, 1) := by decide +kernel
theorem dX8_init_231 : decode cX8_init 231 = .ok (.iconst (-1), 1) := by decide +kernel
theorem dX8_init_232 : decode cX8_init 232 = .ok (.iastore, 1) := by decide +kernel
theorem dX8_init_233 : decode cX8_init 233 = .ok (.dup, 1) := by decide +kernel
theorem dX8_init_234 : decode cX8_init 234 = .ok (.iconst 1, 1) := by decide +kernel
theorem dX8_init_235 : decode cX8_init 235 = .ok (.iconst 0, 1) := by decide +kernel
theorem dX8_init_236 : decode cX8_init 236 = .ok (.iastore, 1) := by decide +kernel
theorem dX8_init_237 : decode cX8_init 237 = .ok (.dup, 1) := by decide +kernel
theorem dX8_init_238 : decode cX8_init 238 = .ok (.iconst 2, 1) := by decide +kernel
theorem dX8_init_239 : decode cX8_init 239 = .ok (.iconst 0, 1) := by decide +kernel
theorem dX8_init_240 : decode cX8_init 240 = .ok (.iastore, 1) := by decide +kernel
theorem dX8_init_241 : decode cX8_init 241 = .ok (.dup, 1) := by decide +kernel
theorem dX8_init_242 : decode cX8_init 242 = .ok (.iconst 3, 1) := by decide +kernel
theorem dX8_init_243 : decode cX8_init 243 = .ok (.iconst 0, 1) := by decide +kernel
theorem dX8_init_244 : decode cX8_init 244 = .ok (.iastore, 1) := by decide +kernel
theorem dX8_init_245 : decode cX8_init 245 = .ok (.dup, 1) := by decide +kernel
theorem dX8_init_246 : decode cX8_init 246 = .ok (.iconst 4, 1) := by decide +kernel
theorem dX8_init_247 : decode cX8_init 247 = .ok (.iconst 1, 1) := by decide +kernel
theorem dX8_init_248 : decode cX8_init 248 = .ok (.iastore, 1) := by decide +kernel
theorem dX8_init_249 : decode cX8_init 249 = .ok (.dup, 1) := by decide +kernel
theorem dX8_init_250 : decode cX8_init 250 = .ok (.iconst 5, 1) := by decide +kernel
theorem dX8_init_251 : decode cX8_init 251 = .ok (.iconst 2, 1) := by decide +kernel
theorem dX8_init_252 : decode cX8_init 252 = .ok (.iastore, 1) := by decide +kernel
theorem dX8_init_253 : decode cX8_init 253 = .ok (.dup, 1) := by decide +kernel
theorem dX8_init_254 : decode cX8_init 254 = .ok (.bipush 6, 2) := by decide +kernel
theorem dX8_init_256 : decode cX8_init 256 = .ok (.iconst 3, 1) := by decide +kernel
theorem dX8_init_257 : decode cX8_init 257 = .ok (.iastore, 1) := by decide +kernel
theorem dX8_init_258 : decode cX8_init 258 = .ok (.putfield 49, 3) := by decide +kernel
theorem dX8_init_261 : decode cX8_init 261 = .ok (.aload_n 0, 1) := by decide +kernel
theorem dX8_init_262 : decode cX8_init 262 = .ok (.bipush 21, 2) := by decide +kernel
theorem dX8_init_264 : decode cX8_init 264 = .ok (.newarray .int, 2) := by decide +kernel
theorem dX8_init_266 : decode cX8_init 266 = .ok (.dup, 1) := by decide +kernel
theorem dX8_init_267 : decode cX8_init 267 = .ok (.iconst 0, 1) := by decide +kernel
theorem dX8_init_268 : decode cX8_init 268 = .ok (.bipush 10, 2) := by decide +kernel
theorem dX8_init_270 : decode cX8_init 270 = .ok (.iastore, 1) := by decide +kernel
theorem dX8_init_271 : decode cX8_init 271 = .ok (.dup, 1) := by decide +kernel
theorem dX8_init_272 : decode cX8_init 272 = .ok (.iconst 1, 1) := by decide +kernel
theorem dX8_init_273 : decode cX8_init 273 = .ok (.bipush 11, 2) := by decide +kernel
theorem dX8_init_275 : decode cX8_init 275 = .ok (.iastore, 1) := by decide +kernel
theorem dX8_init_276 : decode cX8_init 276 = .ok (.dup, 1) := by decide +kernel
theorem dX8_init_277 : decode cX8_init 277 = .ok (.iconst 2, 1) := by decide +kernel
theorem dX8_init_278 : decode cX8_init 278 = .ok (.bipush 12, 2) := by decide +kernel
theorem dX8_init_280 : decode cX8_init 280 = .ok (.iastore, 1) := by decide +kernel
theorem dX8_init_281 : decode cX8_init 281 = .ok (.dup, 1) := by decide +kernel
theorem dX8_init_282 : decode cX8_init 282 = .ok (.iconst 3, 1) := by decide +kernel
theorem dX8_init_283 : decode cX8_init 283 = .ok (.iconst 0, 1) := by decide +kernel
theorem dX8_init_284 : decode cX8_init 284 = .ok (.iastore, 1) := by decide +kernel
theorem dX8_init_285 : decode cX8_init 285 = .ok (.dup, 1) := by decide +kernel
theorem dX8_init_286 : decode cX8_init 286 = .ok (.iconst 4, 1) := by decide +kernel
theorem dX8_init_287 : decode cX8_init 287 = .ok (.bipush 20, 2) := by decide +kernel
theorem dX8_init_289 : decode cX8_init 289 = .ok (.iastore, 1) := by decide +kernel
theorem dX8_init_290 : decode cX8_init 290 = .ok (.dup, 1) := by decide +kernel
theorem dX8_init_291 : decode cX8_init 291 = .ok (.iconst 5, 1) := by decide +kernel
theorem dX8_init_292 : decode cX8_init 292 = .ok (.iconst 0, 1) := by decide +kernel
theorem dX8_init_293 : decode cX8_init 293 = .ok (.iastore, 1) := by decide +kernel
theorem dX8_init_294 : decode cX8_init 294 = .ok (.dup, 1) := by decide +kernel
theorem dX8_init_295 : decode cX8_init 295 = .ok (.bipush 6, 2) := by decide +kernel
theorem dX8_init_297 : decode cX8_init 297 = .ok (.bipush 30, 2) := by decide +kernel
theorem dX8_init_299 : decode cX8_init 299 = .ok (.iastore, 1) := by decide +kernel
theorem dX8_init_300 : decode cX8_init 300 = .ok (.dup, 1) := by decide +kernel
theorem dX8_init_301 : decode cX8_init 301 = .ok (.bipush 7, 2) := by decide +kernel
theorem dX8_init_303 : decode cX8_init 303 = .ok (.iconst 0, 1) := by decide +kernel
theorem dX8_init_304 : decode cX8_init 304 = .ok (.iastore, 1) := by decide +kernel
theorem dX8_init_305 : decode cX8_init 305 = .ok (.dup, 1) := by decide +kernel
theorem dX8_init_306 : decode cX8_init 306 = .ok (.bipush 8, 2) := by decide +kernel
theorem dX8_init_308 : decode cX8_init 308 = .ok (.iconst 0, 1) := by decide +kernel
theorem dX8_init_309 : decode cX8_init 309 = .ok (.iastore, 1) := by decide +kernel
theorem dX8_init_310 : decode cX8_init 310 = .ok (.dup, 1) := by decide +kernel
theorem dX8_init_311 : decode cX8_init 311 = .ok (.bipush 9, 2) := by decide +kernel
theorem dX8_init_313 : decode cX8_init 313 = .ok (.iconst 0, 1) := by decide +kernel
theorem dX8_init_314 : decode cX8_init 314 = .ok (.iastore, 1) := by decide +kernel
theorem dX8_init_315 : decode cX8_init 315 = .ok (.dup, 1) := by decide +kernel
theorem dX8_init_316 : decode cX8_init 316 = .ok (.bipush 10, 2) := by decide +kernel
theorem dX8_init_318 : decode cX8_init 318 = .ok (.iconst 0, 1) := by decide +kernel
theorem dX8_init_319 : decode cX8_init 319 = .ok (.iastore, 1) := by decide +kernel
theorem dX8_init_320 : decode cX8_init 320 = .ok (.dup, 1) := by decide +kernel
theorem dX8_init_321 : decode cX8_init 321 = .ok (.bipush 11, 2) := by decide +kernel
theorem dX8_init_323 : decode cX8_init 323 = .ok (.bipush 40, 2) := by decide +kernel
theorem dX8_init_325 : decode cX8_init 325 = .ok (.iastore, 1) := by decide +kernel
theorem dX8_init_326 : decode cX8_init 326 = .ok (.dup, 1) := by decide +kernel
theorem dX8_init_327 : decode cX8_init 327 = .ok (.bipush 12, 2) := by decide +kernel
theorem dX8_init_329 : decode cX8_init 329 = .ok (.bipush 50, 2) := by decide +kernel
theorem dX8_init_331 : decode cX8_init 331 = .ok (.iastore, 1) := by decide +kernel
theorem dX8_init_332 : decode cX8_init 332 = .ok (.dup, 1) := by decide +kernel
theorem dX8_init_333 : decode cX8_init 333 = .ok (.bipush 13, 2) := by decide +kernel
theorem dX8_init_335 : decode cX8_init 335 = .ok (.bipush 51, 2) := by decide +kernel
theorem dX8_init_337 : decode cX8_init 337 = .ok (.iastore, 1) := by decide +kernel
theorem dX8_init_338 : decode cX8_init 338 = .ok (.dup, 1) := by decide +kernel
theorem dX8_init_339 : decode cX8_init 339 = .ok (.bipush 14, 2) := by decide +kernel
theorem dX8_init_341 : decode cX8_init 341 = .ok (.iconst 0, 1) := by decide +kernel
theorem dX8_init_342 : decode cX8_init 342 = .ok (.iastore, 1) := by decide +kernel
theorem dX8_init_343 : decode cX8_init 343 = .ok (.dup, 1) := by decide +kernel
theorem dX8_init_344 : decode cX8_init 344 = .ok (.bipush 15, 2) := by decide +kernel
theorem dX8_init_346 : decode cX8_init 346 = .ok (.iconst 0, 1) := by decide +kernel
theorem dX8_init_347 : decode cX8_init 347 = .ok (.iastore, 1) := by decide +kernel
theorem dX8_init_348 : decode cX8_init 348 = .ok (.dup, 1) := by decide +kernel
theorem dX8_init_349 : decode cX8_init 349 = .ok (.bipush 16, 2) := by decide +kernel
theorem dX8_init_351 : decode cX8_init 351 = .ok (.iconst 0, 1) := by decide +kernel
theorem dX8_init_352 : decode cX8_init 352 = .ok (.iastore, 1) := by decide +kernel
theorem dX8_init_353 : decode cX8_init 353 = .ok (.dup, 1) := by decide +kernel
theorem dX8_init_354 : decode cX8_init 354 = .ok (.bipush 17, 2) := by decide +kernel
theorem dX8_init_356 : decode cX8_init 356 = .ok (.bipush 60, 2) := by decide +kernel
theorem dX8_init_358 : decode cX8_init 358 = .ok (.iastore, 1) := by decide +kernel
theorem dX8_init_359 : decode cX8_init 359 = .ok (.dup, 1) := by decide +kernel
theorem dX8_init_360 : decode cX8_init 360 = .ok (.bipush 18, 2) := by decide +kernel
theorem dX8_init_362 : decode cX8_init 362 = .ok (.bipush 71, 2) := by decide +kernel
theorem dX8_init_364 : decode cX8_init 364 = .ok (.iastore, 1) := by decide +kernel
theorem dX8_init_365 : decode cX8_init 365 = .ok (.dup, 1) := by decide +kernel
theorem dX8_init_366 : decode cX8_init 366 = .ok (.bipush 19, 2) := by decide +kernel
theorem dX8_init_368 : decode cX8_init 368 = .ok (.bipush 70, 2) := by decide +kernel
theorem dX8_init_370 : decode cX8_init 370 = .ok (.iastore, 1) := by decide +kernel
theorem dX8_init_371 : decode cX8_init 371 = .ok (.dup, 1) := by decide +kernel
theorem dX8_init_372 : decode cX8_init 372 = .ok (.bipush 20, 2) := by decide +kernel
theorem dX8_init_374 : decode cX8_init 374 = .ok (.iconst 0, 1) := by decide +kernel
theorem dX8_init_375 : decode cX8_init 375 = .ok (.iastore, 1) := by decide +kernel
theorem dX8_init_376 : decode cX8_init 376 = .ok (.putfield 52, 3) := by decide +kernel
theorem dX8_init_379 : decode cX8_init 379 = .ok (.aload_n 0, 1) := by decide +kernel
theorem dX8_init_380 : decode cX8_init 380 = .ok (.bipush 20, 2) := by decide +kernel
theorem dX8_init_382 : decode cX8_init 382 = .ok (.newarray .int, 2) := by decide +kernel
theorem dX8_init_384 : decode cX8_init 384 = .ok (.putfield 55, 3) := by decide +kernel
theorem dX8_init_387 : decode cX8_init 387 = .ok (.aload_n 0, 1) := by decide +kernel
theorem dX8_init_388 : decode cX8_init 388 = .ok (.bipush 6, 2) := by decide +kernel
theorem dX8_init_390 : decode cX8_init 390 = .ok (.newarray .int, 2) := by decide +kernel
theorem dX8_init_392 : decode cX8_init 392 = .ok (.dup, 1) := by decide +kernel
theorem dX8_init_393 : decode cX8_init 393 = .ok (.iconst 0, 1) := by decide +kernel
theorem dX8_init_394 : decode cX8_init 394 = .ok (.iconst (-1), 1) := by decide +kernel
theorem dX8_init_395 : decode cX8_init 395 = .ok (.iastore, 1) := by decide +kernel
theorem dX8_init_396 : decode cX8_init 396 = .ok (.dup, 1) := by decide +kernel
theorem dX8_init_397 : decode cX8_init 397 = .ok (.iconst 1, 1) := by decide +kernel
theorem dX8_init_398 : decode cX8_init 398 = .ok (.iconst (-1), 1) := by decide +kernel
theorem dX8_init_399 : decode cX8_init 399 = .ok (.iastore, 1) := by decide +kernel
theorem dX8_init_400 : decode cX8_init 400 = .ok (.dup, 1) := by decide +kernel
theorem dX8_init_401 : decode cX8_init 401 = .ok (.iconst 2, 1) := by decide +kernel
theorem dX8_init_402 : decode cX8_init 402 = .ok (.iconst (-1), 1) := by decide +kernel
theorem dX8_init_403 : decode cX8_init 403 = .ok (.iastore, 1) := by decide +kernel
theorem dX8_init_404 : decode cX8_init 404 = .ok (.dup, 1) := by decide +kernel
theorem dX8_init_405 : decode cX8_init 405 = .ok (.iconst 3, 1) := by decide +kernel
theorem dX8_init_406 : decode cX8_init 406 = .ok (.iconst (-1), 1) := by decide +kernel
theorem dX8_init_407 : decode cX8_init 407 = .ok (.iastore, 1) := by decide +kernel
theorem dX8_init_408 : decode cX8_init 408 = .ok (.dup, 1) := by decide +kernel
theorem dX8_init_409 : decode cX8_init 409 = .ok (.iconst 4, 1) := by decide +kernel
theorem dX8_init_410 : decode cX8_init 410 = .ok (.iconst (-1), 1) := by decide +kernel
theorem dX8_init_411 : decode cX8_init 411 = .ok (.iastore, 1) := by decide +kernel
theorem dX8_init_412 : decode cX8_init 412 = .ok (.dup, 1) := by decide +kernel
theorem dX8_init_413 : decode cX8_init 413 = .ok (.iconst 5, 1) := by decide +kernel
theorem dX8_init_414 : decode cX8_init 414 = .ok (.iconst (-1), 1) := by decide +kernel
theorem dX8_init_415 : decode cX8_init 415 = .ok (.iastore, 1) := by decide +kernel
theorem dX8_init_416 : decode cX8_init 416 = .ok (.putfield 58, 3) := by decide +kernel
theorem dX8_init_419 : decode cX8_init 419 = .ok (.aload_n 0, 1) := by decide +kernel
theorem dX8_init_420 : decode cX8_init 420 = .ok (.bipush 6, 2) := by decide +kernel
theorem dX8_init_422 : decode cX8_init 422 = .ok (.newarray .int, 2) := by decide +kernel
theorem dX8_init_424 : decode cX8_init 424 = .ok (.putfield 61, 3) := by decide +kernel
theorem dX8_init_427 : decode cX8_init 427 = .ok (.aload_n 0, 1) := by decide +kernel
theorem dX8_init_428 : decode cX8_init 428 = .ok (.sipush 360, 3) := by decide +kernel
theorem dX8_init_431 : decode cX8_init 431 = .ok (.newarray .long, 2) := by decide +kernel
theorem dX8_init_433 : decode cX8_init 433 = .ok (.putfield 64, 3) := by decide +kernel
theorem dX8_init_436 : decode cX8_init 436 = .ok (.aload_n 0, 1) := by decide +kernel
theorem dX8_init_437 : decode cX8_init 437 = .ok (.bipush 60, 2) := by decide +kernel
theorem dX8_init_439 : decode cX8_init 439 = .ok (.newarray .long, 2) := by decide +kernel
theorem dX8_init_441 : decode cX8_init 441 = .ok (.putfield 68, 3) := by decide +kernel
theorem dX8_init_444 : decode cX8_init 444 = .ok (.return_, 1) := by decide +kernel
theorem dX8_isIn_0 : decode cX8_isIn 0 = .ok (.iload_n 0, 1) := by decide +kernel
theorem dX8_isIn_1 : decode cX8_isIn 1 = .ok (.iload_n 1, 1) := by decide +kernel
theorem dX8_isIn_2 : decode cX8_isIn 2 = .ok (.if_icmp .lt 12, 3) := by decide +kernel
theorem dX8_isIn_5 : decode cX8_isIn 5 = .ok (.iload_n 0, 1) := by decide +kernel
theorem dX8_isIn_6 : decode cX8_isIn 6 = .ok (.iload_n 2, 1) := by decide +kernel
theorem dX8_isIn_7 : decode cX8_isIn 7 = .ok (.if_icmp .gt 7, 3) := by decide +kernel
theorem dX8_isIn_10 : decode cX8_isIn 10 = .ok (.iconst 1, 1) := by decide +kernel
theorem dX8_isIn_11 : decode cX8_isIn 11 = .ok (.goto 4, 3) := by decide +kernel
theorem dX8_isIn_14 : decode cX8_isIn 14 = .ok (.iconst 0, 1) := by decide +kernel
theorem dX8_isIn_15 : decode cX8_isIn 15 = .ok (.ireturn, 1) := by decide +kernel
theorem dX8_move_0 : decode cX8_move 0 = .ok (.iconst 0, 1) := by decide +kernel
theorem dX8_move_1 : decode cX8_move 1 = .ok (.istore_n 2, 1) := by decide +kernel
theorem dX8_move_2 : decode cX8_move 2 = .ok (.iload_n 2, 1) := by decide +kernel
theorem dX8_move_3 : decode cX8_move 3 = .ok (.bipush 113, 2) := by decide +kernel
theorem dX8_move_5 : decode cX8_move 5 = .ok (.if_icmp .ge 15, 3) := by decide +kernel
theorem dX8_move_8 : decode cX8_move 8 = .ok (.aload_n 1, 1) := by decide +kernel
theorem dX8_move_9 : decode cX8_move 9 = .ok (.iload_n 2, 1) := by decide +kernel
theorem dX8_move_10 : decode cX8_move 10 = .ok (.aload_n 0, 1) := by decide +kernel
theorem dX8_move_11 : decode cX8_move 11 = .ok (.iload_n 2, 1) := by decide +kernel
theorem dX8_move_12 : decode cX8_move 12 = .ok (.iaload, 1) := by decide +kernel
theorem dX8_move_13 : decode cX8_move 13 = .ok (.iastore, 1) := by decide +kernel
theorem dX8_move_14 : decode cX8_move 14 = .ok (.iinc 2 1, 3) := by decide +kernel
theorem dX8_move_17 : decode cX8_move 17 = .ok (.goto (-15), 3) := by decide +kernel
theorem dX8_move_20 : decode cX8_move 20 = .ok (.return_, 1) := by decide +kernel
set_option maxRecDepth 20000 in
theorem ggX8_image_X8_move : GoodIn wsX8_image wsX8_move := goodIn_r _ [7] rfl (by decide +kernel)
set_option maxRecDepth 20000 in
theorem gX8_image_X8_move : GoodIn wsX8_image (va_wsS RX8 75 yX8_move wsX8_move) := goodIn_app (goodIn_of _ (by decide +kernel)) ggX8_image_X8_move
theorem dX8_image_0 : decode cX8_image 0 = .ok (.aload_n 0, 1) := by decide +kernel
theorem dX8_image_1 : decode cX8_image 1 = .ok (.iconst 1, 1) := by decide +kernel
theorem dX8_image_2 : decode cX8_image 2 = .ok (.putfield 71, 3) := by decide +kernel
theorem dX8_image_5 : decode cX8_image 5 = .ok (.aload_n 0, 1) := by decide +kernel
theorem dX8_image_6 : decode cX8_image 6 = .ok (.getfield 9, 3) := by decide +kernel
theorem dX8_image_9 : decode cX8_image 9 = .ok (.aload_n 0, 1) := by decide +kernel
theorem dX8_image_10 : decode cX8_image 10 = .ok (.getfield 18, 3) := by decide +kernel
theorem dX8_image_13 : decode cX8_image 13 = .ok (.invokestatic 75, 3) := by decide +kernel
theorem dX8_image_16 : decode cX8_image 16 = .ok (.aload_n 0, 1) := by decide +kernel
theorem dX8_image_17 : decode cX8_image 17 = .ok (.getfield 9, 3) := by decide +kernel
theorem dX8_image_20 : decode cX8_image 20 = .ok (.bipush 54, 2) := by decide +kernel
theorem dX8_image_22 : decode cX8_image 22 = .ok (.iaload, 1) := by decide +kernel
theorem dX8_image_23 : decode cX8_image 23 = .ok (.ireturn, 1) := by decide +kernel
set_option maxRecDepth 20000 in
theorem ggX8_undo_X8_move : GoodIn wsX8_undo wsX8_move := goodIn_r _ [7] rfl (by decide +kernel)
set_option maxRecDepth 20000 in
theorem gX8_undo_X8_move : GoodIn wsX8_undo (va_wsS RX8 75 yX8_move wsX8_move) := goodIn_app (goodIn_of _ (by decide +kernel)) ggX8_undo_X8_move
theorem dX8_undo_0 : decode cX8_undo 0 = .ok (.aload_n 0, 1) := by decide +kernel
theorem dX8_undo_1 : decode cX8_undo 1 = .ok (.getfield 71, 3) := by decide +kernel
theorem dX8_undo_4 : decode cX8_undo 4 = .ok (.ifCond .ne 6, 3) := by decide +kernel
theorem dX8_undo_7 : decode cX8_undo 7 = .ok (.bipush (-3), 2) := by decide +kernel
theorem dX8_undo_9 : decode cX8_undo 9 = .ok (.ireturn, 1) := by decide +kernel
theorem dX8_undo_10 : decode cX8_undo 10 = .ok (.aload_n 0, 1) := by decide +kernel
theorem dX8_undo_11 : decode cX8_undo 11 = .ok (.getfield 18, 3) := by decide +kernel
theorem dX8_undo_14 : decode cX8_undo 14 = .ok (.aload_n 0, 1) := by decide +kernel
theorem dX8_undo_15 : decode cX8_undo 15 = .ok (.getfield 9, 3) := by decide +kernel
theorem dX8_undo_18 : decode cX8_undo 18 = .ok (.invokestatic 75, 3) := by decide +kernel
theorem dX8_undo_21 : decode cX8_undo 21 = .ok (.aload_n 0, 1) := by decide +kernel
theorem dX8_undo_22 : decode cX8_undo 22 = .ok (.getfield 9, 3) := by decide +kernel
theorem dX8_undo_25 : decode cX8_undo 25 = .ok (.bipush 54, 2) := by decide +kernel
theorem dX8_undo_27 : decode cX8_undo 27 = .ok (.iaload, 1) := by decide +kernel
theorem dX8_undo_28 : decode cX8_undo 28 = .ok (.ireturn, 1) := by decide +kernel
set_option maxRecDepth 20000 in
theorem ggX8_isOne_X8_isIn : GoodIn wsX8_isOne wsX8_isIn := goodIn_r _ [5] rfl (by decide +kernel)
set_option maxRecDepth 20000 in
theorem gX8_isOne_X8_isIn : GoodIn wsX8_isOne (va_wsS RX8 79 yX8_isIn wsX8_isIn) := goodIn_app (goodIn_of _ (by decide +kernel)) ggX8_isOne_X8_isIn
theorem dX8_isOne_0 : decode cX8_isOne 0 = .ok (.iload_n 1, 1) := by decide +kernel
theorem dX8_isOne_1 : decode cX8_isOne 1 = .ok (.iconst 0, 1) := by decide +kernel
theorem dX8_isOne_2 : decode cX8_isOne 2 = .ok (.aload_n 0, 1) := by decide +kernel
theorem dX8_isOne_3 : decode cX8_isOne 3 = .ok (.getfield 9, 3) := by decide +kernel
theorem dX8_isOne_6 : decode cX8_isOne 6 = .ok (.bipush 54, 2) := by decide +kernel
theorem dX8_isOne_8 : decode cX8_isOne 8 = .ok (.iaload, 1) := by decide +kernel
theorem dX8_isOne_9 : decode cX8_isOne 9 = .ok (.iconst 1, 1) := by decide +kernel
theorem dX8_isOne_10 : decode cX8_isOne 10 = .ok (.isub, 1) := by decide +kernel
theorem dX8_isOne_11 : decode cX8_isOne 11 = .ok (.invokestatic 79, 3) := by decide +kernel
theorem dX8_isOne_14 : decode cX8_isOne 14 = .ok (.ireturn, 1) := by decide +kernel
set_option maxRecDepth 20000 in
theorem ggX8_isLeaf_X8_isIn : GoodIn wsX8_isLeaf wsX8_isIn := goodIn_r _ [5] rfl (by decide +kernel)
set_option maxRecDepth 20000 in
theorem gX8_isLeaf_X8_isIn : GoodIn wsX8_isLeaf (va_wsS RX8 79 yX8_isIn wsX8_isIn) := goodIn_app (goodIn_of _ (by decide +kernel)) ggX8_isLeaf_X8_isIn
theorem dX8_isLeaf_0 : decode cX8_isLeaf 0 = .ok (.iload_n 1, 1) := by decide +kernel
theorem dX8_isLeaf_1 : decode cX8_isLeaf 1 = .ok (.iconst 0, 1) := by decide +kernel
theorem dX8_isLeaf_2 : decode cX8_isLeaf 2 = .ok (.aload_n 0, 1) := by decide +kernel
theorem dX8_isLeaf_3 : decode cX8_isLeaf 3 = .ok (.getfield 9, 3) := by decide +kernel
theorem dX8_isLeaf_6 : decode cX8_isLeaf 6 = .ok (.bipush 55, 2) := by decide +kernel
theorem dX8_isLeaf_8 : decode cX8_isLeaf 8 = .ok (.iaload, 1) := by decide +kernel
theorem dX8_isLeaf_9 : decode cX8_isLeaf 9 = .ok (.iconst 1, 1) := by decide +kernel
theorem dX8_isLeaf_10 : decode cX8_isLeaf 10 = .ok (.isub, 1) := by decide +kernel
theorem dX8_isLeaf_11 : decode cX8_isLeaf 11 = .ok (.invokestatic 79, 3) := by decide +kernel
theorem dX8_isLeaf_14 : decode cX8_isLeaf 14 = .ok (.ireturn, 1) := by decide +kernel
theorem dX8_orNever_0 : decode cX8_orNever 0 = .ok (.iload_n 0, 1) := by decide +kernel
theorem dX8_orNever_1 : decode cX8_orNever 1 = .ok (.iconst (-1), 1) := by decide +kernel
theorem dX8_orNever_2 : decode cX8_orNever 2 = .ok (.if_icmp .ne 8, 3) := by decide +kernel
theorem dX8_orNever_5 : decode cX8_orNever 5 = .ok (.bipush (-5), 2) := by decide +kernel
theorem dX8_orNever_7 : decode cX8_orNever 7 = .ok (.goto 4, 3) := by decide +kernel
theorem dX8_orNever_10 : decode cX8_orNever 10 = .ok (.iload_n 0, 1) := by decide +kernel
theorem dX8_orNever_11 : decode cX8_orNever 11 = .ok (.ireturn, 1) := by decide +kernel
theorem dX8_number_0 : decode cX8_number 0 = .ok (.aload_n 0, 1) := by decide +kernel
theorem dX8_number_1 : decode cX8_number 1 = .ok (.getfield 9, 3) := by decide +kernel
theorem dX8_number_4 : decode cX8_number 4 = .ok (.bipush 7, 2) := by decide +kernel
theorem dX8_number_6 : decode cX8_number 6 = .ok (.iload_n 1, 1) := by decide +kernel
theorem dX8_number_7 : decode cX8_number 7 = .ok (.imul, 1) := by decide +kernel
theorem dX8_number_8 : decode cX8_number 8 = .ok (.iload_n 2, 1) := by decide +kernel
theorem dX8_number_9 : decode cX8_number 9 = .ok (.iadd, 1) := by decide +kernel
theorem dX8_number_10 : decode cX8_number 10 = .ok (.iaload, 1) := by decide +kernel
theorem dX8_number_11 : decode cX8_number 11 = .ok (.ireturn, 1) := by decide +kernel
set_option maxRecDepth 20000 in
theorem ggX8_change_X8_number : GoodIn wsX8_change wsX8_number := goodIn_r _ [6, 1, 7, 8, 9, 10, 11, 12, 13, 14, 15, 16, 17, 18, 19, 20, 21, 22, 23, 24, 25, 26, 27, 28, 29, 30, 31, 32, 33, 34, 35] rfl (by decide +kernel)
set_option maxRecDepth 20000 in
theorem gX8_change_X8_number : GoodIn wsX8_change (wsV RX8 83 RX8 yX8_number wsX8_number) := goodIn_app (goodIn_of _ (by decide +kernel)) ggX8_change_X8_number
theorem dX8_change_0 : decode cX8_change 0 = .ok (.aload_n 0, 1) := by decide +kernel
theorem dX8_change_1 : decode cX8_change 1 = .ok (.iload_n 1, 1) := by decide +kernel
theorem dX8_change_2 : decode cX8_change 2 = .ok (.iload_n 2, 1) := by decide +kernel
theorem dX8_change_3 : decode cX8_change 3 = .ok (.invokevirtual 83, 3) := by decide +kernel
theorem dX8_change_6 : decode cX8_change 6 = .ok (.istore 4, 2) := by decide +kernel
theorem dX8_change_8 : decode cX8_change 8 = .ok (.aload_n 0, 1) := by decide +kernel
theorem dX8_change_9 : decode cX8_change 9 = .ok (.getfield 9, 3) := by decide +kernel
theorem dX8_change_12 : decode cX8_change 12 = .ok (.bipush 7, 2) := by decide +kernel
theorem dX8_change_14 : decode cX8_change 14 = .ok (.iload_n 1, 1) := by decide +kernel
theorem dX8_change_15 : decode cX8_change 15 = .ok (.imul, 1) := by decide +kernel
theorem dX8_change_16 : decode cX8_change 16 = .ok (.iload_n 2, 1) := by decide +kernel
theorem dX8_change_17 : decode cX8_change 17 = .ok (.iadd, 1) := by decide +kernel
theorem dX8_change_18 : decode cX8_change 18 = .ok (.iload_n 3, 1) := by decide +kernel
theorem dX8_change_19 : decode cX8_change 19 = .ok (.iastore, 1) := by decide +kernel
theorem dX8_change_20 : decode cX8_change 20 = .ok (.iload 4, 2) := by decide +kernel
theorem dX8_change_22 : decode cX8_change 22 = .ok (.ireturn, 1) := by decide +kernel
theorem dX8_length_0 : decode cX8_length 0 = .ok (.aload_n 0, 1) := by decide +kernel
theorem dX8_length_1 : decode cX8_length 1 = .ok (.getfield 9, 3) := by decide +kernel
theorem dX8_length_4 : decode cX8_length 4 = .ok (.bipush 42, 2) := by decide +kernel
theorem dX8_length_6 : decode cX8_length 6 = .ok (.iconst 3, 1) := by decide +kernel
theorem dX8_length_7 : decode cX8_length 7 = .ok (.iload_n 1, 1) := by decide +kernel
theorem dX8_length_8 : decode cX8_length 8 = .ok (.imul, 1) := by decide +kernel
theorem dX8_length_9 : decode cX8_length 9 = .ok (.iadd, 1) := by decide +kernel
theorem dX8_length_10 : decode cX8_length 10 = .ok (.iaload, 1) := by decide +kernel
theorem dX8_length_11 : decode cX8_length 11 = .ok (.ireturn, 1) := by decide +kernel
theorem dX8_holder_0 : decode cX8_holder 0 = .ok (.aload_n 0, 1) := by decide +kernel
theorem dX8_holder_1 : decode cX8_holder 1 = .ok (.getfield 9, 3) := by decide +kernel
theorem dX8_holder_4 : decode cX8_holder 4 = .ok (.bipush 42, 2) := by decide +kernel
theorem dX8_holder_6 : decode cX8_holder 6 = .ok (.iconst 3, 1) := by decide +kernel
theorem dX8_holder_7 : decode cX8_holder 7 = .ok (.iload_n 1, 1) := by decide +kernel
theorem dX8_holder_8 : decode cX8_holder 8 = .ok (.imul, 1) := by decide +kernel
theorem dX8_holder_9 : decode cX8_holder 9 = .ok (.iadd, 1) := by decide +kernel
theorem dX8_holder_10 : decode cX8_holder 10 = .ok (.iload_n 2, 1) := by decide +kernel
theorem dX8_holder_11 : decode cX8_holder 11 = .ok (.iadd, 1) := by decide +kernel
theorem dX8_holder_12 : decode cX8_holder 12 = .ok (.iaload, 1) := by decide +kernel
theorem dX8_holder_13 : decode cX8_holder 13 = .ok (.ireturn, 1) := by decide +kernel
set_option maxRecDepth 20000 in
theorem ggX8_isHeld_X8_holder : GoodIn wsX8_isHeld wsX8_holder := goodIn_r _ [5, 6, 7, 8, 9, 10, 11, 12, 13, 14, 15, 16, 17, 18, 19, 20, 21, 22, 23, 24, 25, 26, 27, 28, 29, 30, 31, 32, 33, 34, 35] rfl (by decide +kernel)
set_option maxRecDepth 20000 in
theorem gX8_isHeld_X8_holder : GoodIn wsX8_isHeld (wsV RX8 87 RX8 yX8_holder wsX8_holder) := goodIn_app (goodIn_of _ (by decide +kernel)) ggX8_isHeld_X8_holder
theorem dX8_isHeld_0 : decode cX8_isHeld 0 = .ok (.aload_n 0, 1) := by decide +kernel
theorem dX8_isHeld_1 : decode cX8_isHeld 1 = .ok (.iload_n 1, 1) := by decide +kernel
theorem dX8_isHeld_2 : decode cX8_isHeld 2 = .ok (.iconst 1, 1) := by decide +kernel
theorem dX8_isHeld_3 : decode cX8_isHeld 3 = .ok (.invokevirtual 87, 3) := by decide +kernel
theorem dX8_isHeld_6 : decode cX8_isHeld 6 = .ok (.iconst (-1), 1) := by decide +kernel
theorem dX8_isHeld_7 : decode cX8_isHeld 7 = .ok (.if_icmp .eq 7, 3) := by decide +kernel
theorem dX8_isHeld_10 : decode cX8_isHeld 10 = .ok (.iconst 1, 1) := by decide +kernel
theorem dX8_isHeld_11 : decode cX8_isHeld 11 = .ok (.goto 4, 3) := by decide +kernel
theorem dX8_isHeld_14 : decode cX8_isHeld 14 = .ok (.iconst 0, 1) := by decide +kernel
theorem dX8_isHeld_15 : decode cX8_isHeld 15 = .ok (.ireturn, 1) := by decide +kernel
theorem dX8_holds_0 : decode cX8_holds 0 = .ok (.aload_n 0, 1) := by decide +kernel
theorem dX8_holds_1 : decode cX8_holds 1 = .ok (.getfield 9, 3) := by decide +kernel
theorem dX8_holds_4 : decode cX8_holds 4 = .ok (.bipush 42, 2) := by decide +kernel
theorem dX8_holds_6 : decode cX8_holds 6 = .ok (.iconst 3, 1) := by decide +kernel
theorem dX8_holds_7 : decode cX8_holds 7 = .ok (.iload_n 1, 1) := by decide +kernel
theorem dX8_holds_8 : decode cX8_holds 8 = .ok (.imul, 1) := by decide +kernel
theorem dX8_holds_9 : decode cX8_holds 9 = .ok (.iadd, 1) := by decide +kernel
theorem dX8_holds_10 : decode cX8_holds 10 = .ok (.iconst 1, 1) := by decide +kernel
theorem dX8_holds_11 : decode cX8_holds 11 = .ok (.iadd, 1) := by decide +kernel
theorem dX8_holds_12 : decode cX8_holds 12 = .ok (.iload_n 2, 1) := by decide +kernel
theorem dX8_holds_13 : decode cX8_holds 13 = .ok (.iastore, 1) := by decide +kernel
theorem dX8_holds_14 : decode cX8_holds 14 = .ok (.aload_n 0, 1) := by decide +kernel
theorem dX8_holds_15 : decode cX8_holds 15 = .ok (.getfield 9, 3) := by decide +kernel
theorem dX8_holds_18 : decode cX8_holds 18 = .ok (.bipush 42, 2) := by decide +kernel
theorem dX8_holds_20 : decode cX8_holds 20 = .ok (.iconst 3, 1) := by decide +kernel
theorem dX8_holds_21 : decode cX8_holds 21 = .ok (.iload_n 1, 1) := by decide +kernel
theorem dX8_holds_22 : decode cX8_holds 22 = .ok (.imul, 1) := by decide +kernel
theorem dX8_holds_23 : decode cX8_holds 23 = .ok (.iadd, 1) := by decide +kernel
theorem dX8_holds_24 : decode cX8_holds 24 = .ok (.iconst 2, 1) := by decide +kernel
theorem dX8_holds_25 : decode cX8_holds 25 = .ok (.iadd, 1) := by decide +kernel
theorem dX8_holds_26 : decode cX8_holds 26 = .ok (.iload_n 3, 1) := by decide +kernel
theorem dX8_holds_27 : decode cX8_holds 27 = .ok (.iastore, 1) := by decide +kernel
theorem dX8_holds_28 : decode cX8_holds 28 = .ok (.return_, 1) := by decide +kernel
set_option maxRecDepth 20000 in
theorem ggX8_one_X8_isIn : GoodIn wsX8_one wsX8_isIn := goodIn_r _ [5] rfl (by decide +kernel)
set_option maxRecDepth 20000 in
theorem gX8_one_X8_isIn : GoodIn wsX8_one (va_wsS RX8 79 yX8_isIn wsX8_isIn) := goodIn_app (goodIn_of _ (by decide +kernel)) ggX8_one_X8_isIn
set_option maxRecDepth 20000 in
theorem ggX8_one_X8_change : GoodIn wsX8_one wsX8_change := goodIn_r _ [9, 1, 10, 11, 12, 4, 13, 14, 15, 16, 17, 18, 19, 20, 21, 22, 23, 24, 25, 26, 27, 28, 29, 30, 31, 32, 33, 34, 35, 36, 37, 38, 39, 40, 41, 42] rfl (by decide +kernel)
set_option maxRecDepth 20000 in
theorem gX8_one_X8_change : GoodIn wsX8_one (wsV RX8 90 RX8 yX8_change wsX8_change) := goodIn_app (goodIn_of _ (by decide +kernel)) ggX8_one_X8_change
theorem dX8_one_0 : decode cX8_one 0 = .ok (.iload_n 1, 1) := by decide +kernel
theorem dX8_one_1 : decode cX8_one 1 = .ok (.iconst 0, 1) := by decide +kernel
theorem dX8_one_2 : decode cX8_one 2 = .ok (.bipush 6, 2) := by decide +kernel
theorem dX8_one_4 : decode cX8_one 4 = .ok (.invokestatic 79, 3) := by decide +kernel
theorem dX8_one_7 : decode cX8_one 7 = .ok (.ifCond .ne 5, 3) := by decide +kernel
theorem dX8_one_10 : decode cX8_one 10 = .ok (.iconst (-1), 1) := by decide +kernel
theorem dX8_one_11 : decode cX8_one 11 = .ok (.ireturn, 1) := by decide +kernel
theorem dX8_one_12 : decode cX8_one 12 = .ok (.iload_n 2, 1) := by decide +kernel
theorem dX8_one_13 : decode cX8_one 13 = .ok (.iconst 0, 1) := by decide +kernel
theorem dX8_one_14 : decode cX8_one 14 = .ok (.bipush 9, 2) := by decide +kernel
theorem dX8_one_16 : decode cX8_one 16 = .ok (.invokestatic 79, 3) := by decide +kernel
theorem dX8_one_19 : decode cX8_one 19 = .ok (.ifCond .eq 13, 3) := by decide +kernel
theorem dX8_one_22 : decode cX8_one 22 = .ok (.iload_n 3, 1) := by decide +kernel
theorem dX8_one_23 : decode cX8_one 23 = .ok (.iconst 0, 1) := by decide +kernel
theorem dX8_one_24 : decode cX8_one 24 = .ok (.bipush 99, 2) := by decide +kernel
theorem dX8_one_26 : decode cX8_one 26 = .ok (.invokestatic 79, 3) := by decide +kernel
theorem dX8_one_29 : decode cX8_one 29 = .ok (.ifCond .ne 6, 3) := by decide +kernel
theorem dX8_one_32 : decode cX8_one 32 = .ok (.bipush (-2), 2) := by decide +kernel
theorem dX8_one_34 : decode cX8_one 34 = .ok (.ireturn, 1) := by decide +kernel
theorem dX8_one_35 : decode cX8_one 35 = .ok (.aload_n 0, 1) := by decide +kernel
theorem dX8_one_36 : decode cX8_one 36 = .ok (.getfield 9, 3) := by decide +kernel
theorem dX8_one_39 : decode cX8_one 39 = .ok (.bipush 54, 2) := by decide +kernel
theorem dX8_one_41 : decode cX8_one 41 = .ok (.iaload, 1) := by decide +kernel
theorem dX8_one_42 : decode cX8_one 42 = .ok (.istore 4, 2) := by decide +kernel
theorem dX8_one_44 : decode cX8_one 44 = .ok (.iload 4, 2) := by decide +kernel
theorem dX8_one_46 : decode cX8_one 46 = .ok (.bipush 6, 2) := by decide +kernel
theorem dX8_one_48 : decode cX8_one 48 = .ok (.if_icmp .ne 6, 3) := by decide +kernel
theorem dX8_one_51 : decode cX8_one 51 = .ok (.bipush (-4), 2) := by decide +kernel
theorem dX8_one_53 : decode cX8_one 53 = .ok (.ireturn, 1) := by decide +kernel
theorem dX8_one_54 : decode cX8_one 54 = .ok (.iconst 0, 1) := by decide +kernel
theorem dX8_one_55 : decode cX8_one 55 = .ok (.istore 5, 2) := by decide +kernel
theorem dX8_one_57 : decode cX8_one 57 = .ok (.iload 5, 2) := by decide +kernel
theorem dX8_one_59 : decode cX8_one 59 = .ok (.bipush 7, 2) := by decide +kernel
theorem dX8_one_61 : decode cX8_one 61 = .ok (.if_icmp .ge 19, 3) := by decide +kernel
theorem dX8_one_64 : decode cX8_one 64 = .ok (.aload_n 0, 1) := by decide +kernel
theorem dX8_one_65 : decode cX8_one 65 = .ok (.iload 4, 2) := by decide +kernel
theorem dX8_one_67 : decode cX8_one 67 = .ok (.iload 5, 2) := by decide +kernel
theorem dX8_one_69 : decode cX8_one 69 = .ok (.iconst 0, 1) := by decide +kernel
theorem dX8_one_70 : decode cX8_one 70 = .ok (.invokevirtual 90, 3) := by decide +kernel
theorem dX8_one_73 : decode cX8_one 73 = .ok (.pop, 1) := by decide +kernel
theorem dX8_one_74 : decode cX8_one 74 = .ok (.iinc 5 1, 3) := by decide +kernel
theorem dX8_one_77 : decode cX8_one 77 = .ok (.goto (-20), 3) := by decide +kernel
theorem dX8_one_80 : decode cX8_one 80 = .ok (.aload_n 0, 1) := by decide +kernel
theorem dX8_one_81 : decode cX8_one 81 = .ok (.iload 4, 2) := by decide +kernel
theorem dX8_one_83 : decode cX8_one 83 = .ok (.iconst 0, 1) := by decide +kernel
theorem dX8_one_84 : decode cX8_one 84 = .ok (.iload_n 1, 1) := by decide +kernel
theorem dX8_one_85 : decode cX8_one 85 = .ok (.invokevirtual 90, 3) := by decide +kernel
theorem dX8_one_88 : decode cX8_one 88 = .ok (.pop, 1) := by decide +kernel
theorem dX8_one_89 : decode cX8_one 89 = .ok (.aload_n 0, 1) := by decide +kernel
theorem dX8_one_90 : decode cX8_one 90 = .ok (.iload 4, 2) := by decide +kernel
theorem dX8_one_92 : decode cX8_one 92 = .ok (.iconst 1, 1) := by decide +kernel
theorem dX8_one_93 : decode cX8_one 93 = .ok (.iload_n 2, 1) := by decide +kernel
theorem dX8_one_94 : decode cX8_one 94 = .ok (.invokevirtual 90, 3) := by decide +kernel
theorem dX8_one_97 : decode cX8_one 97 = .ok (.pop, 1) := by decide +kernel
theorem dX8_one_98 : decode cX8_one 98 = .ok (.aload_n 0, 1) := by decide +kernel
theorem dX8_one_99 : decode cX8_one 99 = .ok (.iload 4, 2) := by decide +kernel
theorem dX8_one_101 : decode cX8_one 101 = .ok (.iconst 2, 1) := by decide +kernel
theorem dX8_one_102 : decode cX8_one 102 = .ok (.iload_n 3, 1) := by decide +kernel
theorem dX8_one_103 : decode cX8_one 103 = .ok (.invokevirtual 90, 3) := by decide +kernel
theorem dX8_one_106 : decode cX8_one 106 = .ok (.pop, 1) := by decide +kernel
theorem dX8_one_107 : decode cX8_one 107 = .ok (.aload_n 0, 1) := by decide +kernel
theorem dX8_one_108 : decode cX8_one 108 = .ok (.getfield 9, 3) := by decide +kernel
theorem dX8_one_111 : decode cX8_one 111 = .ok (.bipush 54, 2) := by decide +kernel
theorem dX8_one_113 : decode cX8_one 113 = .ok (.dup2, 1) := by decide +kernel
theorem dX8_one_114 : decode cX8_one 114 = .ok (.iaload, 1) := by decide +kernel
theorem dX8_one_115 : decode cX8_one 115 = .ok (.iconst 1, 1) := by decide +kernel
theorem dX8_one_116 : decode cX8_one 116 = .ok (.iadd, 1) := by decide +kernel
theorem dX8_one_117 : decode cX8_one 117 = .ok (.iastore, 1) := by decide +kernel
theorem dX8_one_118 : decode cX8_one 118 = .ok (.iload 4, 2) := by decide +kernel
theorem dX8_one_120 : decode cX8_one 120 = .ok (.ireturn, 1) := by decide +kernel
set_option maxRecDepth 20000 in
theorem ggX8_of_X8_isOne : GoodIn wsX8_of wsX8_isOne := goodIn_r _ [5, 6, 7, 8, 4, 9, 87, 88, 89, 90, 91, 92, 93, 94, 95, 96, 97, 98, 99, 100, 101, 102, 103, 104, 105, 106, 107, 108, 109, 110, 111, 112, 113, 114, 115] rfl (by decide +kernel)
set_option maxRecDepth 20000 in
theorem gX8_of_X8_isOne : GoodIn wsX8_of (wsV RX8 94 RX8 yX8_isOne wsX8_isOne) := goodIn_app (goodIn_of _ (by decide +kernel)) ggX8_of_X8_isOne
set_option maxRecDepth 20000 in
theorem ggX8_of_X8_isIn : GoodIn wsX8_of wsX8_isIn := goodIn_r _ [9] rfl (by decide +kernel)
set_option maxRecDepth 20000 in
theorem gX8_of_X8_isIn : GoodIn wsX8_of (va_wsS RX8 79 yX8_isIn wsX8_isIn) := goodIn_app (goodIn_of _ (by decide +kernel)) ggX8_of_X8_isIn
set_option maxRecDepth 20000 in
theorem ggX8_of_X8_number : GoodIn wsX8_of wsX8_number := goodIn_r _ [13, 6, 87, 88, 89, 90, 91, 92, 93, 94, 95, 96, 97, 98, 99, 100, 101, 102, 103, 104, 105, 106, 107, 108, 109, 110, 111, 112, 113, 114, 115] rfl (by decide +kernel)
set_option maxRecDepth 20000 in
theorem gX8_of_X8_number : GoodIn wsX8_of (wsV RX8 83 RX8 yX8_number wsX8_number) := goodIn_app (goodIn_of _ (by decide +kernel)) ggX8_of_X8_number
set_option maxRecDepth 20000 in
theorem ggX8_of_X8_leavesOf : GoodIn wsX8_of wsX8_leavesOf := goodIn_r _ [17, 6, 18, 19, 20, 4, 21, 22, 23, 24, 25, 87, 88, 89, 90, 91, 92, 93, 94, 95, 96, 97, 98, 99, 100, 101, 102, 103, 104, 105, 106, 107, 108, 109, 110, 111, 112, 113, 114, 115] rfl (by decide +kernel)
set_option maxRecDepth 20000 in
theorem gX8_of_X8_leavesOf : GoodIn wsX8_of (wsV RX8 98 RX8 yX8_leavesOf wsX8_leavesOf) := goodIn_app (goodIn_of _ (by decide +kernel)) ggX8_of_X8_leavesOf
set_option maxRecDepth 20000 in
theorem ggX8_of_X8_drift : GoodIn wsX8_of wsX8_drift := goodIn_r _ [29, 30, 6, 31, 32, 33, 4, 34, 35, 36, 37, 38, 39, 40, 10, 11, 12, 13, 14, 15, 16, 17, 18, 19, 20, 21, 22, 23, 24, 25, 41, 42, 43, 44, 45, 46, 47, 48, 49, 50, 51, 52, 53, 54, 55, 56, 57, 58, 59, 60, 61, 62, 63, 64, 65, 66, 67, 68, 69, 70, 71, 72, 73, 74, 75, 76, 77, 78, 79, 80, 81, 82, 83, 84, 85, 86, 87, 88, 89, 90, 91, 92, 93, 94, 95, 96, 97, 98, 99, 100, 101, 102, 103, 104, 105, 106, 107, 108, 109, 110, 111, 112, 113, 114, 115] rfl (by decide +kernel)
set_option maxRecDepth 20000 in
theorem gX8_of_X8_drift : GoodIn wsX8_of (wsV RX8 102 RX8 yX8_drift wsX8_drift) := goodIn_app (goodIn_of _ (by decide +kernel)) ggX8_of_X8_drift
theorem dX8_of_0 : decode cX8_of 0 = .ok (.aload_n 0, 1) := by decide +kernel
theorem dX8_of_1 : decode cX8_of 1 = .ok (.iload_n 1, 1) := by decide +kernel
theorem dX8_of_2 : decode cX8_of 2 = .ok (.invokevirtual 94, 3) := by decide +kernel
theorem dX8_of_5 : decode cX8_of 5 = .ok (.ifCond .eq 12, 3) := by decide +kernel
theorem dX8_of_8 : decode cX8_of 8 = .ok (.iload_n 2, 1) := by decide +kernel
theorem dX8_of_9 : decode cX8_of 9 = .ok (.iconst 0, 1) := by decide +kernel
theorem dX8_of_10 : decode cX8_of 10 = .ok (.iconst 4, 1) := by decide +kernel
theorem dX8_of_11 : decode cX8_of 11 = .ok (.invokestatic 79, 3) := by decide +kernel
theorem dX8_of_14 : decode cX8_of 14 = .ok (.ifCond .ne 7, 3) := by decide +kernel
theorem dX8_of_17 : decode cX8_of 17 = .ok (.sipush (-10001), 3) := by decide +kernel
theorem dX8_of_20 : decode cX8_of 20 = .ok (.ireturn, 1) := by decide +kernel
theorem dX8_of_21 : decode cX8_of 21 = .ok (.iload_n 2, 1) := by decide +kernel
theorem dX8_of_22 : decode cX8_of 22 = .ok (.iconst 3, 1) := by decide +kernel
theorem dX8_of_23 : decode cX8_of 23 = .ok (.if_icmp .ge 12, 3) := by decide +kernel
theorem dX8_of_26 : decode cX8_of 26 = .ok (.aload_n 0, 1) := by decide +kernel
theorem dX8_of_27 : decode cX8_of 27 = .ok (.iload_n 1, 1) := by decide +kernel
theorem dX8_of_28 : decode cX8_of 28 = .ok (.iload_n 2, 1) := by decide +kernel
theorem dX8_of_29 : decode cX8_of 29 = .ok (.invokevirtual 83, 3) := by decide +kernel
theorem dX8_of_32 : decode cX8_of 32 = .ok (.goto 21, 3) := by decide +kernel
theorem dX8_of_35 : decode cX8_of 35 = .ok (.iload_n 2, 1) := by decide +kernel
theorem dX8_of_36 : decode cX8_of 36 = .ok (.iconst 3, 1) := by decide +kernel
theorem dX8_of_37 : decode cX8_of 37 = .ok (.if_icmp .ne 11, 3) := by decide +kernel
theorem dX8_of_40 : decode cX8_of 40 = .ok (.aload_n 0, 1) := by decide +kernel
theorem dX8_of_41 : decode cX8_of 41 = .ok (.iload_n 1, 1) := by decide +kernel
theorem dX8_of_42 : decode cX8_of 42 = .ok (.invokevirtual 98, 3) := by decide +kernel
theorem dX8_of_45 : decode cX8_of 45 = .ok (.goto 8, 3) := by decide +kernel
theorem dX8_of_48 : decode cX8_of 48 = .ok (.aload_n 0, 1) := by decide +kernel
theorem dX8_of_49 : decode cX8_of 49 = .ok (.iload_n 1, 1) := by decide +kernel
theorem dX8_of_50 : decode cX8_of 50 = .ok (.invokevirtual 102, 3) := by decide +kernel
theorem dX8_of_53 : decode cX8_of 53 = .ok (.ireturn, 1) := by decide +kernel
set_option maxRecDepth 20000 in
theorem ggX8_leaf_X8_isIn : GoodIn wsX8_leaf wsX8_isIn := goodIn_r _ [5] rfl (by decide +kernel)
set_option maxRecDepth 20000 in
theorem gX8_leaf_X8_isIn : GoodIn wsX8_leaf (va_wsS RX8 79 yX8_isIn wsX8_isIn) := goodIn_app (goodIn_of _ (by decide +kernel)) ggX8_leaf_X8_isIn
set_option maxRecDepth 20000 in
theorem ggX8_leaf_X8_holds : GoodIn wsX8_leaf wsX8_holds := goodIn_r _ [9, 1, 10, 11, 12, 13, 14, 15, 16, 17, 18, 19, 20, 21, 22, 23, 24, 25, 26, 27, 28, 29, 30, 31, 32, 33, 34, 35, 36, 37, 38] rfl (by decide +kernel)
set_option maxRecDepth 20000 in
theorem gX8_leaf_X8_holds : GoodIn wsX8_leaf (wsV RX8 105 RX8 yX8_holds wsX8_holds) := goodIn_app (goodIn_of _ (by decide +kernel)) ggX8_leaf_X8_holds
theorem dX8_leaf_0 : decode cX8_leaf 0 = .ok (.iload_n 1, 1) := by decide +kernel
theorem dX8_leaf_1 : decode cX8_leaf 1 = .ok (.iconst 1, 1) := by decide +kernel
theorem dX8_leaf_2 : decode cX8_leaf 2 = .ok (.bipush 40, 2) := by decide +kernel
theorem dX8_leaf_4 : decode cX8_leaf 4 = .ok (.invokestatic 79, 3) := by decide +kernel
theorem dX8_leaf_7 : decode cX8_leaf 7 = .ok (.ifCond .ne 6, 3) := by decide +kernel
theorem dX8_leaf_10 : decode cX8_leaf 10 = .ok (.bipush (-2), 2) := by decide +kernel
theorem dX8_leaf_12 : decode cX8_leaf 12 = .ok (.ireturn, 1) := by decide +kernel
theorem dX8_leaf_13 : decode cX8_leaf 13 = .ok (.aload_n 0, 1) := by decide +kernel
theorem dX8_leaf_14 : decode cX8_leaf 14 = .ok (.getfield 9, 3) := by decide +kernel
theorem dX8_leaf_17 : decode cX8_leaf 17 = .ok (.bipush 55, 2) := by decide +kernel
theorem dX8_leaf_19 : decode cX8_leaf 19 = .ok (.iaload, 1) := by decide +kernel
theorem dX8_leaf_20 : decode cX8_leaf 20 = .ok (.istore_n 2, 1) := by decide +kernel
theorem dX8_leaf_21 : decode cX8_leaf 21 = .ok (.iload_n 2, 1) := by decide +kernel
theorem dX8_leaf_22 : decode cX8_leaf 22 = .ok (.iconst 4, 1) := by decide +kernel
theorem dX8_leaf_23 : decode cX8_leaf 23 = .ok (.if_icmp .ne 6, 3) := by decide +kernel
theorem dX8_leaf_26 : decode cX8_leaf 26 = .ok (.bipush (-4), 2) := by decide +kernel
theorem dX8_leaf_28 : decode cX8_leaf 28 = .ok (.ireturn, 1) := by decide +kernel
theorem dX8_leaf_29 : decode cX8_leaf 29 = .ok (.aload_n 0, 1) := by decide +kernel
theorem dX8_leaf_30 : decode cX8_leaf 30 = .ok (.getfield 9, 3) := by decide +kernel
theorem dX8_leaf_33 : decode cX8_leaf 33 = .ok (.bipush 42, 2) := by decide +kernel
theorem dX8_leaf_35 : decode cX8_leaf 35 = .ok (.iconst 3, 1) := by decide +kernel
theorem dX8_leaf_36 : decode cX8_leaf 36 = .ok (.iload_n 2, 1) := by decide +kernel
theorem dX8_leaf_37 : decode cX8_leaf 37 = .ok (.imul, 1) := by decide +kernel
theorem dX8_leaf_38 : decode cX8_leaf 38 = .ok (.iadd, 1) := by decide +kernel
theorem dX8_leaf_39 : decode cX8_leaf 39 = .ok (.iload_n 1, 1) := by decide +kernel
theorem dX8_leaf_40 : decode cX8_leaf 40 = .ok (.iastore, 1) := by decide +kernel
theorem dX8_leaf_41 : decode cX8_leaf 41 = .ok (.aload_n 0, 1) := by decide +kernel
theorem dX8_leaf_42 : decode cX8_leaf 42 = .ok (.iload_n 2, 1) := by decide +kernel
theorem dX8_leaf_43 : decode cX8_leaf 43 = .ok (.iconst (-1), 1) := by decide +kernel
theorem dX8_leaf_44 : decode cX8_leaf 44 = .ok (.iconst (-1), 1) := by decide +kernel
theorem dX8_leaf_45 : decode cX8_leaf 45 = .ok (.invokevirtual 105, 3) := by decide +kernel
theorem dX8_leaf_48 : decode cX8_leaf 48 = .ok (.aload_n 0, 1) := by decide +kernel
theorem dX8_leaf_49 : decode cX8_leaf 49 = .ok (.getfield 9, 3) := by decide +kernel
theorem dX8_leaf_52 : decode cX8_leaf 52 = .ok (.bipush 55, 2) := by decide +kernel
theorem dX8_leaf_54 : decode cX8_leaf 54 = .ok (.dup2, 1) := by decide +kernel
theorem dX8_leaf_55 : decode cX8_leaf 55 = .ok (.iaload, 1) := by decide +kernel
theorem dX8_leaf_56 : decode cX8_leaf 56 = .ok (.iconst 1, 1) := by decide +kernel
theorem dX8_leaf_57 : decode cX8_leaf 57 = .ok (.iadd, 1) := by decide +kernel
theorem dX8_leaf_58 : decode cX8_leaf 58 = .ok (.iastore, 1) := by decide +kernel
theorem dX8_leaf_59 : decode cX8_leaf 59 = .ok (.iload_n 2, 1) := by decide +kernel
theorem dX8_leaf_60 : decode cX8_leaf 60 = .ok (.ireturn, 1) := by decide +kernel
set_option maxRecDepth 20000 in
theorem ggX8_sheet_X8_isLeaf : GoodIn wsX8_sheet wsX8_isLeaf := goodIn_r _ [5, 6, 7, 8, 4, 9, 156, 157, 158, 159, 160, 161, 162, 163, 164, 165, 166, 167, 168, 169, 170, 171, 172, 173, 174, 175, 176, 177, 178, 179, 180, 181, 182, 183, 184] rfl (by decide +kernel)
set_option maxRecDepth 20000 in
theorem gX8_sheet_X8_isLeaf : GoodIn wsX8_sheet (wsV RX8 109 RX8 yX8_isLeaf wsX8_isLeaf) := goodIn_app (goodIn_of _ (by decide +kernel)) ggX8_sheet_X8_isLeaf
set_option maxRecDepth 20000 in
theorem ggX8_sheet_X8_isIn : GoodIn wsX8_sheet wsX8_isIn := goodIn_r _ [9] rfl (by decide +kernel)
set_option maxRecDepth 20000 in
theorem gX8_sheet_X8_isIn : GoodIn wsX8_sheet (va_wsS RX8 79 yX8_isIn wsX8_isIn) := goodIn_app (goodIn_of _ (by decide +kernel)) ggX8_sheet_X8_isIn
set_option maxRecDepth 20000 in
theorem ggX8_sheet_X8_length : GoodIn wsX8_sheet wsX8_length := goodIn_r _ [13, 6, 156, 157, 158, 159, 160, 161, 162, 163, 164, 165, 166, 167, 168, 169, 170, 171, 172, 173, 174, 175, 176, 177, 178, 179, 180, 181, 182, 183, 184] rfl (by decide +kernel)
set_option maxRecDepth 20000 in
theorem gX8_sheet_X8_length : GoodIn wsX8_sheet (wsV RX8 112 RX8 yX8_length wsX8_length) := goodIn_app (goodIn_of _ (by decide +kernel)) ggX8_sheet_X8_length
set_option maxRecDepth 20000 in
theorem ggX8_sheet_X8_holder : GoodIn wsX8_sheet wsX8_holder := goodIn_r _ [17, 6, 156, 157, 158, 159, 160, 161, 162, 163, 164, 165, 166, 167, 168, 169, 170, 171, 172, 173, 174, 175, 176, 177, 178, 179, 180, 181, 182, 183, 184] rfl (by decide +kernel)
set_option maxRecDepth 20000 in
theorem gX8_sheet_X8_holder : GoodIn wsX8_sheet (wsV RX8 87 RX8 yX8_holder wsX8_holder) := goodIn_app (goodIn_of _ (by decide +kernel)) ggX8_sheet_X8_holder
set_option maxRecDepth 20000 in
theorem ggX8_sheet_X8_orNever : GoodIn wsX8_sheet wsX8_orNever := goodIn_r _ [20] rfl (by decide +kernel)
set_option maxRecDepth 20000 in
theorem gX8_sheet_X8_orNever : GoodIn wsX8_sheet (va_wsS RX8 115 yX8_orNever wsX8_orNever) := goodIn_app (goodIn_of _ (by decide +kernel)) ggX8_sheet_X8_orNever
set_option maxRecDepth 20000 in
theorem ggX8_sheet_X8_lasts : GoodIn wsX8_sheet wsX8_lasts := goodIn_r _ [24, 6, 25, 26, 27, 28, 4, 29, 14, 15, 16, 17, 30, 31, 32, 33, 34, 35, 36, 37, 38, 39, 40, 41, 42, 43, 44, 45, 46, 47, 48, 49, 50, 51, 52, 53, 54, 55, 56, 57, 58, 59, 60, 61, 62, 63, 64, 65, 66, 67, 68, 69, 70, 71, 72, 73, 74, 75, 76, 77, 78, 79, 80, 81, 82, 83, 84, 85, 86, 87, 88, 89, 90, 91, 92, 93, 94, 95, 96, 97, 98, 99, 100, 101, 102, 103, 104, 105, 106, 107, 108, 109, 110, 111, 112, 113, 114, 115, 116, 117, 118, 119, 120, 121, 122, 123, 124, 125, 126, 127, 128, 129, 130, 131, 132, 133, 134, 135, 136, 10, 11, 12, 13, 137, 138, 139, 140, 156, 157, 158, 159, 160, 161, 162, 163, 164, 165, 166, 167, 168, 169, 170, 171, 172, 173, 174, 175, 176, 177, 178, 179, 180, 181, 182, 183, 184] rfl (by decide +kernel)
set_option maxRecDepth 20000 in
theorem gX8_sheet_X8_lasts : GoodIn wsX8_sheet (wsV RX8 118 RX8 yX8_lasts wsX8_lasts) := goodIn_app (goodIn_of _ (by decide +kernel)) ggX8_sheet_X8_lasts
set_option maxRecDepth 20000 in
theorem ggX8_sheet_X8_partner : GoodIn wsX8_sheet wsX8_partner := goodIn_r _ [144, 6, 42, 43, 40, 44, 26, 27, 28, 4, 29, 14, 15, 16, 17, 21, 22, 23, 24, 25, 30, 31, 32, 33, 34, 35, 36, 37, 38, 39, 41, 45, 46, 47, 48, 49, 50, 51, 52, 53, 54, 55, 56, 57, 58, 59, 60, 61, 62, 63, 64, 65, 66, 67, 68, 69, 70, 71, 72, 73, 74, 75, 76, 77, 78, 79, 80, 81, 82, 83, 84, 85, 86, 87, 88, 89, 90, 91, 92, 93, 94, 95, 96, 97, 98, 99, 100, 101, 102, 103, 104, 105, 106, 107, 108, 109, 110, 111, 112, 113, 114, 115, 116, 117, 118, 119, 120, 121, 122, 123, 124, 125, 126, 127, 128, 129, 130, 131, 132, 133, 134, 135, 136, 10, 11, 12, 13, 137, 138, 139, 140, 145, 146, 147, 156, 157, 158, 159, 160, 161, 162, 163, 164, 165, 166, 167, 168, 169, 170, 171, 172, 173, 174, 175, 176, 177, 178, 179, 180, 181, 182, 183, 184] rfl (by decide +kernel)
set_option maxRecDepth 20000 in
theorem gX8_sheet_X8_partner : GoodIn wsX8_sheet (wsV RX8 121 RX8 yX8_partner wsX8_partner) := goodIn_app (goodIn_of _ (by decide +kernel)) ggX8_sheet_X8_partner
set_option maxRecDepth 20000 in
theorem ggX8_sheet_X8_fits : GoodIn wsX8_sheet wsX8_fits := goodIn_r _ [151, 6, 152, 153, 154, 4, 155, 25, 30, 31, 32, 126, 127, 128, 129, 26, 27, 28, 29, 14, 15, 16, 17, 130, 131, 132, 133, 134, 135, 40, 136, 60, 61, 62, 63, 10, 11, 12, 13, 33, 34, 35, 36, 37, 38, 39, 41, 42, 43, 44, 45, 46, 47, 48, 49, 50, 51, 52, 53, 54, 55, 56, 57, 58, 59, 64, 65, 66, 67, 68, 69, 70, 71, 72, 73, 74, 75, 76, 77, 78, 79, 80, 81, 82, 83, 84, 85, 86, 87, 88, 89, 90, 91, 92, 93, 94, 95, 96, 97, 98, 99, 100, 101, 102, 103, 104, 105, 106, 107, 108, 109, 110, 111, 112, 113, 114, 115, 116, 117, 118, 119, 120, 121, 122, 123, 124, 125, 137, 138, 139, 140, 156, 157, 158, 159, 160, 161, 162, 163, 164, 165, 166, 167, 168, 169, 170, 171, 172, 173, 174, 175, 176, 177, 178, 179, 180, 181, 182, 183, 184] rfl (by decide +kernel)
set_option maxRecDepth 20000 in
theorem gX8_sheet_X8_fits : GoodIn wsX8_sheet (wsV RX8 124 RX8 yX8_fits wsX8_fits) := goodIn_app (goodIn_of _ (by decide +kernel)) ggX8_sheet_X8_fits
theorem dX8_sheet_0 : decode cX8_sheet 0 = .ok (.aload_n 0, 1) := by decide +kernel
theorem dX8_sheet_1 : decode cX8_sheet 1 = .ok (.iload_n 1, 1) := by decide +kernel
theorem dX8_sheet_2 : decode cX8_sheet 2 = .ok (.invokevirtual 109, 3) := by decide +kernel
theorem dX8_sheet_5 : decode cX8_sheet 5 = .ok (.ifCond .eq 13, 3) := by decide +kernel
theorem dX8_sheet_8 : decode cX8_sheet 8 = .ok (.iload_n 2, 1) := by decide +kernel
theorem dX8_sheet_9 : decode cX8_sheet 9 = .ok (.iconst 0, 1) := by decide +kernel
theorem dX8_sheet_10 : decode cX8_sheet 10 = .ok (.bipush 6, 2) := by decide +kernel
theorem dX8_sheet_12 : decode cX8_sheet 12 = .ok (.invokestatic 79, 3) := by decide +kernel
theorem dX8_sheet_15 : decode cX8_sheet 15 = .ok (.ifCond .ne 5, 3) := by decide +kernel
theorem dX8_sheet_18 : decode cX8_sheet 18 = .ok (.iconst (-1), 1) := by decide +kernel
theorem dX8_sheet_19 : decode cX8_sheet 19 = .ok (.ireturn, 1) := by decide +kernel
theorem dX8_sheet_20 : decode cX8_sheet 20 = .ok (.iload_n 2, 1) := by decide +kernel
theorem dX8_sheet_21 : decode cX8_sheet 21 = .ok (.tableswitch 63 0 4 #[35, 41, 41, 51, 57], 35) := by decide +kernel
theorem dX8_sheet_56 : decode cX8_sheet 56 = .ok (.aload_n 0, 1) := by decide +kernel
theorem dX8_sheet_57 : decode cX8_sheet 57 = .ok (.iload_n 1, 1) := by decide +kernel
theorem dX8_sheet_58 : decode cX8_sheet 58 = .ok (.invokevirtual 112, 3) := by decide +kernel
theorem dX8_sheet_61 : decode cX8_sheet 61 = .ok (.ireturn, 1) := by decide +kernel
theorem dX8_sheet_62 : decode cX8_sheet 62 = .ok (.aload_n 0, 1) := by decide +kernel
theorem dX8_sheet_63 : decode cX8_sheet 63 = .ok (.iload_n 1, 1) := by decide +kernel
theorem dX8_sheet_64 : decode cX8_sheet 64 = .ok (.iload_n 2, 1) := by decide +kernel
theorem dX8_sheet_65 : decode cX8_sheet 65 = .ok (.invokevirtual 87, 3) := by decide +kernel
theorem dX8_sheet_68 : decode cX8_sheet 68 = .ok (.invokestatic 115, 3) := by decide +kernel
theorem dX8_sheet_71 : decode cX8_sheet 71 = .ok (.ireturn, 1) := by decide +kernel
theorem dX8_sheet_72 : decode cX8_sheet 72 = .ok (.aload_n 0, 1) := by decide +kernel
theorem dX8_sheet_73 : decode cX8_sheet 73 = .ok (.iload_n 1, 1) := by decide +kernel
theorem dX8_sheet_74 : decode cX8_sheet 74 = .ok (.invokevirtual 118, 3) := by decide +kernel
theorem dX8_sheet_77 : decode cX8_sheet 77 = .ok (.ireturn, 1) := by decide +kernel
theorem dX8_sheet_78 : decode cX8_sheet 78 = .ok (.aload_n 0, 1) := by decide +kernel
theorem dX8_sheet_79 : decode cX8_sheet 79 = .ok (.iload_n 1, 1) := by decide +kernel
theorem dX8_sheet_80 : decode cX8_sheet 80 = .ok (.invokevirtual 121, 3) := by decide +kernel
theorem dX8_sheet_83 : decode cX8_sheet 83 = .ok (.ireturn, 1) := by decide +kernel
theorem dX8_sheet_84 : decode cX8_sheet 84 = .ok (.aload_n 0, 1) := by decide +kernel
theorem dX8_sheet_85 : decode cX8_sheet 85 = .ok (.bipush 42, 2) := by decide +kernel
theorem dX8_sheet_87 : decode cX8_sheet 87 = .ok (.iconst 3, 1) := by decide +kernel
theorem dX8_sheet_88 : decode cX8_sheet 88 = .ok (.iload_n 1, 1) := by decide +kernel
theorem dX8_sheet_89 : decode cX8_sheet 89 = .ok (.imul, 1) := by decide +kernel
theorem dX8_sheet_90 : decode cX8_sheet 90 = .ok (.iadd, 1) := by decide +kernel
theorem dX8_sheet_91 : decode cX8_sheet 91 = .ok (.iconst 1, 1) := by decide +kernel
theorem dX8_sheet_92 : decode cX8_sheet 92 = .ok (.bipush 40, 2) := by decide +kernel
theorem dX8_sheet_94 : decode cX8_sheet 94 = .ok (.iload_n 2, 1) := by decide +kernel
theorem dX8_sheet_95 : decode cX8_sheet 95 = .ok (.iconst 5, 1) := by decide +kernel
theorem dX8_sheet_96 : decode cX8_sheet 96 = .ok (.if_icmp .ne 7, 3) := by decide +kernel
theorem dX8_sheet_99 : decode cX8_sheet 99 = .ok (.iconst 1, 1) := by decide +kernel
theorem dX8_sheet_100 : decode cX8_sheet 100 = .ok (.goto 4, 3) := by decide +kernel
theorem dX8_sheet_103 : decode cX8_sheet 103 = .ok (.iconst 0, 1) := by decide +kernel
theorem dX8_sheet_104 : decode cX8_sheet 104 = .ok (.invokevirtual 124, 3) := by decide +kernel
theorem dX8_sheet_107 : decode cX8_sheet 107 = .ok (.ireturn, 1) := by decide +kernel
set_option maxRecDepth 20000 in
theorem ggX8_gapOf_X8_holder : GoodIn wsX8_gapOf wsX8_holder := goodIn_r _ [9, 10, 19, 20, 21, 22, 23, 24, 25, 26, 27, 28, 29, 30, 31, 32, 33, 34, 35, 36, 37, 38, 39, 40, 41, 42, 43, 44, 45, 46, 47] rfl (by decide +kernel)
set_option maxRecDepth 20000 in
theorem gX8_gapOf_X8_holder : GoodIn wsX8_gapOf (wsV RX8 87 RX8 yX8_holder wsX8_holder) := goodIn_app (goodIn_of _ (by decide +kernel)) ggX8_gapOf_X8_holder
set_option maxRecDepth 20000 in
theorem ggX8_gapOf_X8_number : GoodIn wsX8_gapOf wsX8_number := goodIn_r _ [14, 10, 19, 20, 21, 22, 23, 24, 25, 26, 27, 28, 29, 30, 31, 32, 33, 34, 35, 36, 37, 38, 39, 40, 41, 42, 43, 44, 45, 46, 47] rfl (by decide +kernel)
set_option maxRecDepth 20000 in
theorem gX8_gapOf_X8_number : GoodIn wsX8_gapOf (wsV RX8 83 RX8 yX8_number wsX8_number) := goodIn_app (goodIn_of _ (by decide +kernel)) ggX8_gapOf_X8_number
set_option maxRecDepth 20000 in
theorem ggX8_gapOf_X8_length : GoodIn wsX8_gapOf wsX8_length := goodIn_r _ [18, 10, 19, 20, 21, 22, 23, 24, 25, 26, 27, 28, 29, 30, 31, 32, 33, 34, 35, 36, 37, 38, 39, 40, 41, 42, 43, 44, 45, 46, 47] rfl (by decide +kernel)
set_option maxRecDepth 20000 in
theorem gX8_gapOf_X8_length : GoodIn wsX8_gapOf (wsV RX8 112 RX8 yX8_length wsX8_length) := goodIn_app (goodIn_of _ (by decide +kernel)) ggX8_gapOf_X8_length
theorem dX8_gapOf_0 : decode cX8_gapOf 0 = .ok (.aload_n 0, 1) := by decide +kernel
theorem dX8_gapOf_1 : decode cX8_gapOf 1 = .ok (.aload_n 0, 1) := by decide +kernel
theorem dX8_gapOf_2 : decode cX8_gapOf 2 = .ok (.iload_n 1, 1) := by decide +kernel
theorem dX8_gapOf_3 : decode cX8_gapOf 3 = .ok (.iconst 1, 1) := by decide +kernel
theorem dX8_gapOf_4 : decode cX8_gapOf 4 = .ok (.invokevirtual 87, 3) := by decide +kernel
theorem dX8_gapOf_7 : decode cX8_gapOf 7 = .ok (.iconst 2, 1) := by decide +kernel
theorem dX8_gapOf_8 : decode cX8_gapOf 8 = .ok (.invokevirtual 83, 3) := by decide +kernel
theorem dX8_gapOf_11 : decode cX8_gapOf 11 = .ok (.aload_n 0, 1) := by decide +kernel
theorem dX8_gapOf_12 : decode cX8_gapOf 12 = .ok (.aload_n 0, 1) := by decide +kernel
theorem dX8_gapOf_13 : decode cX8_gapOf 13 = .ok (.iload_n 1, 1) := by decide +kernel
theorem dX8_gapOf_14 : decode cX8_gapOf 14 = .ok (.iconst 2, 1) := by decide +kernel
theorem dX8_gapOf_15 : decode cX8_gapOf 15 = .ok (.invokevirtual 87, 3) := by decide +kernel
theorem dX8_gapOf_18 : decode cX8_gapOf 18 = .ok (.iconst 2, 1) := by decide +kernel
theorem dX8_gapOf_19 : decode cX8_gapOf 19 = .ok (.invokevirtual 83, 3) := by decide +kernel
theorem dX8_gapOf_22 : decode cX8_gapOf 22 = .ok (.isub, 1) := by decide +kernel
theorem dX8_gapOf_23 : decode cX8_gapOf 23 = .ok (.invokestatic 128, 3) := by decide +kernel
theorem dX8_gapOf_26 : decode cX8_gapOf 26 = .ok (.aload_n 0, 1) := by decide +kernel
theorem dX8_gapOf_27 : decode cX8_gapOf 27 = .ok (.iload_n 1, 1) := by decide +kernel
theorem dX8_gapOf_28 : decode cX8_gapOf 28 = .ok (.invokevirtual 112, 3) := by decide +kernel
theorem dX8_gapOf_31 : decode cX8_gapOf 31 = .ok (.isub, 1) := by decide +kernel
theorem dX8_gapOf_32 : decode cX8_gapOf 32 = .ok (.ireturn, 1) := by decide +kernel
set_option maxRecDepth 20000 in
theorem ggX8_isTaut_X8_isHeld : GoodIn wsX8_isTaut wsX8_isHeld := goodIn_r _ [5, 6, 7, 8, 4, 9, 10, 27, 28, 29, 30, 31, 32, 33, 34, 35, 36, 37, 38, 39, 40, 41, 42, 43, 44, 45, 46, 47, 48, 49, 50, 51, 52, 53, 54, 55] rfl (by decide +kernel)
set_option maxRecDepth 20000 in
theorem gX8_isTaut_X8_isHeld : GoodIn wsX8_isTaut (wsV RX8 133 RX8 yX8_isHeld wsX8_isHeld) := goodIn_app (goodIn_of _ (by decide +kernel)) ggX8_isTaut_X8_isHeld
set_option maxRecDepth 20000 in
theorem ggX8_isTaut_X8_gapOf : GoodIn wsX8_isTaut wsX8_gapOf := goodIn_r _ [14, 15, 16, 17, 18, 6, 7, 8, 4, 9, 10, 19, 20, 21, 22, 23, 24, 25, 26, 27, 28, 29, 30, 31, 32, 33, 34, 35, 36, 37, 38, 39, 40, 41, 42, 43, 44, 45, 46, 47, 48, 49, 50, 51, 52, 53, 54, 55] rfl (by decide +kernel)
set_option maxRecDepth 20000 in
theorem gX8_isTaut_X8_gapOf : GoodIn wsX8_isTaut (wsV RX8 136 RX8 yX8_gapOf wsX8_gapOf) := goodIn_app (goodIn_of _ (by decide +kernel)) ggX8_isTaut_X8_gapOf
theorem dX8_isTaut_0 : decode cX8_isTaut 0 = .ok (.aload_n 0, 1) := by decide +kernel
theorem dX8_isTaut_1 : decode cX8_isTaut 1 = .ok (.iload_n 1, 1) := by decide +kernel
theorem dX8_isTaut_2 : decode cX8_isTaut 2 = .ok (.invokevirtual 133, 3) := by decide +kernel
theorem dX8_isTaut_5 : decode cX8_isTaut 5 = .ok (.ifCond .eq 15, 3) := by decide +kernel
theorem dX8_isTaut_8 : decode cX8_isTaut 8 = .ok (.aload_n 0, 1) := by decide +kernel
theorem dX8_isTaut_9 : decode cX8_isTaut 9 = .ok (.iload_n 1, 1) := by decide +kernel
theorem dX8_isTaut_10 : decode cX8_isTaut 10 = .ok (.invokevirtual 136, 3) := by decide +kernel
theorem dX8_isTaut_13 : decode cX8_isTaut 13 = .ok (.ifCond .le 7, 3) := by decide +kernel
theorem dX8_isTaut_16 : decode cX8_isTaut 16 = .ok (.iconst 1, 1) := by decide +kernel
theorem dX8_isTaut_17 : decode cX8_isTaut 17 = .ok (.goto 4, 3) := by decide +kernel
theorem dX8_isTaut_20 : decode cX8_isTaut 20 = .ok (.iconst 0, 1) := by decide +kernel
theorem dX8_isTaut_21 : decode cX8_isTaut 21 = .ok (.ireturn, 1) := by decide +kernel
set_option maxRecDepth 20000 in
theorem ggX8_gap_X8_isLeaf : GoodIn wsX8_gap wsX8_isLeaf := goodIn_r _ [5, 6, 7, 8, 4, 9, 34, 35, 36, 37, 38, 39, 40, 41, 42, 43, 44, 45, 46, 47, 48, 49, 50, 51, 52, 53, 54, 55, 56, 57, 58, 59, 60, 61, 62] rfl (by decide +kernel)
set_option maxRecDepth 20000 in
theorem gX8_gap_X8_isLeaf : GoodIn wsX8_gap (wsV RX8 109 RX8 yX8_isLeaf wsX8_isLeaf) := goodIn_app (goodIn_of _ (by decide +kernel)) ggX8_gap_X8_isLeaf
set_option maxRecDepth 20000 in
theorem ggX8_gap_X8_isHeld : GoodIn wsX8_gap wsX8_isHeld := goodIn_r _ [13, 14, 15, 16, 4, 17, 6, 34, 35, 36, 37, 38, 39, 40, 41, 42, 43, 44, 45, 46, 47, 48, 49, 50, 51, 52, 53, 54, 55, 56, 57, 58, 59, 60, 61, 62] rfl (by decide +kernel)
set_option maxRecDepth 20000 in
theorem gX8_gap_X8_isHeld : GoodIn wsX8_gap (wsV RX8 133 RX8 yX8_isHeld wsX8_isHeld) := goodIn_app (goodIn_of _ (by decide +kernel)) ggX8_gap_X8_isHeld
set_option maxRecDepth 20000 in
theorem ggX8_gap_X8_gapOf : GoodIn wsX8_gap wsX8_gapOf := goodIn_r _ [21, 22, 23, 24, 25, 14, 15, 16, 4, 17, 6, 26, 27, 28, 29, 30, 31, 32, 33, 34, 35, 36, 37, 38, 39, 40, 41, 42, 43, 44, 45, 46, 47, 48, 49, 50, 51, 52, 53, 54, 55, 56, 57, 58, 59, 60, 61, 62] rfl (by decide +kernel)
set_option maxRecDepth 20000 in
theorem gX8_gap_X8_gapOf : GoodIn wsX8_gap (wsV RX8 136 RX8 yX8_gapOf wsX8_gapOf) := goodIn_app (goodIn_of _ (by decide +kernel)) ggX8_gap_X8_gapOf
theorem dX8_gap_0 : decode cX8_gap 0 = .ok (.aload_n 0, 1) := by decide +kernel
theorem dX8_gap_1 : decode cX8_gap 1 = .ok (.iload_n 1, 1) := by decide +kernel
theorem dX8_gap_2 : decode cX8_gap 2 = .ok (.invokevirtual 109, 3) := by decide +kernel
theorem dX8_gap_5 : decode cX8_gap 5 = .ok (.ifCond .ne 9, 3) := by decide +kernel
theorem dX8_gap_8 : decode cX8_gap 8 = .ok (.sipush (-10001), 3) := by decide +kernel
theorem dX8_gap_11 : decode cX8_gap 11 = .ok (.goto 22, 3) := by decide +kernel
theorem dX8_gap_14 : decode cX8_gap 14 = .ok (.aload_n 0, 1) := by decide +kernel
theorem dX8_gap_15 : decode cX8_gap 15 = .ok (.iload_n 1, 1) := by decide +kernel
theorem dX8_gap_16 : decode cX8_gap 16 = .ok (.invokevirtual 133, 3) := by decide +kernel
theorem dX8_gap_19 : decode cX8_gap 19 = .ok (.ifCond .eq 11, 3) := by decide +kernel
theorem dX8_gap_22 : decode cX8_gap 22 = .ok (.aload_n 0, 1) := by decide +kernel
theorem dX8_gap_23 : decode cX8_gap 23 = .ok (.iload_n 1, 1) := by decide +kernel
theorem dX8_gap_24 : decode cX8_gap 24 = .ok (.invokevirtual 136, 3) := by decide +kernel
theorem dX8_gap_27 : decode cX8_gap 27 = .ok (.goto 6, 3) := by decide +kernel
theorem dX8_gap_30 : decode cX8_gap 30 = .ok (.sipush (-10003), 3) := by decide +kernel
theorem dX8_gap_33 : decode cX8_gap 33 = .ok (.ireturn, 1) := by decide +kernel
set_option maxRecDepth 20000 in
theorem ggX8_hold_X8_isLeaf : GoodIn wsX8_hold wsX8_isLeaf := goodIn_r _ [5, 6, 7, 8, 4, 9, 46, 47, 48, 49, 50, 51, 52, 53, 54, 55, 56, 57, 58, 59, 60, 61, 62, 63, 64, 65, 66, 67, 68, 69, 70, 71, 72, 73, 74] rfl (by decide +kernel)
set_option maxRecDepth 20000 in
theorem gX8_hold_X8_isLeaf : GoodIn wsX8_hold (wsV RX8 109 RX8 yX8_isLeaf wsX8_isLeaf) := goodIn_app (goodIn_of _ (by decide +kernel)) ggX8_hold_X8_isLeaf
set_option maxRecDepth 20000 in
theorem ggX8_hold_X8_isOne : GoodIn wsX8_hold wsX8_isOne := goodIn_r _ [13, 6, 7, 8, 4, 9, 46, 47, 48, 49, 50, 51, 52, 53, 54, 55, 56, 57, 58, 59, 60, 61, 62, 63, 64, 65, 66, 67, 68, 69, 70, 71, 72, 73, 74] rfl (by decide +kernel)
set_option maxRecDepth 20000 in
theorem gX8_hold_X8_isOne : GoodIn wsX8_hold (wsV RX8 94 RX8 yX8_isOne wsX8_isOne) := goodIn_app (goodIn_of _ (by decide +kernel)) ggX8_hold_X8_isOne
set_option maxRecDepth 20000 in
theorem ggX8_hold_X8_holds : GoodIn wsX8_hold wsX8_holds := goodIn_r _ [17, 6, 46, 47, 48, 49, 50, 51, 52, 53, 54, 55, 56, 57, 58, 59, 60, 61, 62, 63, 64, 65, 66, 67, 68, 69, 70, 71, 72, 73, 74] rfl (by decide +kernel)
set_option maxRecDepth 20000 in
theorem gX8_hold_X8_holds : GoodIn wsX8_hold (wsV RX8 105 RX8 yX8_holds wsX8_holds) := goodIn_app (goodIn_of _ (by decide +kernel)) ggX8_hold_X8_holds
set_option maxRecDepth 20000 in
theorem ggX8_hold_X8_isTaut : GoodIn wsX8_hold wsX8_isTaut := goodIn_r _ [21, 22, 23, 24, 4, 25, 26, 27, 28, 29, 6, 30, 31, 32, 33, 34, 35, 36, 37, 38, 39, 40, 41, 42, 43, 44, 45, 46, 47, 48, 49, 50, 51, 52, 53, 54, 55, 56, 57, 58, 59, 60, 61, 62, 63, 64, 65, 66, 67, 68, 69, 70, 71, 72, 73, 74] rfl (by decide +kernel)
set_option maxRecDepth 20000 in
theorem gX8_hold_X8_isTaut : GoodIn wsX8_hold (wsV RX8 139 RX8 yX8_isTaut wsX8_isTaut) := goodIn_app (goodIn_of _ (by decide +kernel)) ggX8_hold_X8_isTaut
theorem dX8_hold_0 : decode cX8_hold 0 = .ok (.aload_n 0, 1) := by decide +kernel
theorem dX8_hold_1 : decode cX8_hold 1 = .ok (.iload_n 1, 1) := by decide +kernel
theorem dX8_hold_2 : decode cX8_hold 2 = .ok (.invokevirtual 109, 3) := by decide +kernel
theorem dX8_hold_5 : decode cX8_hold 5 = .ok (.ifCond .eq 19, 3) := by decide +kernel
theorem dX8_hold_8 : decode cX8_hold 8 = .ok (.aload_n 0, 1) := by decide +kernel
theorem dX8_hold_9 : decode cX8_hold 9 = .ok (.iload_n 2, 1) := by decide +kernel
theorem dX8_hold_10 : decode cX8_hold 10 = .ok (.invokevirtual 94, 3) := by decide +kernel
theorem dX8_hold_13 : decode cX8_hold 13 = .ok (.ifCond .eq 11, 3) := by decide +kernel
theorem dX8_hold_16 : decode cX8_hold 16 = .ok (.aload_n 0, 1) := by decide +kernel
theorem dX8_hold_17 : decode cX8_hold 17 = .ok (.iload_n 3, 1) := by decide +kernel
theorem dX8_hold_18 : decode cX8_hold 18 = .ok (.invokevirtual 94, 3) := by decide +kernel
theorem dX8_hold_21 : decode cX8_hold 21 = .ok (.ifCond .ne 5, 3) := by decide +kernel
theorem dX8_hold_24 : decode cX8_hold 24 = .ok (.iconst (-1), 1) := by decide +kernel
theorem dX8_hold_25 : decode cX8_hold 25 = .ok (.ireturn, 1) := by decide +kernel
theorem dX8_hold_26 : decode cX8_hold 26 = .ok (.iload_n 2, 1) := by decide +kernel
theorem dX8_hold_27 : decode cX8_hold 27 = .ok (.iload_n 3, 1) := by decide +kernel
theorem dX8_hold_28 : decode cX8_hold 28 = .ok (.if_icmp .ne 6, 3) := by decide +kernel
theorem dX8_hold_31 : decode cX8_hold 31 = .ok (.bipush (-2), 2) := by decide +kernel
theorem dX8_hold_33 : decode cX8_hold 33 = .ok (.ireturn, 1) := by decide +kernel
theorem dX8_hold_34 : decode cX8_hold 34 = .ok (.aload_n 0, 1) := by decide +kernel
theorem dX8_hold_35 : decode cX8_hold 35 = .ok (.iload_n 1, 1) := by decide +kernel
theorem dX8_hold_36 : decode cX8_hold 36 = .ok (.iload_n 2, 1) := by decide +kernel
theorem dX8_hold_37 : decode cX8_hold 37 = .ok (.iload_n 3, 1) := by decide +kernel
theorem dX8_hold_38 : decode cX8_hold 38 = .ok (.invokevirtual 105, 3) := by decide +kernel
theorem dX8_hold_41 : decode cX8_hold 41 = .ok (.aload_n 0, 1) := by decide +kernel
theorem dX8_hold_42 : decode cX8_hold 42 = .ok (.iload_n 1, 1) := by decide +kernel
theorem dX8_hold_43 : decode cX8_hold 43 = .ok (.invokevirtual 139, 3) := by decide +kernel
theorem dX8_hold_46 : decode cX8_hold 46 = .ok (.ifCond .eq 7, 3) := by decide +kernel
theorem dX8_hold_49 : decode cX8_hold 49 = .ok (.iconst 1, 1) := by decide +kernel
theorem dX8_hold_50 : decode cX8_hold 50 = .ok (.goto 4, 3) := by decide +kernel
theorem dX8_hold_53 : decode cX8_hold 53 = .ok (.iconst 0, 1) := by decide +kernel
theorem dX8_hold_54 : decode cX8_hold 54 = .ok (.ireturn, 1) := by decide +kernel
set_option maxRecDepth 20000 in
theorem ggX8_free_X8_isLeaf : GoodIn wsX8_free wsX8_isLeaf := goodIn_r _ [5, 6, 7, 8, 4, 9, 22, 23, 24, 25, 26, 27, 28, 29, 30, 31, 32, 33, 34, 35, 36, 37, 38, 39, 40, 41, 42, 43, 44, 45, 46, 47, 48, 49, 50] rfl (by decide +kernel)
set_option maxRecDepth 20000 in
theorem gX8_free_X8_isLeaf : GoodIn wsX8_free (wsV RX8 109 RX8 yX8_isLeaf wsX8_isLeaf) := goodIn_app (goodIn_of _ (by decide +kernel)) ggX8_free_X8_isLeaf
set_option maxRecDepth 20000 in
theorem ggX8_free_X8_isHeld : GoodIn wsX8_free wsX8_isHeld := goodIn_r _ [13, 14, 15, 16, 4, 17, 6, 22, 23, 24, 25, 26, 27, 28, 29, 30, 31, 32, 33, 34, 35, 36, 37, 38, 39, 40, 41, 42, 43, 44, 45, 46, 47, 48, 49, 50] rfl (by decide +kernel)
set_option maxRecDepth 20000 in
theorem gX8_free_X8_isHeld : GoodIn wsX8_free (wsV RX8 133 RX8 yX8_isHeld wsX8_isHeld) := goodIn_app (goodIn_of _ (by decide +kernel)) ggX8_free_X8_isHeld
set_option maxRecDepth 20000 in
theorem ggX8_free_X8_holder : GoodIn wsX8_free wsX8_holder := goodIn_r _ [17, 6, 22, 23, 24, 25, 26, 27, 28, 29, 30, 31, 32, 33, 34, 35, 36, 37, 38, 39, 40, 41, 42, 43, 44, 45, 46, 47, 48, 49, 50] rfl (by decide +kernel)
set_option maxRecDepth 20000 in
theorem gX8_free_X8_holder : GoodIn wsX8_free (wsV RX8 87 RX8 yX8_holder wsX8_holder) := goodIn_app (goodIn_of _ (by decide +kernel)) ggX8_free_X8_holder
set_option maxRecDepth 20000 in
theorem ggX8_free_X8_holds : GoodIn wsX8_free wsX8_holds := goodIn_r _ [21, 6, 22, 23, 24, 25, 26, 27, 28, 29, 30, 31, 32, 33, 34, 35, 36, 37, 38, 39, 40, 41, 42, 43, 44, 45, 46, 47, 48, 49, 50] rfl (by decide +kernel)
set_option maxRecDepth 20000 in
theorem gX8_free_X8_holds : GoodIn wsX8_free (wsV RX8 105 RX8 yX8_holds wsX8_holds) := goodIn_app (goodIn_of _ (by decide +kernel)) ggX8_free_X8_holds
theorem dX8_free_0 : decode cX8_free 0 = .ok (.aload_n 0, 1) := by decide +kernel
theorem dX8_free_1 : decode cX8_free 1 = .ok (.iload_n 1, 1) := by decide +kernel
theorem dX8_free_2 : decode cX8_free 2 = .ok (.invokevirtual 109, 3) := by decide +kernel
theorem dX8_free_5 : decode cX8_free 5 = .ok (.ifCond .ne 5, 3) := by decide +kernel
theorem dX8_free_8 : decode cX8_free 8 = .ok (.iconst (-1), 1) := by decide +kernel
theorem dX8_free_9 : decode cX8_free 9 = .ok (.ireturn, 1) := by decide +kernel
theorem dX8_free_10 : decode cX8_free 10 = .ok (.aload_n 0, 1) := by decide +kernel
