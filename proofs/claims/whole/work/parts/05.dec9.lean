theorem dX9_init_0 : decode cX9_init 0 = .ok (.aload_n 0, 1) := by decide +kernel
theorem dX9_init_1 : decode cX9_init 1 = .ok (.invokespecial 1, 3) := by decide +kernel
theorem dX9_init_4 : decode cX9_init 4 = .ok (.aload_n 0, 1) := by decide +kernel
theorem dX9_init_5 : decode cX9_init 5 = .ok (.bipush 12, 2) := by decide +kernel
theorem dX9_init_7 : decode cX9_init 7 = .ok (.putfield 7, 3) := by decide +kernel
theorem dX9_init_10 : decode cX9_init 10 = .ok (.aload_n 0, 1) := by decide +kernel
theorem dX9_init_11 : decode cX9_init 11 = .ok (.iconst 1, 1) := by decide +kernel
theorem dX9_init_12 : decode cX9_init 12 = .ok (.putfield 13, 3) := by decide +kernel
theorem dX9_init_15 : decode cX9_init 15 = .ok (.aload_n 0, 1) := by decide +kernel
theorem dX9_init_16 : decode cX9_init 16 = .ok (.iconst 1, 1) := by decide +kernel
theorem dX9_init_17 : decode cX9_init 17 = .ok (.putfield 16, 3) := by decide +kernel
theorem dX9_init_20 : decode cX9_init 20 = .ok (.aload_n 0, 1) := by decide +kernel
theorem dX9_init_21 : decode cX9_init 21 = .ok (.iconst 5, 1) := by decide +kernel
theorem dX9_init_22 : decode cX9_init 22 = .ok (.putfield 19, 3) := by decide +kernel
theorem dX9_init_25 : decode cX9_init 25 = .ok (.aload_n 0, 1) := by decide +kernel
theorem dX9_init_26 : decode cX9_init 26 = .ok (.iconst (-1), 1) := by decide +kernel
theorem dX9_init_27 : decode cX9_init 27 = .ok (.putfield 22, 3) := by decide +kernel
theorem dX9_init_30 : decode cX9_init 30 = .ok (.aload_n 0, 1) := by decide +kernel
theorem dX9_init_31 : decode cX9_init 31 = .ok (.iconst 1, 1) := by decide +kernel
theorem dX9_init_32 : decode cX9_init 32 = .ok (.putfield 25, 3) := by decide +kernel
theorem dX9_init_35 : decode cX9_init 35 = .ok (.aload_n 0, 1) := by decide +kernel
theorem dX9_init_36 : decode cX9_init 36 = .ok (.iconst (-1), 1) := by decide +kernel
theorem dX9_init_37 : decode cX9_init 37 = .ok (.putfield 28, 3) := by decide +kernel
theorem dX9_init_40 : decode cX9_init 40 = .ok (.aload_n 0, 1) := by decide +kernel
theorem dX9_init_41 : decode cX9_init 41 = .ok (.bipush 8, 2) := by decide +kernel
theorem dX9_init_43 : decode cX9_init 43 = .ok (.newarray .int, 2) := by decide +kernel
theorem dX9_init_45 : decode cX9_init 45 = .ok (.putfield 31, 3) := by decide +kernel
theorem dX9_init_48 : decode cX9_init 48 = .ok (.aload_n 0, 1) := by decide +kernel
theorem dX9_init_49 : decode cX9_init 49 = .ok (.bipush 8, 2) := by decide +kernel
theorem dX9_init_51 : decode cX9_init 51 = .ok (.newarray .int, 2) := by decide +kernel
theorem dX9_init_53 : decode cX9_init 53 = .ok (.putfield 35, 3) := by decide +kernel
theorem dX9_init_56 : decode cX9_init 56 = .ok (.aload_n 0, 1) := by decide +kernel
theorem dX9_init_57 : decode cX9_init 57 = .ok (.bipush 8, 2) := by decide +kernel
theorem dX9_init_59 : decode cX9_init 59 = .ok (.newarray .int, 2) := by decide +kernel
theorem dX9_init_61 : decode cX9_init 61 = .ok (.putfield 38, 3) := by decide +kernel
theorem dX9_init_64 : decode cX9_init 64 = .ok (.aload_n 0, 1) := by decide +kernel
theorem dX9_init_65 : decode cX9_init 65 = .ok (.bipush 8, 2) := by decide +kernel
theorem dX9_init_67 : decode cX9_init 67 = .ok (.newarray .int, 2) := by decide +kernel
theorem dX9_init_69 : decode cX9_init 69 = .ok (.putfield 41, 3) := by decide +kernel
theorem dX9_init_72 : decode cX9_init 72 = .ok (.aload_n 0, 1) := by decide +kernel
theorem dX9_init_73 : decode cX9_init 73 = .ok (.bipush 8, 2) := by decide +kernel
theorem dX9_init_75 : decode cX9_init 75 = .ok (.newarray .int, 2) := by decide +kernel
theorem dX9_init_77 : decode cX9_init 77 = .ok (.putfield 44, 3) := by decide +kernel
theorem dX9_init_80 : decode cX9_init 80 = .ok (.aload_n 0, 1) := by decide +kernel
theorem dX9_init_81 : decode cX9_init 81 = .ok (.bipush 8, 2) := by decide +kernel
theorem dX9_init_83 : decode cX9_init 83 = .ok (.newarray .int, 2) := by decide +kernel
theorem dX9_init_85 : decode cX9_init 85 = .ok (.putfield 47, 3) := by decide +kernel
theorem dX9_init_88 : decode cX9_init 88 = .ok (.aload_n 0, 1) := by decide +kernel
theorem dX9_init_89 : decode cX9_init 89 = .ok (.bipush 8, 2) := by decide +kernel
theorem dX9_init_91 : decode cX9_init 91 = .ok (.newarray .int, 2) := by decide +kernel
theorem dX9_init_93 : decode cX9_init 93 = .ok (.putfield 50, 3) := by decide +kernel
theorem dX9_init_96 : decode cX9_init 96 = .ok (.aload_n 0, 1) := by decide +kernel
theorem dX9_init_97 : decode cX9_init 97 = .ok (.bipush 8, 2) := by decide +kernel
theorem dX9_init_99 : decode cX9_init 99 = .ok (.newarray .int, 2) := by decide +kernel
theorem dX9_init_101 : decode cX9_init 101 = .ok (.putfield 53, 3) := by decide +kernel
theorem dX9_init_104 : decode cX9_init 104 = .ok (.aload_n 0, 1) := by decide +kernel
theorem dX9_init_105 : decode cX9_init 105 = .ok (.bipush 24, 2) := by decide +kernel
theorem dX9_init_107 : decode cX9_init 107 = .ok (.newarray .long, 2) := by decide +kernel
theorem dX9_init_109 : decode cX9_init 109 = .ok (.putfield 56, 3) := by decide +kernel
theorem dX9_init_112 : decode cX9_init 112 = .ok (.aload_n 0, 1) := by decide +kernel
theorem dX9_init_113 : decode cX9_init 113 = .ok (.bipush 24, 2) := by decide +kernel
theorem dX9_init_115 : decode cX9_init 115 = .ok (.newarray .long, 2) := by decide +kernel
theorem dX9_init_117 : decode cX9_init 117 = .ok (.putfield 60, 3) := by decide +kernel
theorem dX9_init_120 : decode cX9_init 120 = .ok (.aload_n 0, 1) := by decide +kernel
theorem dX9_init_121 : decode cX9_init 121 = .ok (.bipush 8, 2) := by decide +kernel
theorem dX9_init_123 : decode cX9_init 123 = .ok (.newarray .int, 2) := by decide +kernel
theorem dX9_init_125 : decode cX9_init 125 = .ok (.putfield 63, 3) := by decide +kernel
theorem dX9_init_128 : decode cX9_init 128 = .ok (.aload_n 0, 1) := by decide +kernel
theorem dX9_init_129 : decode cX9_init 129 = .ok (.bipush 8, 2) := by decide +kernel
theorem dX9_init_131 : decode cX9_init 131 = .ok (.newarray .int, 2) := by decide +kernel
theorem dX9_init_133 : decode cX9_init 133 = .ok (.putfield 66, 3) := by decide +kernel
theorem dX9_init_136 : decode cX9_init 136 = .ok (.aload_n 0, 1) := by decide +kernel
theorem dX9_init_137 : decode cX9_init 137 = .ok (.bipush 8, 2) := by decide +kernel
theorem dX9_init_139 : decode cX9_init 139 = .ok (.newarray .int, 2) := by decide +kernel
theorem dX9_init_141 : decode cX9_init 141 = .ok (.putfield 69, 3) := by decide +kernel
theorem dX9_init_144 : decode cX9_init 144 = .ok (.aload_n 0, 1) := by decide +kernel
theorem dX9_init_145 : decode cX9_init 145 = .ok (.bipush 8, 2) := by decide +kernel
theorem dX9_init_147 : decode cX9_init 147 = .ok (.newarray .int, 2) := by decide +kernel
theorem dX9_init_149 : decode cX9_init 149 = .ok (.putfield 72, 3) := by decide +kernel
theorem dX9_init_152 : decode cX9_init 152 = .ok (.aload_n 0, 1) := by decide +kernel
theorem dX9_init_153 : decode cX9_init 153 = .ok (.sipush 1280, 3) := by decide +kernel
theorem dX9_init_156 : decode cX9_init 156 = .ok (.newarray .long, 2) := by decide +kernel
theorem dX9_init_158 : decode cX9_init 158 = .ok (.putfield 75, 3) := by decide +kernel
theorem dX9_init_161 : decode cX9_init 161 = .ok (.aload_n 0, 1) := by decide +kernel
theorem dX9_init_162 : decode cX9_init 162 = .ok (.sipush 160, 3) := by decide +kernel
theorem dX9_init_165 : decode cX9_init 165 = .ok (.newarray .long, 2) := by decide +kernel
theorem dX9_init_167 : decode cX9_init 167 = .ok (.putfield 78, 3) := by decide +kernel
theorem dX9_init_170 : decode cX9_init 170 = .ok (.aload_n 0, 1) := by decide +kernel
theorem dX9_init_171 : decode cX9_init 171 = .ok (.bipush 38, 2) := by decide +kernel
theorem dX9_init_173 : decode cX9_init 173 = .ok (.newarray .int, 2) := by decide +kernel
theorem dX9_init_175 : decode cX9_init 175 = .ok (.dup, 1) := by decide +kernel
theorem dX9_init_176 : decode cX9_init 176 = .ok (.iconst 0, 1) := by decide +kernel
theorem dX9_init_177 : decode cX9_init 177 = .ok (.bipush 108, 2) := by decide +kernel
theorem dX9_init_179 : decode cX9_init 179 = .ok (.iastore, 1) := by decide +kernel
theorem dX9_init_180 : decode cX9_init 180 = .ok (.dup, 1) := by decide +kernel
theorem dX9_init_181 : decode cX9_init 181 = .ok (.iconst 1, 1) := by decide +kernel
theorem dX9_init_182 : decode cX9_init 182 = .ok (.bipush 111, 2) := by decide +kernel
theorem dX9_init_184 : decode cX9_init 184 = .ok (.iastore, 1) := by decide +kernel
theorem dX9_init_185 : decode cX9_init 185 = .ok (.dup, 1) := by decide +kernel
theorem dX9_init_186 : decode cX9_init 186 = .ok (.iconst 2, 1) := by decide +kernel
theorem dX9_init_187 : decode cX9_init 187 = .ok (.bipush 110, 2) := by decide +kernel
theorem dX9_init_189 : decode cX9_init 189 = .ok (.iastore, 1) := by decide +kernel
theorem dX9_init_190 : decode cX9_init 190 = .ok (.dup, 1) := by decide +kernel
theorem dX9_init_191 : decode cX9_init 191 = .ok (.iconst 3, 1) := by decide +kernel
theorem dX9_init_192 : decode cX9_init 192 = .ok (.bipush 103, 2) := by decide +kernel
theorem dX9_init_194 : decode cX9_init 194 = .ok (.iastore, 1) := by decide +kernel
theorem dX9_init_195 : decode cX9_init 195 = .ok (.dup, 1) := by decide +kernel
theorem dX9_init_196 : decode cX9_init 196 = .ok (.iconst 4, 1) := by decide +kernel
theorem dX9_init_197 : decode cX9_init 197 = .ok (.bipush 32, 2) := by decide +kernel
theorem dX9_init_199 : decode cX9_init 199 = .ok (.iastore, 1) := by decide +kernel
theorem dX9_init_200 : decode cX9_init 200 = .ok (.dup, 1) := by decide +kernel
theorem dX9_init_201 : decode cX9_init 201 = .ok (.iconst 5, 1) := by decide +kernel
theorem dX9_init_202 : decode cX9_init 202 = .ok (.iconst 0, 1) := by decide +kernel
theorem dX9_init_203 : decode cX9_init 203 = .ok (.iastore, 1) := by decide +kernel
theorem dX9_init_204 : decode cX9_init 204 = .ok (.dup, 1) := by decide +kernel
theorem dX9_init_205 : decode cX9_init 205 = .ok (.bipush 6, 2) := by decide +kernel
theorem dX9_init_207 : decode cX9_init 207 = .ok (.bipush 115, 2) := by decide +kernel
theorem dX9_init_209 : decode cX9_init 209 = .ok (.iastore, 1) := by decide +kernel
theorem dX9_init_210 : decode cX9_init 210 = .ok (.dup, 1) := by decide +kernel
theorem dX9_init_211 : decode cX9_init 211 = .ok (.bipush 7, 2) := by decide +kernel
theorem dX9_init_213 : decode cX9_init 213 = .ok (.bipush 105, 2) := by decide +kernel
theorem dX9_init_215 : decode cX9_init 215 = .ok (.iastore, 1) := by decide +kernel
theorem dX9_init_216 : decode cX9_init 216 = .ok (.dup, 1) := by decide +kernel
theorem dX9_init_217 : decode cX9_init 217 = .ok (.bipush 8, 2) := by decide +kernel
theorem dX9_init_219 : decode cX9_init 219 = .ok (.bipush 103, 2) := by decide +kernel
theorem dX9_init_221 : decode cX9_init 221 = .ok (.iastore, 1) := by decide +kernel
theorem dX9_init_222 : decode cX9_init 222 = .ok (.dup, 1) := by decide +kernel
theorem dX9_init_223 : decode cX9_init 223 = .ok (.bipush 9, 2) := by decide +kernel
theorem dX9_init_225 : decode cX9_init 225 = .ok (.bipush 110, 2) := by decide +kernel
theorem dX9_init_227 : decode cX9_init 227 = .ok (.iastore, 1) := by decide +kernel
theorem dX9_init_228 : decode cX9_init 228 = .ok (.dup, 1) := by decide +kernel
theorem dX9_init_229 : decode cX9_init 229 = .ok (.bipush 10, 2) := by decide +kernel
theorem dX9_init_231 : decode cX9_init 231 = .ok (.bipush 32, 2) := by decide +kernel
theorem dX9_init_233 : decode cX9_init 233 = .ok (.iastore, 1) := by decide +kernel
theorem dX9_init_234 : decode cX9_init 234 = .ok (.dup, 1) := by decide +kernel
theorem dX9_init_235 : decode cX9_init 235 = .ok (.bipush 11, 2) := by decide +kernel
theorem dX9_init_237 : decode cX9_init 237 = .ok (.iconst 0, 1) := by decide +kernel
theorem dX9_init_238 : decode cX9_init 238 = .ok (.iastore, 1) := by decide +kernel
theorem dX9_init_239 : decode cX9_init 239 = .ok (.dup, 1) := by decide +kernel
theorem dX9_init_240 : decode cX9_init 240 = .ok (.bipush 12, 2) := by decide +kernel
theorem dX9_init_242 : decode cX9_init 242 = .ok (.bipush 116, 2) := by decide +kernel
theorem dX9_init_244 : decode cX9_init 244 = .ok (.iastore, 1) := by decide +kernel
theorem dX9_init_245 : decode cX9_init 245 = .ok (.dup, 1) := by decide +kernel
theorem dX9_init_246 : decode cX9_init 246 = .ok (.bipush 13, 2) := by decide +kernel
theorem dX9_init_248 : decode cX9_init 248 = .ok (.bipush 104, 2) := by decide +kernel
theorem dX9_init_250 : decode cX9_init 250 = .ok (.iastore, 1) := by decide +kernel
theorem dX9_init_251 : decode cX9_init 251 = .ok (.dup, 1) := by decide +kernel
theorem dX9_init_252 : decode cX9_init 252 = .ok (.bipush 14, 2) := by decide +kernel
theorem dX9_init_254 : decode cX9_init 254 = .ok (.bipush 105, 2) := by decide +kernel
theorem dX9_init_256 : decode cX9_init 256 = .ok (.iastore, 1) := by decide +kernel
theorem dX9_init_257 : decode cX9_init 257 = .ok (.dup, 1) := by decide +kernel
theorem dX9_init_258 : decode cX9_init 258 = .ok (.bipush 15, 2) := by decide +kernel
theorem dX9_init_260 : decode cX9_init 260 = .ok (.bipush 110, 2) := by decide +kernel
theorem dX9_init_262 : decode cX9_init 262 = .ok (.iastore, 1) := by decide +kernel
theorem dX9_init_263 : decode cX9_init 263 = .ok (.dup, 1) := by decide +kernel
theorem dX9_init_264 : decode cX9_init 264 = .ok (.bipush 16, 2) := by decide +kernel
theorem dX9_init_266 : decode cX9_init 266 = .ok (.bipush 103, 2) := by decide +kernel
theorem dX9_init_268 : decode cX9_init 268 = .ok (.iastore, 1) := by decide +kernel
theorem dX9_init_269 : decode cX9_init 269 = .ok (.dup, 1) := by decide +kernel
theorem dX9_init_270 : decode cX9_init 270 = .ok (.bipush 17, 2) := by decide +kernel
theorem dX9_init_272 : decode cX9_init 272 = .ok (.bipush 32, 2) := by decide +kernel
theorem dX9_init_274 : decode cX9_init 274 = .ok (.iastore, 1) := by decide +kernel
theorem dX9_init_275 : decode cX9_init 275 = .ok (.dup, 1) := by decide +kernel
theorem dX9_init_276 : decode cX9_init 276 = .ok (.bipush 18, 2) := by decide +kernel
theorem dX9_init_278 : decode cX9_init 278 = .ok (.iconst 0, 1) := by decide +kernel
theorem dX9_init_279 : decode cX9_init 279 = .ok (.iastore, 1) := by decide +kernel
theorem dX9_init_280 : decode cX9_init 280 = .ok (.dup, 1) := by decide +kernel
theorem dX9_init_281 : decode cX9_init 281 = .ok (.bipush 19, 2) := by decide +kernel
theorem dX9_init_283 : decode cX9_init 283 = .ok (.bipush 119, 2) := by decide +kernel
theorem dX9_init_285 : decode cX9_init 285 = .ok (.iastore, 1) := by decide +kernel
theorem dX9_init_286 : decode cX9_init 286 = .ok (.dup, 1) := by decide +kernel
theorem dX9_init_287 : decode cX9_init 287 = .ok (.bipush 20, 2) := by decide +kernel
theorem dX9_init_289 : decode cX9_init 289 = .ok (.bipush 97, 2) := by decide +kernel
theorem dX9_init_291 : decode cX9_init 291 = .ok (.iastore, 1) := by decide +kernel
theorem dX9_init_292 : decode cX9_init 292 = .ok (.dup, 1) := by decide +kernel
theorem dX9_init_293 : decode cX9_init 293 = .ok (.bipush 21, 2) := by decide +kernel
theorem dX9_init_295 : decode cX9_init 295 = .ok (.bipush 110, 2) := by decide +kernel
theorem dX9_init_297 : decode cX9_init 297 = .ok (.iastore, 1) := by decide +kernel
theorem dX9_init_298 : decode cX9_init 298 = .ok (.dup, 1) := by decide +kernel
theorem dX9_init_299 : decode cX9_init 299 = .ok (.bipush 22, 2) := by decide +kernel
theorem dX9_init_301 : decode cX9_init 301 = .ok (.bipush 100, 2) := by decide +kernel
theorem dX9_init_303 : decode cX9_init 303 = .ok (.iastore, 1) := by decide +kernel
theorem dX9_init_304 : decode cX9_init 304 = .ok (.dup, 1) := by decide +kernel
theorem dX9_init_305 : decode cX9_init 305 = .ok (.bipush 23, 2) := by decide +kernel
theorem dX9_init_307 : decode cX9_init 307 = .ok (.bipush 101, 2) := by decide +kernel
theorem dX9_init_309 : decode cX9_init 309 = .ok (.iastore, 1) := by decide +kernel
theorem dX9_init_310 : decode cX9_init 310 = .ok (.dup, 1) := by decide +kernel
theorem dX9_init_311 : decode cX9_init 311 = .ok (.bipush 24, 2) := by decide +kernel
theorem dX9_init_313 : decode cX9_init 313 = .ok (.bipush 114, 2) := by decide +kernel
theorem dX9_init_315 : decode cX9_init 315 = .ok (.iastore, 1) := by decide +kernel
theorem dX9_init_316 : decode cX9_init 316 = .ok (.dup, 1) := by decide +kernel
theorem dX9_init_317 : decode cX9_init 317 = .ok (.bipush 25, 2) := by decide +kernel
theorem dX9_init_319 : decode cX9_init 319 = .ok (.bipush 32, 2) := by decide +kernel
theorem dX9_init_321 : decode cX9_init 321 = .ok (.iastore, 1) := by decide +kernel
theorem dX9_init_322 : decode cX9_init 322 = .ok (.dup, 1) := by decide +kernel
theorem dX9_init_323 : decode cX9_init 323 = .ok (.bipush 26, 2) := by decide +kernel
theorem dX9_init_325 : decode cX9_init 325 = .ok (.iconst 0, 1) := by decide +kernel
theorem dX9_init_326 : decode cX9_init 326 = .ok (.iastore, 1) := by decide +kernel
theorem dX9_init_327 : decode cX9_init 327 = .ok (.dup, 1) := by decide +kernel
theorem dX9_init_328 : decode cX9_init 328 = .ok (.bipush 27, 2) := by decide +kernel
theorem dX9_init_330 : decode cX9_init 330 = .ok (.bipush 97, 2) := by decide +kernel
theorem dX9_init_332 : decode cX9_init 332 = .ok (.iastore, 1) := by decide +kernel
theorem dX9_init_333 : decode cX9_init 333 = .ok (.dup, 1) := by decide +kernel
theorem dX9_init_334 : decode cX9_init 334 = .ok (.bipush 28, 2) := by decide +kernel
theorem dX9_init_336 : decode cX9_init 336 = .ok (.bipush 114, 2) := by decide +kernel
theorem dX9_init_338 : decode cX9_init 338 = .ok (.iastore, 1) := by decide +kernel
theorem dX9_init_339 : decode cX9_init 339 = .ok (.dup, 1) := by decide +kernel
theorem dX9_init_340 : decode cX9_init 340 = .ok (.bipush 29, 2) := by decide +kernel
theorem dX9_init_342 : decode cX9_init 342 = .ok (.bipush 99, 2) := by decide +kernel
theorem dX9_init_344 : decode cX9_init 344 = .ok (.iastore, 1) := by decide +kernel
theorem dX9_init_345 : decode cX9_init 345 = .ok (.dup, 1) := by decide +kernel
theorem dX9_init_346 : decode cX9_init 346 = .ok (.bipush 30, 2) := by decide +kernel
theorem dX9_init_348 : decode cX9_init 348 = .ok (.bipush 32, 2) := by decide +kernel
theorem dX9_init_350 : decode cX9_init 350 = .ok (.iastore, 1) := by decide +kernel
theorem dX9_init_351 : decode cX9_init 351 = .ok (.dup, 1) := by decide +kernel
theorem dX9_init_352 : decode cX9_init 352 = .ok (.bipush 31, 2) := by decide +kernel
theorem dX9_init_354 : decode cX9_init 354 = .ok (.iconst 0, 1) := by decide +kernel
theorem dX9_init_355 : decode cX9_init 355 = .ok (.iastore, 1) := by decide +kernel
theorem dX9_init_356 : decode cX9_init 356 = .ok (.dup, 1) := by decide +kernel
theorem dX9_init_357 : decode cX9_init 357 = .ok (.bipush 32, 2) := by decide +kernel
theorem dX9_init_359 : decode cX9_init 359 = .ok (.bipush 104, 2) := by decide +kernel
theorem dX9_init_361 : decode cX9_init 361 = .ok (.iastore, 1) := by decide +kernel
theorem dX9_init_362 : decode cX9_init 362 = .ok (.dup, 1) := by decide +kernel
theorem dX9_init_363 : decode cX9_init 363 = .ok (.bipush 33, 2) := by decide +kernel
theorem dX9_init_365 : decode cX9_init 365 = .ok (.bipush 111, 2) := by decide +kernel
theorem dX9_init_367 : decode cX9_init 367 = .ok (.iastore, 1) := by decide +kernel
theorem dX9_init_368 : decode cX9_init 368 = .ok (.dup, 1) := by decide +kernel
theorem dX9_init_369 : decode cX9_init 369 = .ok (.bipush 34, 2) := by decide +kernel
theorem dX9_init_371 : decode cX9_init 371 = .ok (.bipush 117, 2) := by decide +kernel
theorem dX9_init_373 : decode cX9_init 373 = .ok (.iastore, 1) := by decide +kernel
theorem dX9_init_374 : decode cX9_init 374 = .ok (.dup, 1) := by decide +kernel
theorem dX9_init_375 : decode cX9_init 375 = .ok (.bipush 35, 2) := by decide +kernel
theorem dX9_init_377 : decode cX9_init 377 = .ok (.bipush 114, 2) := by decide +kernel
theorem dX9_init_379 : decode cX9_init 379 = .ok (.iastore, 1) := by decide +kernel
theorem dX9_init_380 : decode cX9_init 380 = .ok (.dup, 1) := by decide +kernel
theorem dX9_init_381 : decode cX9_init 381 = .ok (.bipush 36, 2) := by decide +kernel
theorem dX9_init_383 : decode cX9_init 383 = .ok (.bipush 32, 2) := by decide +kernel
theorem dX9_init_385 : decode cX9_init 385 = .ok (.iastore, 1) := by decide +kernel
theorem dX9_init_386 : decode cX9_init 386 = .ok (.dup, 1) := by decide +kernel
theorem dX9_init_387 : decode cX9_init 387 = .ok (.bipush 37, 2) := by decide +kernel
theorem dX9_init_389 : decode cX9_init 389 = .ok (.iconst 0, 1) := by decide +kernel
theorem dX9_init_390 : decode cX9_init 390 = .ok (.iastore, 1) := by decide +kernel
theorem dX9_init_391 : decode cX9_init 391 = .ok (.putfield 81, 3) := by decide +kernel
theorem dX9_init_394 : decode cX9_init 394 = .ok (.aload_n 0, 1) := by decide +kernel
theorem dX9_init_395 : decode cX9_init 395 = .ok (.iconst 4, 1) := by decide +kernel
theorem dX9_init_396 : decode cX9_init 396 = .ok (.newarray .int, 2) := by decide +kernel
theorem dX9_init_398 : decode cX9_init 398 = .ok (.putfield 84, 3) := by decide +kernel
theorem dX9_init_401 : decode cX9_init 401 = .ok (.aload_n 0, 1) := by decide +kernel
theorem dX9_init_402 : decode cX9_init 402 = .ok (.bipush 80, 2) := by decide +kernel
theorem dX9_init_404 : decode cX9_init 404 = .ok (.newarray .int, 2) := by decide +kernel
theorem dX9_init_406 : decode cX9_init 406 = .ok (.putfield 87, 3) := by decide +kernel
theorem dX9_init_409 : decode cX9_init 409 = .ok (.aload_n 0, 1) := by decide +kernel
theorem dX9_init_410 : decode cX9_init 410 = .ok (.bipush 80, 2) := by decide +kernel
theorem dX9_init_412 : decode cX9_init 412 = .ok (.newarray .int, 2) := by decide +kernel
theorem dX9_init_414 : decode cX9_init 414 = .ok (.putfield 90, 3) := by decide +kernel
theorem dX9_init_417 : decode cX9_init 417 = .ok (.aload_n 0, 1) := by decide +kernel
theorem dX9_init_418 : decode cX9_init 418 = .ok (.bipush 24, 2) := by decide +kernel
theorem dX9_init_420 : decode cX9_init 420 = .ok (.newarray .long, 2) := by decide +kernel
theorem dX9_init_422 : decode cX9_init 422 = .ok (.putfield 93, 3) := by decide +kernel
theorem dX9_init_425 : decode cX9_init 425 = .ok (.aload_n 0, 1) := by decide +kernel
theorem dX9_init_426 : decode cX9_init 426 = .ok (.bipush 24, 2) := by decide +kernel
theorem dX9_init_428 : decode cX9_init 428 = .ok (.newarray .long, 2) := by decide +kernel
theorem dX9_init_430 : decode cX9_init 430 = .ok (.putfield 96, 3) := by decide +kernel
theorem dX9_init_433 : decode cX9_init 433 = .ok (.aload_n 0, 1) := by decide +kernel
theorem dX9_init_434 : decode cX9_init 434 = .ok (.bipush 24, 2) := by decide +kernel
theorem dX9_init_436 : decode cX9_init 436 = .ok (.newarray .long, 2) := by decide +kernel
theorem dX9_init_438 : decode cX9_init 438 = .ok (.putfield 99, 3) := by decide +kernel
theorem dX9_init_441 : decode cX9_init 441 = .ok (.aload_n 0, 1) := by decide +kernel
theorem dX9_init_442 : decode cX9_init 442 = .ok (.bipush 21, 2) := by decide +kernel
theorem dX9_init_444 : decode cX9_init 444 = .ok (.newarray .int, 2) := by decide +kernel
theorem dX9_init_446 : decode cX9_init 446 = .ok (.putfield 102, 3) := by decide +kernel
theorem dX9_init_449 : decode cX9_init 449 = .ok (.aload_n 0, 1) := by decide +kernel
theorem dX9_init_450 : decode cX9_init 450 = .ok (.bipush 21, 2) := by decide +kernel
theorem dX9_init_452 : decode cX9_init 452 = .ok (.newarray .int, 2) := by decide +kernel
theorem dX9_init_454 : decode cX9_init 454 = .ok (.putfield 105, 3) := by decide +kernel
theorem dX9_init_457 : decode cX9_init 457 = .ok (.aload_n 0, 1) := by decide +kernel
theorem dX9_init_458 : decode cX9_init 458 = .ok (.bipush 20, 2) := by decide +kernel
theorem dX9_init_460 : decode cX9_init 460 = .ok (.newarray .int, 2) := by decide +kernel
theorem dX9_init_462 : decode cX9_init 462 = .ok (.putfield 108, 3) := by decide +kernel
theorem dX9_init_465 : decode cX9_init 465 = .ok (.aload_n 0, 1) := by decide +kernel
theorem dX9_init_466 : decode cX9_init 466 = .ok (.iconst (-1), 1) := by decide +kernel
theorem dX9_init_467 : decode cX9_init 467 = .ok (.invokevirtual 111, 3) := by decide +kernel
theorem dX9_init_470 : decode cX9_init 470 = .ok (.return_, 1) := by decide +kernel
theorem dX9_no_0 : decode cX9_no 0 = .ok (.aload_n 0, 1) := by decide +kernel
theorem dX9_no_1 : decode cX9_no 1 = .ok (.getfield 31, 3) := by decide +kernel
theorem dX9_no_4 : decode cX9_no 4 = .ok (.iload_n 1, 1) := by decide +kernel
theorem dX9_no_5 : decode cX9_no 5 = .ok (.ineg, 1) := by decide +kernel
theorem dX9_no_6 : decode cX9_no 6 = .ok (.dup2, 1) := by decide +kernel
theorem dX9_no_7 : decode cX9_no 7 = .ok (.iaload, 1) := by decide +kernel
theorem dX9_no_8 : decode cX9_no 8 = .ok (.iconst 1, 1) := by decide +kernel
theorem dX9_no_9 : decode cX9_no 9 = .ok (.iadd, 1) := by decide +kernel
theorem dX9_no_10 : decode cX9_no 10 = .ok (.iastore, 1) := by decide +kernel
theorem dX9_no_11 : decode cX9_no 11 = .ok (.iload_n 1, 1) := by decide +kernel
theorem dX9_no_12 : decode cX9_no 12 = .ok (.ireturn, 1) := by decide +kernel
theorem dX9_noTen_0 : decode cX9_noTen 0 = .ok (.aload_n 0, 1) := by decide +kernel
theorem dX9_noTen_1 : decode cX9_noTen 1 = .ok (.getfield 31, 3) := by decide +kernel
theorem dX9_noTen_4 : decode cX9_noTen 4 = .ok (.iload_n 1, 1) := by decide +kernel
theorem dX9_noTen_5 : decode cX9_noTen 5 = .ok (.ineg, 1) := by decide +kernel
theorem dX9_noTen_6 : decode cX9_noTen 6 = .ok (.dup2, 1) := by decide +kernel
theorem dX9_noTen_7 : decode cX9_noTen 7 = .ok (.iaload, 1) := by decide +kernel
theorem dX9_noTen_8 : decode cX9_noTen 8 = .ok (.iconst 1, 1) := by decide +kernel
theorem dX9_noTen_9 : decode cX9_noTen 9 = .ok (.iadd, 1) := by decide +kernel
theorem dX9_noTen_10 : decode cX9_noTen 10 = .ok (.iastore, 1) := by decide +kernel
theorem dX9_noTen_11 : decode cX9_noTen 11 = .ok (.iload_n 1, 1) := by decide +kernel
theorem dX9_noTen_12 : decode cX9_noTen 12 = .ok (.bipush 10, 2) := by decide +kernel
theorem dX9_noTen_14 : decode cX9_noTen 14 = .ok (.isub, 1) := by decide +kernel
theorem dX9_noTen_15 : decode cX9_noTen 15 = .ok (.ireturn, 1) := by decide +kernel
theorem dX9_isShelf_0 : decode cX9_isShelf 0 = .ok (.iload_n 1, 1) := by decide +kernel
theorem dX9_isShelf_1 : decode cX9_isShelf 1 = .ok (.ifCond .lt 13, 3) := by decide +kernel
theorem dX9_isShelf_4 : decode cX9_isShelf 4 = .ok (.iload_n 1, 1) := by decide +kernel
theorem dX9_isShelf_5 : decode cX9_isShelf 5 = .ok (.bipush 8, 2) := by decide +kernel
theorem dX9_isShelf_7 : decode cX9_isShelf 7 = .ok (.if_icmp .ge 7, 3) := by decide +kernel
theorem dX9_isShelf_10 : decode cX9_isShelf 10 = .ok (.iconst 1, 1) := by decide +kernel
theorem dX9_isShelf_11 : decode cX9_isShelf 11 = .ok (.goto 4, 3) := by decide +kernel
theorem dX9_isShelf_14 : decode cX9_isShelf 14 = .ok (.iconst 0, 1) := by decide +kernel
theorem dX9_isShelf_15 : decode cX9_isShelf 15 = .ok (.ireturn, 1) := by decide +kernel
theorem dX9_isCell_0 : decode cX9_isCell 0 = .ok (.iload_n 1, 1) := by decide +kernel
theorem dX9_isCell_1 : decode cX9_isCell 1 = .ok (.ifCond .lt 15, 3) := by decide +kernel
theorem dX9_isCell_4 : decode cX9_isCell 4 = .ok (.iload_n 1, 1) := by decide +kernel
theorem dX9_isCell_5 : decode cX9_isCell 5 = .ok (.aload_n 0, 1) := by decide +kernel
theorem dX9_isCell_6 : decode cX9_isCell 6 = .ok (.getfield 7, 3) := by decide +kernel
theorem dX9_isCell_9 : decode cX9_isCell 9 = .ok (.if_icmp .ge 7, 3) := by decide +kernel
theorem dX9_isCell_12 : decode cX9_isCell 12 = .ok (.iconst 1, 1) := by decide +kernel
theorem dX9_isCell_13 : decode cX9_isCell 13 = .ok (.goto 4, 3) := by decide +kernel
theorem dX9_isCell_16 : decode cX9_isCell 16 = .ok (.iconst 0, 1) := by decide +kernel
theorem dX9_isCell_17 : decode cX9_isCell 17 = .ok (.ireturn, 1) := by decide +kernel
theorem dX9_isSign_0 : decode cX9_isSign 0 = .ok (.iload_n 1, 1) := by decide +kernel
theorem dX9_isSign_1 : decode cX9_isSign 1 = .ok (.ifCond .lt 15, 3) := by decide +kernel
theorem dX9_isSign_4 : decode cX9_isSign 4 = .ok (.iload_n 1, 1) := by decide +kernel
theorem dX9_isSign_5 : decode cX9_isSign 5 = .ok (.aload_n 0, 1) := by decide +kernel
theorem dX9_isSign_6 : decode cX9_isSign 6 = .ok (.getfield 115, 3) := by decide +kernel
theorem dX9_isSign_9 : decode cX9_isSign 9 = .ok (.if_icmp .ge 7, 3) := by decide +kernel
theorem dX9_isSign_12 : decode cX9_isSign 12 = .ok (.iconst 1, 1) := by decide +kernel
theorem dX9_isSign_13 : decode cX9_isSign 13 = .ok (.goto 4, 3) := by decide +kernel
theorem dX9_isSign_16 : decode cX9_isSign 16 = .ok (.iconst 0, 1) := by decide +kernel
theorem dX9_isSign_17 : decode cX9_isSign 17 = .ok (.ireturn, 1) := by decide +kernel
theorem dX9_row_0 : decode cX9_row 0 = .ok (.aload_n 0, 1) := by decide +kernel
theorem dX9_row_1 : decode cX9_row 1 = .ok (.iload_n 1, 1) := by decide +kernel
theorem dX9_row_2 : decode cX9_row 2 = .ok (.invokevirtual 118, 3) := by decide +kernel
theorem dX9_row_5 : decode cX9_row 5 = .ok (.ifCond .ne 9, 3) := by decide +kernel
theorem dX9_row_8 : decode cX9_row 8 = .ok (.aload_n 0, 1) := by decide +kernel
theorem dX9_row_9 : decode cX9_row 9 = .ok (.iconst (-1), 1) := by decide +kernel
theorem dX9_row_10 : decode cX9_row 10 = .ok (.invokevirtual 122, 3) := by decide +kernel
theorem dX9_row_13 : decode cX9_row 13 = .ok (.ireturn, 1) := by decide +kernel
theorem dX9_row_14 : decode cX9_row 14 = .ok (.iload_n 3, 1) := by decide +kernel
theorem dX9_row_15 : decode cX9_row 15 = .ok (.ifCond .ge 10, 3) := by decide +kernel
theorem dX9_row_18 : decode cX9_row 18 = .ok (.aload_n 0, 1) := by decide +kernel
theorem dX9_row_19 : decode cX9_row 19 = .ok (.bipush (-4), 2) := by decide +kernel
theorem dX9_row_21 : decode cX9_row 21 = .ok (.invokevirtual 122, 3) := by decide +kernel
theorem dX9_row_24 : decode cX9_row 24 = .ok (.ireturn, 1) := by decide +kernel
theorem dX9_row_25 : decode cX9_row 25 = .ok (.iload_n 2, 1) := by decide +kernel
theorem dX9_row_26 : decode cX9_row 26 = .ok (.ifCond .lt 8, 3) := by decide +kernel
theorem dX9_row_29 : decode cX9_row 29 = .ok (.iload_n 2, 1) := by decide +kernel
theorem dX9_row_30 : decode cX9_row 30 = .ok (.iconst 3, 1) := by decide +kernel
theorem dX9_row_31 : decode cX9_row 31 = .ok (.if_icmp .le 10, 3) := by decide +kernel
theorem dX9_row_34 : decode cX9_row 34 = .ok (.aload_n 0, 1) := by decide +kernel
theorem dX9_row_35 : decode cX9_row 35 = .ok (.bipush (-6), 2) := by decide +kernel
theorem dX9_row_37 : decode cX9_row 37 = .ok (.invokevirtual 122, 3) := by decide +kernel
theorem dX9_row_40 : decode cX9_row 40 = .ok (.ireturn, 1) := by decide +kernel
theorem dX9_row_41 : decode cX9_row 41 = .ok (.iload_n 3, 1) := by decide +kernel
theorem dX9_row_42 : decode cX9_row 42 = .ok (.sipush 160, 3) := by decide +kernel
theorem dX9_row_45 : decode cX9_row 45 = .ok (.if_icmp .le 10, 3) := by decide +kernel
theorem dX9_row_48 : decode cX9_row 48 = .ok (.aload_n 0, 1) := by decide +kernel
theorem dX9_row_49 : decode cX9_row 49 = .ok (.bipush (-7), 2) := by decide +kernel
theorem dX9_row_51 : decode cX9_row 51 = .ok (.invokevirtual 122, 3) := by decide +kernel
theorem dX9_row_54 : decode cX9_row 54 = .ok (.ireturn, 1) := by decide +kernel
theorem dX9_row_55 : decode cX9_row 55 = .ok (.aload_n 0, 1) := by decide +kernel
theorem dX9_row_56 : decode cX9_row 56 = .ok (.getfield 63, 3) := by decide +kernel
theorem dX9_row_59 : decode cX9_row 59 = .ok (.iload_n 1, 1) := by decide +kernel
theorem dX9_row_60 : decode cX9_row 60 = .ok (.iconst 1, 1) := by decide +kernel
theorem dX9_row_61 : decode cX9_row 61 = .ok (.iastore, 1) := by decide +kernel
theorem dX9_row_62 : decode cX9_row 62 = .ok (.aload_n 0, 1) := by decide +kernel
theorem dX9_row_63 : decode cX9_row 63 = .ok (.getfield 66, 3) := by decide +kernel
theorem dX9_row_66 : decode cX9_row 66 = .ok (.iload_n 1, 1) := by decide +kernel
theorem dX9_row_67 : decode cX9_row 67 = .ok (.iload_n 2, 1) := by decide +kernel
theorem dX9_row_68 : decode cX9_row 68 = .ok (.iastore, 1) := by decide +kernel
theorem dX9_row_69 : decode cX9_row 69 = .ok (.aload_n 0, 1) := by decide +kernel
theorem dX9_row_70 : decode cX9_row 70 = .ok (.getfield 69, 3) := by decide +kernel
theorem dX9_row_73 : decode cX9_row 73 = .ok (.iload_n 1, 1) := by decide +kernel
theorem dX9_row_74 : decode cX9_row 74 = .ok (.iload_n 3, 1) := by decide +kernel
theorem dX9_row_75 : decode cX9_row 75 = .ok (.iastore, 1) := by decide +kernel
theorem dX9_row_76 : decode cX9_row 76 = .ok (.iconst 0, 1) := by decide +kernel
theorem dX9_row_77 : decode cX9_row 77 = .ok (.istore 4, 2) := by decide +kernel
theorem dX9_row_79 : decode cX9_row 79 = .ok (.iload 4, 2) := by decide +kernel
theorem dX9_row_81 : decode cX9_row 81 = .ok (.sipush 160, 3) := by decide +kernel
theorem dX9_row_84 : decode cX9_row 84 = .ok (.if_icmp .ge 23, 3) := by decide +kernel
theorem dX9_row_87 : decode cX9_row 87 = .ok (.aload_n 0, 1) := by decide +kernel
theorem dX9_row_88 : decode cX9_row 88 = .ok (.getfield 75, 3) := by decide +kernel
theorem dX9_row_91 : decode cX9_row 91 = .ok (.sipush 160, 3) := by decide +kernel
theorem dX9_row_94 : decode cX9_row 94 = .ok (.iload_n 1, 1) := by decide +kernel
theorem dX9_row_95 : decode cX9_row 95 = .ok (.imul, 1) := by decide +kernel
theorem dX9_row_96 : decode cX9_row 96 = .ok (.iload 4, 2) := by decide +kernel
theorem dX9_row_98 : decode cX9_row 98 = .ok (.iadd, 1) := by decide +kernel
theorem dX9_row_99 : decode cX9_row 99 = .ok (.lconst 0, 1) := by decide +kernel
theorem dX9_row_100 : decode cX9_row 100 = .ok (.lastore, 1) := by decide +kernel
theorem dX9_row_101 : decode cX9_row 101 = .ok (.iinc 4 1, 3) := by decide +kernel
theorem dX9_row_104 : decode cX9_row 104 = .ok (.goto (-25), 3) := by decide +kernel
theorem dX9_row_107 : decode cX9_row 107 = .ok (.iconst 1, 1) := by decide +kernel
theorem dX9_row_108 : decode cX9_row 108 = .ok (.ireturn, 1) := by decide +kernel
theorem dX9_set_0 : decode cX9_set 0 = .ok (.aload_n 0, 1) := by decide +kernel
theorem dX9_set_1 : decode cX9_set 1 = .ok (.iload_n 1, 1) := by decide +kernel
theorem dX9_set_2 : decode cX9_set 2 = .ok (.invokevirtual 118, 3) := by decide +kernel
theorem dX9_set_5 : decode cX9_set 5 = .ok (.ifCond .ne 9, 3) := by decide +kernel
theorem dX9_set_8 : decode cX9_set 8 = .ok (.aload_n 0, 1) := by decide +kernel
theorem dX9_set_9 : decode cX9_set 9 = .ok (.iconst (-1), 1) := by decide +kernel
theorem dX9_set_10 : decode cX9_set 10 = .ok (.invokevirtual 122, 3) := by decide +kernel
theorem dX9_set_13 : decode cX9_set 13 = .ok (.ireturn, 1) := by decide +kernel
theorem dX9_set_14 : decode cX9_set 14 = .ok (.aload_n 0, 1) := by decide +kernel
theorem dX9_set_15 : decode cX9_set 15 = .ok (.getfield 63, 3) := by decide +kernel
theorem dX9_set_18 : decode cX9_set 18 = .ok (.iload_n 1, 1) := by decide +kernel
theorem dX9_set_19 : decode cX9_set 19 = .ok (.iaload, 1) := by decide +kernel
theorem dX9_set_20 : decode cX9_set 20 = .ok (.iconst 2, 1) := by decide +kernel
theorem dX9_set_21 : decode cX9_set 21 = .ok (.if_icmp .ne 10, 3) := by decide +kernel
theorem dX9_set_24 : decode cX9_set 24 = .ok (.aload_n 0, 1) := by decide +kernel
theorem dX9_set_25 : decode cX9_set 25 = .ok (.bipush (-2), 2) := by decide +kernel
theorem dX9_set_27 : decode cX9_set 27 = .ok (.invokevirtual 122, 3) := by decide +kernel
theorem dX9_set_30 : decode cX9_set 30 = .ok (.ireturn, 1) := by decide +kernel
theorem dX9_set_31 : decode cX9_set 31 = .ok (.aload_n 0, 1) := by decide +kernel
theorem dX9_set_32 : decode cX9_set 32 = .ok (.getfield 63, 3) := by decide +kernel
theorem dX9_set_35 : decode cX9_set 35 = .ok (.iload_n 1, 1) := by decide +kernel
theorem dX9_set_36 : decode cX9_set 36 = .ok (.iaload, 1) := by decide +kernel
theorem dX9_set_37 : decode cX9_set 37 = .ok (.ifCond .ne 10, 3) := by decide +kernel
theorem dX9_set_40 : decode cX9_set 40 = .ok (.aload_n 0, 1) := by decide +kernel
theorem dX9_set_41 : decode cX9_set 41 = .ok (.bipush (-3), 2) := by decide +kernel
theorem dX9_set_43 : decode cX9_set 43 = .ok (.invokevirtual 122, 3) := by decide +kernel
theorem dX9_set_46 : decode cX9_set 46 = .ok (.ireturn, 1) := by decide +kernel
theorem dX9_set_47 : decode cX9_set 47 = .ok (.iload_n 2, 1) := by decide +kernel
theorem dX9_set_48 : decode cX9_set 48 = .ok (.ifCond .lt 13, 3) := by decide +kernel
theorem dX9_set_51 : decode cX9_set 51 = .ok (.iload_n 2, 1) := by decide +kernel
theorem dX9_set_52 : decode cX9_set 52 = .ok (.aload_n 0, 1) := by decide +kernel
theorem dX9_set_53 : decode cX9_set 53 = .ok (.getfield 69, 3) := by decide +kernel
theorem dX9_set_56 : decode cX9_set 56 = .ok (.iload_n 1, 1) := by decide +kernel
theorem dX9_set_57 : decode cX9_set 57 = .ok (.iaload, 1) := by decide +kernel
theorem dX9_set_58 : decode cX9_set 58 = .ok (.if_icmp .lt 10, 3) := by decide +kernel
theorem dX9_set_61 : decode cX9_set 61 = .ok (.aload_n 0, 1) := by decide +kernel
theorem dX9_set_62 : decode cX9_set 62 = .ok (.bipush (-5), 2) := by decide +kernel
theorem dX9_set_64 : decode cX9_set 64 = .ok (.invokevirtual 122, 3) := by decide +kernel
theorem dX9_set_67 : decode cX9_set 67 = .ok (.ireturn, 1) := by decide +kernel
theorem dX9_set_68 : decode cX9_set 68 = .ok (.aload_n 0, 1) := by decide +kernel
theorem dX9_set_69 : decode cX9_set 69 = .ok (.getfield 75, 3) := by decide +kernel
theorem dX9_set_72 : decode cX9_set 72 = .ok (.sipush 160, 3) := by decide +kernel
theorem dX9_set_75 : decode cX9_set 75 = .ok (.iload_n 1, 1) := by decide +kernel
theorem dX9_set_76 : decode cX9_set 76 = .ok (.imul, 1) := by decide +kernel
theorem dX9_set_77 : decode cX9_set 77 = .ok (.iload_n 2, 1) := by decide +kernel
theorem dX9_set_78 : decode cX9_set 78 = .ok (.iadd, 1) := by decide +kernel
theorem dX9_set_79 : decode cX9_set 79 = .ok (.aload_n 0, 1) := by decide +kernel
theorem dX9_set_80 : decode cX9_set 80 = .ok (.getfield 66, 3) := by decide +kernel
theorem dX9_set_83 : decode cX9_set 83 = .ok (.iload_n 1, 1) := by decide +kernel
theorem dX9_set_84 : decode cX9_set 84 = .ok (.iaload, 1) := by decide +kernel
theorem dX9_set_85 : decode cX9_set 85 = .ok (.ifCond .ne 10, 3) := by decide +kernel
theorem dX9_set_88 : decode cX9_set 88 = .ok (.lload_n 3, 1) := by decide +kernel
theorem dX9_set_89 : decode cX9_set 89 = .ok (.l2i, 1) := by decide +kernel
theorem dX9_set_90 : decode cX9_set 90 = .ok (.i2b, 1) := by decide +kernel
theorem dX9_set_91 : decode cX9_set 91 = .ok (.i2l, 1) := by decide +kernel
theorem dX9_set_92 : decode cX9_set 92 = .ok (.goto 37, 3) := by decide +kernel
theorem dX9_set_95 : decode cX9_set 95 = .ok (.aload_n 0, 1) := by decide +kernel
theorem dX9_set_96 : decode cX9_set 96 = .ok (.getfield 66, 3) := by decide +kernel
theorem dX9_set_99 : decode cX9_set 99 = .ok (.iload_n 1, 1) := by decide +kernel
theorem dX9_set_100 : decode cX9_set 100 = .ok (.iaload, 1) := by decide +kernel
theorem dX9_set_101 : decode cX9_set 101 = .ok (.iconst 1, 1) := by decide +kernel
theorem dX9_set_102 : decode cX9_set 102 = .ok (.if_icmp .ne 10, 3) := by decide +kernel
theorem dX9_set_105 : decode cX9_set 105 = .ok (.lload_n 3, 1) := by decide +kernel
theorem dX9_set_106 : decode cX9_set 106 = .ok (.l2i, 1) := by decide +kernel
theorem dX9_set_107 : decode cX9_set 107 = .ok (.i2s, 1) := by decide +kernel
theorem dX9_set_108 : decode cX9_set 108 = .ok (.i2l, 1) := by decide +kernel
theorem dX9_set_109 : decode cX9_set 109 = .ok (.goto 20, 3) := by decide +kernel
theorem dX9_set_112 : decode cX9_set 112 = .ok (.aload_n 0, 1) := by decide +kernel
theorem dX9_set_113 : decode cX9_set 113 = .ok (.getfield 66, 3) := by decide +kernel
theorem dX9_set_116 : decode cX9_set 116 = .ok (.iload_n 1, 1) := by decide +kernel
theorem dX9_set_117 : decode cX9_set 117 = .ok (.iaload, 1) := by decide +kernel
theorem dX9_set_118 : decode cX9_set 118 = .ok (.iconst 2, 1) := by decide +kernel
theorem dX9_set_119 : decode cX9_set 119 = .ok (.if_icmp .ne 9, 3) := by decide +kernel
theorem dX9_set_122 : decode cX9_set 122 = .ok (.lload_n 3, 1) := by decide +kernel
theorem dX9_set_123 : decode cX9_set 123 = .ok (.l2i, 1) := by decide +kernel
theorem dX9_set_124 : decode cX9_set 124 = .ok (.i2l, 1) := by decide +kernel
theorem dX9_set_125 : decode cX9_set 125 = .ok (.goto 4, 3) := by decide +kernel
theorem dX9_set_128 : decode cX9_set 128 = .ok (.lload_n 3, 1) := by decide +kernel
theorem dX9_set_129 : decode cX9_set 129 = .ok (.lastore, 1) := by decide +kernel
theorem dX9_set_130 : decode cX9_set 130 = .ok (.iconst 1, 1) := by decide +kernel
theorem dX9_set_131 : decode cX9_set 131 = .ok (.ireturn, 1) := by decide +kernel
theorem dX9_copy_0 : decode cX9_copy 0 = .ok (.aload_n 0, 1) := by decide +kernel
theorem dX9_copy_1 : decode cX9_copy 1 = .ok (.iload_n 1, 1) := by decide +kernel
theorem dX9_copy_2 : decode cX9_copy 2 = .ok (.invokevirtual 118, 3) := by decide +kernel
theorem dX9_copy_5 : decode cX9_copy 5 = .ok (.ifCond .eq 11, 3) := by decide +kernel
theorem dX9_copy_8 : decode cX9_copy 8 = .ok (.aload_n 0, 1) := by decide +kernel
theorem dX9_copy_9 : decode cX9_copy 9 = .ok (.iload_n 2, 1) := by decide +kernel
theorem dX9_copy_10 : decode cX9_copy 10 = .ok (.invokevirtual 118, 3) := by decide +kernel
theorem dX9_copy_13 : decode cX9_copy 13 = .ok (.ifCond .ne 9, 3) := by decide +kernel
theorem dX9_copy_16 : decode cX9_copy 16 = .ok (.aload_n 0, 1) := by decide +kernel
theorem dX9_copy_17 : decode cX9_copy 17 = .ok (.iconst (-1), 1) := by decide +kernel
theorem dX9_copy_18 : decode cX9_copy 18 = .ok (.invokevirtual 122, 3) := by decide +kernel
theorem dX9_copy_21 : decode cX9_copy 21 = .ok (.ireturn, 1) := by decide +kernel
theorem dX9_copy_22 : decode cX9_copy 22 = .ok (.aload_n 0, 1) := by decide +kernel
theorem dX9_copy_23 : decode cX9_copy 23 = .ok (.getfield 63, 3) := by decide +kernel
theorem dX9_copy_26 : decode cX9_copy 26 = .ok (.iload_n 1, 1) := by decide +kernel
theorem dX9_copy_27 : decode cX9_copy 27 = .ok (.iaload, 1) := by decide +kernel
theorem dX9_copy_28 : decode cX9_copy 28 = .ok (.iconst 2, 1) := by decide +kernel
theorem dX9_copy_29 : decode cX9_copy 29 = .ok (.if_icmp .eq 48, 3) := by decide +kernel
theorem dX9_copy_32 : decode cX9_copy 32 = .ok (.aload_n 0, 1) := by decide +kernel
theorem dX9_copy_33 : decode cX9_copy 33 = .ok (.getfield 63, 3) := by decide +kernel
theorem dX9_copy_36 : decode cX9_copy 36 = .ok (.iload_n 2, 1) := by decide +kernel
theorem dX9_copy_37 : decode cX9_copy 37 = .ok (.iaload, 1) := by decide +kernel
theorem dX9_copy_38 : decode cX9_copy 38 = .ok (.iconst 2, 1) := by decide +kernel
theorem dX9_copy_39 : decode cX9_copy 39 = .ok (.if_icmp .eq 38, 3) := by decide +kernel
theorem dX9_copy_42 : decode cX9_copy 42 = .ok (.aload_n 0, 1) := by decide +kernel
theorem dX9_copy_43 : decode cX9_copy 43 = .ok (.getfield 63, 3) := by decide +kernel
theorem dX9_copy_46 : decode cX9_copy 46 = .ok (.iload_n 1, 1) := by decide +kernel
theorem dX9_copy_47 : decode cX9_copy 47 = .ok (.iaload, 1) := by decide +kernel
theorem dX9_copy_48 : decode cX9_copy 48 = .ok (.iconst 1, 1) := by decide +kernel
theorem dX9_copy_49 : decode cX9_copy 49 = .ok (.if_icmp .ne 35, 3) := by decide +kernel
theorem dX9_copy_52 : decode cX9_copy 52 = .ok (.aload_n 0, 1) := by decide +kernel
theorem dX9_copy_53 : decode cX9_copy 53 = .ok (.getfield 63, 3) := by decide +kernel
theorem dX9_copy_56 : decode cX9_copy 56 = .ok (.iload_n 2, 1) := by decide +kernel
theorem dX9_copy_57 : decode cX9_copy 57 = .ok (.iaload, 1) := by decide +kernel
theorem dX9_copy_58 : decode cX9_copy 58 = .ok (.iconst 1, 1) := by decide +kernel
theorem dX9_copy_59 : decode cX9_copy 59 = .ok (.if_icmp .ne 25, 3) := by decide +kernel
theorem dX9_copy_62 : decode cX9_copy 62 = .ok (.aload_n 0, 1) := by decide +kernel
theorem dX9_copy_63 : decode cX9_copy 63 = .ok (.getfield 66, 3) := by decide +kernel
theorem dX9_copy_66 : decode cX9_copy 66 = .ok (.iload_n 1, 1) := by decide +kernel
theorem dX9_copy_67 : decode cX9_copy 67 = .ok (.iaload, 1) := by decide +kernel
theorem dX9_copy_68 : decode cX9_copy 68 = .ok (.aload_n 0, 1) := by decide +kernel
theorem dX9_copy_69 : decode cX9_copy 69 = .ok (.getfield 66, 3) := by decide +kernel
theorem dX9_copy_72 : decode cX9_copy 72 = .ok (.iload_n 2, 1) := by decide +kernel
theorem dX9_copy_73 : decode cX9_copy 73 = .ok (.iaload, 1) := by decide +kernel
theorem dX9_copy_74 : decode cX9_copy 74 = .ok (.if_icmp .eq 10, 3) := by decide +kernel
theorem dX9_copy_77 : decode cX9_copy 77 = .ok (.aload_n 0, 1) := by decide +kernel
theorem dX9_copy_78 : decode cX9_copy 78 = .ok (.bipush (-2), 2) := by decide +kernel
theorem dX9_copy_80 : decode cX9_copy 80 = .ok (.invokevirtual 122, 3) := by decide +kernel
theorem dX9_copy_83 : decode cX9_copy 83 = .ok (.ireturn, 1) := by decide +kernel
theorem dX9_copy_84 : decode cX9_copy 84 = .ok (.aload_n 0, 1) := by decide +kernel
theorem dX9_copy_85 : decode cX9_copy 85 = .ok (.getfield 63, 3) := by decide +kernel
theorem dX9_copy_88 : decode cX9_copy 88 = .ok (.iload_n 1, 1) := by decide +kernel
theorem dX9_copy_89 : decode cX9_copy 89 = .ok (.iaload, 1) := by decide +kernel
theorem dX9_copy_90 : decode cX9_copy 90 = .ok (.ifCond .eq 12, 3) := by decide +kernel
theorem dX9_copy_93 : decode cX9_copy 93 = .ok (.aload_n 0, 1) := by decide +kernel
theorem dX9_copy_94 : decode cX9_copy 94 = .ok (.getfield 63, 3) := by decide +kernel
theorem dX9_copy_97 : decode cX9_copy 97 = .ok (.iload_n 2, 1) := by decide +kernel
theorem dX9_copy_98 : decode cX9_copy 98 = .ok (.iaload, 1) := by decide +kernel
theorem dX9_copy_99 : decode cX9_copy 99 = .ok (.ifCond .ne 10, 3) := by decide +kernel
theorem dX9_copy_102 : decode cX9_copy 102 = .ok (.aload_n 0, 1) := by decide +kernel
theorem dX9_copy_103 : decode cX9_copy 103 = .ok (.bipush (-3), 2) := by decide +kernel
theorem dX9_copy_105 : decode cX9_copy 105 = .ok (.invokevirtual 122, 3) := by decide +kernel
theorem dX9_copy_108 : decode cX9_copy 108 = .ok (.ireturn, 1) := by decide +kernel
theorem dX9_copy_109 : decode cX9_copy 109 = .ok (.iload 5, 2) := by decide +kernel
theorem dX9_copy_111 : decode cX9_copy 111 = .ok (.ifCond .ge 10, 3) := by decide +kernel
theorem dX9_copy_114 : decode cX9_copy 114 = .ok (.aload_n 0, 1) := by decide +kernel
theorem dX9_copy_115 : decode cX9_copy 115 = .ok (.bipush (-4), 2) := by decide +kernel
theorem dX9_copy_117 : decode cX9_copy 117 = .ok (.invokevirtual 122, 3) := by decide +kernel
theorem dX9_copy_120 : decode cX9_copy 120 = .ok (.ireturn, 1) := by decide +kernel
theorem dX9_copy_121 : decode cX9_copy 121 = .ok (.iload_n 3, 1) := by decide +kernel
theorem dX9_copy_122 : decode cX9_copy 122 = .ok (.ifCond .lt 35, 3) := by decide +kernel
theorem dX9_copy_125 : decode cX9_copy 125 = .ok (.iload 4, 2) := by decide +kernel
theorem dX9_copy_127 : decode cX9_copy 127 = .ok (.ifCond .lt 30, 3) := by decide +kernel
theorem dX9_copy_130 : decode cX9_copy 130 = .ok (.iload_n 3, 1) := by decide +kernel
theorem dX9_copy_131 : decode cX9_copy 131 = .ok (.aload_n 0, 1) := by decide +kernel
theorem dX9_copy_132 : decode cX9_copy 132 = .ok (.getfield 69, 3) := by decide +kernel
theorem dX9_copy_135 : decode cX9_copy 135 = .ok (.iload_n 1, 1) := by decide +kernel
theorem dX9_copy_136 : decode cX9_copy 136 = .ok (.iaload, 1) := by decide +kernel
theorem dX9_copy_137 : decode cX9_copy 137 = .ok (.iload 5, 2) := by decide +kernel
theorem dX9_copy_139 : decode cX9_copy 139 = .ok (.isub, 1) := by decide +kernel
theorem dX9_copy_140 : decode cX9_copy 140 = .ok (.if_icmp .gt 17, 3) := by decide +kernel
theorem dX9_copy_143 : decode cX9_copy 143 = .ok (.iload 4, 2) := by decide +kernel
theorem dX9_copy_145 : decode cX9_copy 145 = .ok (.aload_n 0, 1) := by decide +kernel
theorem dX9_copy_146 : decode cX9_copy 146 = .ok (.getfield 69, 3) := by decide +kernel
theorem dX9_copy_149 : decode cX9_copy 149 = .ok (.iload_n 2, 1) := by decide +kernel
theorem dX9_copy_150 : decode cX9_copy 150 = .ok (.iaload, 1) := by decide +kernel
theorem dX9_copy_151 : decode cX9_copy 151 = .ok (.iload 5, 2) := by decide +kernel
theorem dX9_copy_153 : decode cX9_copy 153 = .ok (.isub, 1) := by decide +kernel
theorem dX9_copy_154 : decode cX9_copy 154 = .ok (.if_icmp .le 10, 3) := by decide +kernel
theorem dX9_copy_157 : decode cX9_copy 157 = .ok (.aload_n 0, 1) := by decide +kernel
theorem dX9_copy_158 : decode cX9_copy 158 = .ok (.bipush (-5), 2) := by decide +kernel
theorem dX9_copy_160 : decode cX9_copy 160 = .ok (.invokevirtual 122, 3) := by decide +kernel
theorem dX9_copy_163 : decode cX9_copy 163 = .ok (.ireturn, 1) := by decide +kernel
theorem dX9_copy_164 : decode cX9_copy 164 = .ok (.iconst 0, 1) := by decide +kernel
theorem dX9_copy_165 : decode cX9_copy 165 = .ok (.istore 6, 2) := by decide +kernel
theorem dX9_copy_167 : decode cX9_copy 167 = .ok (.iload 6, 2) := by decide +kernel
theorem dX9_copy_169 : decode cX9_copy 169 = .ok (.iload 5, 2) := by decide +kernel
theorem dX9_copy_171 : decode cX9_copy 171 = .ok (.if_icmp .ge 31, 3) := by decide +kernel
theorem dX9_copy_174 : decode cX9_copy 174 = .ok (.aload_n 0, 1) := by decide +kernel
theorem dX9_copy_175 : decode cX9_copy 175 = .ok (.getfield 78, 3) := by decide +kernel
theorem dX9_copy_178 : decode cX9_copy 178 = .ok (.iload 6, 2) := by decide +kernel
theorem dX9_copy_180 : decode cX9_copy 180 = .ok (.aload_n 0, 1) := by decide +kernel
theorem dX9_copy_181 : decode cX9_copy 181 = .ok (.getfield 75, 3) := by decide +kernel
theorem dX9_copy_184 : decode cX9_copy 184 = .ok (.sipush 160, 3) := by decide +kernel
theorem dX9_copy_187 : decode cX9_copy 187 = .ok (.iload_n 1, 1) := by decide +kernel
theorem dX9_copy_188 : decode cX9_copy 188 = .ok (.imul, 1) := by decide +kernel
theorem dX9_copy_189 : decode cX9_copy 189 = .ok (.iload_n 3, 1) := by decide +kernel
theorem dX9_copy_190 : decode cX9_copy 190 = .ok (.iadd, 1) := by decide +kernel
theorem dX9_copy_191 : decode cX9_copy 191 = .ok (.iload 6, 2) := by decide +kernel
theorem dX9_copy_193 : decode cX9_copy 193 = .ok (.iadd, 1) := by decide +kernel
theorem dX9_copy_194 : decode cX9_copy 194 = .ok (.laload, 1) := by decide +kernel
theorem dX9_copy_195 : decode cX9_copy 195 = .ok (.lastore, 1) := by decide +kernel
theorem dX9_copy_196 : decode cX9_copy 196 = .ok (.iinc 6 1, 3) := by decide +kernel
theorem dX9_copy_199 : decode cX9_copy 199 = .ok (.goto (-32), 3) := by decide +kernel
theorem dX9_copy_202 : decode cX9_copy 202 = .ok (.iconst 0, 1) := by decide +kernel
theorem dX9_copy_203 : decode cX9_copy 203 = .ok (.istore 6, 2) := by decide +kernel
theorem dX9_copy_205 : decode cX9_copy 205 = .ok (.iload 6, 2) := by decide +kernel
theorem dX9_copy_207 : decode cX9_copy 207 = .ok (.iload 5, 2) := by decide +kernel
theorem dX9_copy_209 : decode cX9_copy 209 = .ok (.if_icmp .ge 32, 3) := by decide +kernel
theorem dX9_copy_212 : decode cX9_copy 212 = .ok (.aload_n 0, 1) := by decide +kernel
theorem dX9_copy_213 : decode cX9_copy 213 = .ok (.getfield 75, 3) := by decide +kernel
theorem dX9_copy_216 : decode cX9_copy 216 = .ok (.sipush 160, 3) := by decide +kernel
theorem dX9_copy_219 : decode cX9_copy 219 = .ok (.iload_n 2, 1) := by decide +kernel
theorem dX9_copy_220 : decode cX9_copy 220 = .ok (.imul, 1) := by decide +kernel
theorem dX9_copy_221 : decode cX9_copy 221 = .ok (.iload 4, 2) := by decide +kernel
theorem dX9_copy_223 : decode cX9_copy 223 = .ok (.iadd, 1) := by decide +kernel
theorem dX9_copy_224 : decode cX9_copy 224 = .ok (.iload 6, 2) := by decide +kernel
theorem dX9_copy_226 : decode cX9_copy 226 = .ok (.iadd, 1) := by decide +kernel
theorem dX9_copy_227 : decode cX9_copy 227 = .ok (.aload_n 0, 1) := by decide +kernel
theorem dX9_copy_228 : decode cX9_copy 228 = .ok (.getfield 78, 3) := by decide +kernel
theorem dX9_copy_231 : decode cX9_copy 231 = .ok (.iload 6, 2) := by decide +kernel
theorem dX9_copy_233 : decode cX9_copy 233 = .ok (.laload, 1) := by decide +kernel
theorem dX9_copy_234 : decode cX9_copy 234 = .ok (.lastore, 1) := by decide +kernel
theorem dX9_copy_235 : decode cX9_copy 235 = .ok (.iinc 6 1, 3) := by decide +kernel
theorem dX9_copy_238 : decode cX9_copy 238 = .ok (.goto (-33), 3) := by decide +kernel
theorem dX9_copy_241 : decode cX9_copy 241 = .ok (.iconst 1, 1) := by decide +kernel
theorem dX9_copy_242 : decode cX9_copy 242 = .ok (.ireturn, 1) := by decide +kernel
theorem dX9_element_0 : decode cX9_element 0 = .ok (.aload_n 0, 1) := by decide +kernel
theorem dX9_element_1 : decode cX9_element 1 = .ok (.iload_n 1, 1) := by decide +kernel
theorem dX9_element_2 : decode cX9_element 2 = .ok (.invokevirtual 118, 3) := by decide +kernel
theorem dX9_element_5 : decode cX9_element 5 = .ok (.ifCond .eq 42, 3) := by decide +kernel
theorem dX9_element_8 : decode cX9_element 8 = .ok (.aload_n 0, 1) := by decide +kernel
theorem dX9_element_9 : decode cX9_element 9 = .ok (.getfield 63, 3) := by decide +kernel
theorem dX9_element_12 : decode cX9_element 12 = .ok (.iload_n 1, 1) := by decide +kernel
theorem dX9_element_13 : decode cX9_element 13 = .ok (.iaload, 1) := by decide +kernel
theorem dX9_element_14 : decode cX9_element 14 = .ok (.iconst 1, 1) := by decide +kernel
theorem dX9_element_15 : decode cX9_element 15 = .ok (.if_icmp .ne 32, 3) := by decide +kernel
theorem dX9_element_18 : decode cX9_element 18 = .ok (.iload_n 2, 1) := by decide +kernel
theorem dX9_element_19 : decode cX9_element 19 = .ok (.ifCond .lt 28, 3) := by decide +kernel
theorem dX9_element_22 : decode cX9_element 22 = .ok (.iload_n 2, 1) := by decide +kernel
theorem dX9_element_23 : decode cX9_element 23 = .ok (.aload_n 0, 1) := by decide +kernel
theorem dX9_element_24 : decode cX9_element 24 = .ok (.getfield 69, 3) := by decide +kernel
theorem dX9_element_27 : decode cX9_element 27 = .ok (.iload_n 1, 1) := by decide +kernel
theorem dX9_element_28 : decode cX9_element 28 = .ok (.iaload, 1) := by decide +kernel
theorem dX9_element_29 : decode cX9_element 29 = .ok (.if_icmp .ge 18, 3) := by decide +kernel
theorem dX9_element_32 : decode cX9_element 32 = .ok (.aload_n 0, 1) := by decide +kernel
theorem dX9_element_33 : decode cX9_element 33 = .ok (.getfield 75, 3) := by decide +kernel
theorem dX9_element_36 : decode cX9_element 36 = .ok (.sipush 160, 3) := by decide +kernel
theorem dX9_element_39 : decode cX9_element 39 = .ok (.iload_n 1, 1) := by decide +kernel
theorem dX9_element_40 : decode cX9_element 40 = .ok (.imul, 1) := by decide +kernel
theorem dX9_element_41 : decode cX9_element 41 = .ok (.iload_n 2, 1) := by decide +kernel
theorem dX9_element_42 : decode cX9_element 42 = .ok (.iadd, 1) := by decide +kernel
theorem dX9_element_43 : decode cX9_element 43 = .ok (.laload, 1) := by decide +kernel
theorem dX9_element_44 : decode cX9_element 44 = .ok (.goto 4, 3) := by decide +kernel
theorem dX9_element_47 : decode cX9_element 47 = .ok (.lconst 0, 1) := by decide +kernel
theorem dX9_element_48 : decode cX9_element 48 = .ok (.lreturn, 1) := by decide +kernel
theorem dX9_show_0 : decode cX9_show 0 = .ok (.aload_n 0, 1) := by decide +kernel
theorem dX9_show_1 : decode cX9_show 1 = .ok (.iload_n 1, 1) := by decide +kernel
theorem dX9_show_2 : decode cX9_show 2 = .ok (.invokevirtual 118, 3) := by decide +kernel
theorem dX9_show_5 : decode cX9_show 5 = .ok (.ifCond .eq 16, 3) := by decide +kernel
theorem dX9_show_8 : decode cX9_show 8 = .ok (.iload_n 2, 1) := by decide +kernel
theorem dX9_show_9 : decode cX9_show 9 = .ok (.iconst (-1), 1) := by decide +kernel
theorem dX9_show_10 : decode cX9_show 10 = .ok (.if_icmp .eq 17, 3) := by decide +kernel
theorem dX9_show_13 : decode cX9_show 13 = .ok (.aload_n 0, 1) := by decide +kernel
theorem dX9_show_14 : decode cX9_show 14 = .ok (.iload_n 2, 1) := by decide +kernel
theorem dX9_show_15 : decode cX9_show 15 = .ok (.invokevirtual 126, 3) := by decide +kernel
theorem dX9_show_18 : decode cX9_show 18 = .ok (.ifCond .ne 9, 3) := by decide +kernel
theorem dX9_show_21 : decode cX9_show 21 = .ok (.aload_n 0, 1) := by decide +kernel
theorem dX9_show_22 : decode cX9_show 22 = .ok (.iconst (-1), 1) := by decide +kernel
theorem dX9_show_23 : decode cX9_show 23 = .ok (.invokevirtual 122, 3) := by decide +kernel
theorem dX9_show_26 : decode cX9_show 26 = .ok (.ireturn, 1) := by decide +kernel
theorem dX9_show_27 : decode cX9_show 27 = .ok (.aload_n 0, 1) := by decide +kernel
theorem dX9_show_28 : decode cX9_show 28 = .ok (.getfield 63, 3) := by decide +kernel
theorem dX9_show_31 : decode cX9_show 31 = .ok (.iload_n 1, 1) := by decide +kernel
theorem dX9_show_32 : decode cX9_show 32 = .ok (.iload_n 2, 1) := by decide +kernel
theorem dX9_show_33 : decode cX9_show 33 = .ok (.iconst (-1), 1) := by decide +kernel
theorem dX9_show_34 : decode cX9_show 34 = .ok (.if_icmp .ne 7, 3) := by decide +kernel
theorem dX9_show_37 : decode cX9_show 37 = .ok (.iconst 0, 1) := by decide +kernel
theorem dX9_show_38 : decode cX9_show 38 = .ok (.goto 4, 3) := by decide +kernel
theorem dX9_show_41 : decode cX9_show 41 = .ok (.iconst 2, 1) := by decide +kernel
theorem dX9_show_42 : decode cX9_show 42 = .ok (.iastore, 1) := by decide +kernel
theorem dX9_show_43 : decode cX9_show 43 = .ok (.aload_n 0, 1) := by decide +kernel
theorem dX9_show_44 : decode cX9_show 44 = .ok (.getfield 72, 3) := by decide +kernel
theorem dX9_show_47 : decode cX9_show 47 = .ok (.iload_n 1, 1) := by decide +kernel
theorem dX9_show_48 : decode cX9_show 48 = .ok (.iload_n 2, 1) := by decide +kernel
theorem dX9_show_49 : decode cX9_show 49 = .ok (.iastore, 1) := by decide +kernel
theorem dX9_show_50 : decode cX9_show 50 = .ok (.iload_n 2, 1) := by decide +kernel
theorem dX9_show_51 : decode cX9_show 51 = .ok (.iconst (-1), 1) := by decide +kernel
theorem dX9_show_52 : decode cX9_show 52 = .ok (.if_icmp .ne 7, 3) := by decide +kernel
theorem dX9_show_55 : decode cX9_show 55 = .ok (.iconst 0, 1) := by decide +kernel
theorem dX9_show_56 : decode cX9_show 56 = .ok (.goto 4, 3) := by decide +kernel
theorem dX9_show_59 : decode cX9_show 59 = .ok (.iconst 1, 1) := by decide +kernel
theorem dX9_show_60 : decode cX9_show 60 = .ok (.ireturn, 1) := by decide +kernel
theorem dX9_holds_0 : decode cX9_holds 0 = .ok (.aload_n 0, 1) := by decide +kernel
theorem dX9_holds_1 : decode cX9_holds 1 = .ok (.iload_n 1, 1) := by decide +kernel
theorem dX9_holds_2 : decode cX9_holds 2 = .ok (.invokevirtual 118, 3) := by decide +kernel
theorem dX9_holds_5 : decode cX9_holds 5 = .ok (.ifCond .eq 12, 3) := by decide +kernel
theorem dX9_holds_8 : decode cX9_holds 8 = .ok (.aload_n 0, 1) := by decide +kernel
theorem dX9_holds_9 : decode cX9_holds 9 = .ok (.getfield 63, 3) := by decide +kernel
theorem dX9_holds_12 : decode cX9_holds 12 = .ok (.iload_n 1, 1) := by decide +kernel
theorem dX9_holds_13 : decode cX9_holds 13 = .ok (.iaload, 1) := by decide +kernel
theorem dX9_holds_14 : decode cX9_holds 14 = .ok (.ifCond .ne 5, 3) := by decide +kernel
theorem dX9_holds_17 : decode cX9_holds 17 = .ok (.iconst (-1), 1) := by decide +kernel
theorem dX9_holds_18 : decode cX9_holds 18 = .ok (.ireturn, 1) := by decide +kernel
theorem dX9_holds_19 : decode cX9_holds 19 = .ok (.aload_n 0, 1) := by decide +kernel
theorem dX9_holds_20 : decode cX9_holds 20 = .ok (.getfield 63, 3) := by decide +kernel
theorem dX9_holds_23 : decode cX9_holds 23 = .ok (.iload_n 1, 1) := by decide +kernel
theorem dX9_holds_24 : decode cX9_holds 24 = .ok (.iaload, 1) := by decide +kernel
theorem dX9_holds_25 : decode cX9_holds 25 = .ok (.iconst 1, 1) := by decide +kernel
theorem dX9_holds_26 : decode cX9_holds 26 = .ok (.if_icmp .ne 15, 3) := by decide +kernel
theorem dX9_holds_29 : decode cX9_holds 29 = .ok (.bipush 100, 2) := by decide +kernel
theorem dX9_holds_31 : decode cX9_holds 31 = .ok (.aload_n 0, 1) := by decide +kernel
theorem dX9_holds_32 : decode cX9_holds 32 = .ok (.getfield 66, 3) := by decide +kernel
theorem dX9_holds_35 : decode cX9_holds 35 = .ok (.iload_n 1, 1) := by decide +kernel
theorem dX9_holds_36 : decode cX9_holds 36 = .ok (.iaload, 1) := by decide +kernel
theorem dX9_holds_37 : decode cX9_holds 37 = .ok (.iadd, 1) := by decide +kernel
theorem dX9_holds_38 : decode cX9_holds 38 = .ok (.goto 9, 3) := by decide +kernel
theorem dX9_holds_41 : decode cX9_holds 41 = .ok (.aload_n 0, 1) := by decide +kernel
theorem dX9_holds_42 : decode cX9_holds 42 = .ok (.getfield 72, 3) := by decide +kernel
theorem dX9_holds_45 : decode cX9_holds 45 = .ok (.iload_n 1, 1) := by decide +kernel
theorem dX9_holds_46 : decode cX9_holds 46 = .ok (.iaload, 1) := by decide +kernel
theorem dX9_holds_47 : decode cX9_holds 47 = .ok (.ireturn, 1) := by decide +kernel
theorem dX9_says_0 : decode cX9_says 0 = .ok (.aload_n 0, 1) := by decide +kernel
theorem dX9_says_1 : decode cX9_says 1 = .ok (.iload_n 1, 1) := by decide +kernel
theorem dX9_says_2 : decode cX9_says 2 = .ok (.invokevirtual 118, 3) := by decide +kernel
theorem dX9_says_5 : decode cX9_says 5 = .ok (.ifCond .eq 13, 3) := by decide +kernel
theorem dX9_says_8 : decode cX9_says 8 = .ok (.iload_n 2, 1) := by decide +kernel
theorem dX9_says_9 : decode cX9_says 9 = .ok (.ifCond .lt 9, 3) := by decide +kernel
theorem dX9_says_12 : decode cX9_says 12 = .ok (.iload_n 2, 1) := by decide +kernel
theorem dX9_says_13 : decode cX9_says 13 = .ok (.bipush 6, 2) := by decide +kernel
theorem dX9_says_15 : decode cX9_says 15 = .ok (.if_icmp .le 9, 3) := by decide +kernel
theorem dX9_says_18 : decode cX9_says 18 = .ok (.aload_n 0, 1) := by decide +kernel
theorem dX9_says_19 : decode cX9_says 19 = .ok (.iconst (-1), 1) := by decide +kernel
theorem dX9_says_20 : decode cX9_says 20 = .ok (.invokevirtual 122, 3) := by decide +kernel
theorem dX9_says_23 : decode cX9_says 23 = .ok (.ireturn, 1) := by decide +kernel
theorem dX9_says_24 : decode cX9_says 24 = .ok (.aload_n 0, 1) := by decide +kernel
theorem dX9_says_25 : decode cX9_says 25 = .ok (.getfield 63, 3) := by decide +kernel
theorem dX9_says_28 : decode cX9_says 28 = .ok (.iload_n 1, 1) := by decide +kernel
theorem dX9_says_29 : decode cX9_says 29 = .ok (.iaload, 1) := by decide +kernel
theorem dX9_says_30 : decode cX9_says 30 = .ok (.iconst 1, 1) := by decide +kernel
theorem dX9_says_31 : decode cX9_says 31 = .ok (.if_icmp .ne 10, 3) := by decide +kernel
theorem dX9_says_34 : decode cX9_says 34 = .ok (.aload_n 0, 1) := by decide +kernel
theorem dX9_says_35 : decode cX9_says 35 = .ok (.bipush (-2), 2) := by decide +kernel
theorem dX9_says_37 : decode cX9_says 37 = .ok (.invokevirtual 122, 3) := by decide +kernel
theorem dX9_says_40 : decode cX9_says 40 = .ok (.ireturn, 1) := by decide +kernel
theorem dX9_says_41 : decode cX9_says 41 = .ok (.aload_n 0, 1) := by decide +kernel
theorem dX9_says_42 : decode cX9_says 42 = .ok (.getfield 63, 3) := by decide +kernel
theorem dX9_says_45 : decode cX9_says 45 = .ok (.iload_n 1, 1) := by decide +kernel
theorem dX9_says_46 : decode cX9_says 46 = .ok (.iaload, 1) := by decide +kernel
theorem dX9_says_47 : decode cX9_says 47 = .ok (.ifCond .ne 10, 3) := by decide +kernel
theorem dX9_says_50 : decode cX9_says 50 = .ok (.aload_n 0, 1) := by decide +kernel
theorem dX9_says_51 : decode cX9_says 51 = .ok (.bipush (-3), 2) := by decide +kernel
theorem dX9_says_53 : decode cX9_says 53 = .ok (.invokevirtual 122, 3) := by decide +kernel
theorem dX9_says_56 : decode cX9_says 56 = .ok (.ireturn, 1) := by decide +kernel
theorem dX9_says_57 : decode cX9_says 57 = .ok (.aload_n 0, 1) := by decide +kernel
theorem dX9_says_58 : decode cX9_says 58 = .ok (.getfield 72, 3) := by decide +kernel
theorem dX9_says_61 : decode cX9_says 61 = .ok (.iload_n 1, 1) := by decide +kernel
theorem dX9_says_62 : decode cX9_says 62 = .ok (.iaload, 1) := by decide +kernel
theorem dX9_says_63 : decode cX9_says 63 = .ok (.istore_n 3, 1) := by decide +kernel
theorem dX9_says_64 : decode cX9_says 64 = .ok (.aload_n 0, 1) := by decide +kernel
theorem dX9_says_65 : decode cX9_says 65 = .ok (.getfield 35, 3) := by decide +kernel
theorem dX9_says_68 : decode cX9_says 68 = .ok (.iload_n 3, 1) := by decide +kernel
theorem dX9_says_69 : decode cX9_says 69 = .ok (.iaload, 1) := by decide +kernel
theorem dX9_says_70 : decode cX9_says 70 = .ok (.istore 4, 2) := by decide +kernel
theorem dX9_says_72 : decode cX9_says 72 = .ok (.iload_n 2, 1) := by decide +kernel
theorem dX9_says_73 : decode cX9_says 73 = .ok (.ifCond .eq 45, 3) := by decide +kernel
theorem dX9_says_76 : decode cX9_says 76 = .ok (.iload_n 2, 1) := by decide +kernel
theorem dX9_says_77 : decode cX9_says 77 = .ok (.iload 4, 2) := by decide +kernel
theorem dX9_says_79 : decode cX9_says 79 = .ok (.if_icmp .eq 39, 3) := by decide +kernel
theorem dX9_says_82 : decode cX9_says 82 = .ok (.iload_n 2, 1) := by decide +kernel
theorem dX9_says_83 : decode cX9_says 83 = .ok (.iconst 1, 1) := by decide +kernel
theorem dX9_says_84 : decode cX9_says 84 = .ok (.if_icmp .ne 16, 3) := by decide +kernel
theorem dX9_says_87 : decode cX9_says 87 = .ok (.iload 4, 2) := by decide +kernel
theorem dX9_says_89 : decode cX9_says 89 = .ok (.iconst 4, 1) := by decide +kernel
theorem dX9_says_90 : decode cX9_says 90 = .ok (.if_icmp .eq 28, 3) := by decide +kernel
theorem dX9_says_93 : decode cX9_says 93 = .ok (.iload 4, 2) := by decide +kernel
theorem dX9_says_95 : decode cX9_says 95 = .ok (.bipush 6, 2) := by decide +kernel
theorem dX9_says_97 : decode cX9_says 97 = .ok (.if_icmp .eq 21, 3) := by decide +kernel
theorem dX9_says_100 : decode cX9_says 100 = .ok (.iload_n 2, 1) := by decide +kernel
theorem dX9_says_101 : decode cX9_says 101 = .ok (.iconst 2, 1) := by decide +kernel
theorem dX9_says_102 : decode cX9_says 102 = .ok (.if_icmp .ne 9, 3) := by decide +kernel
theorem dX9_says_105 : decode cX9_says 105 = .ok (.iload 4, 2) := by decide +kernel
theorem dX9_says_107 : decode cX9_says 107 = .ok (.iconst 3, 1) := by decide +kernel
theorem dX9_says_108 : decode cX9_says 108 = .ok (.if_icmp .eq 10, 3) := by decide +kernel
theorem dX9_says_111 : decode cX9_says 111 = .ok (.aload_n 0, 1) := by decide +kernel
theorem dX9_says_112 : decode cX9_says 112 = .ok (.bipush (-2), 2) := by decide +kernel
theorem dX9_says_114 : decode cX9_says 114 = .ok (.invokevirtual 122, 3) := by decide +kernel
theorem dX9_says_117 : decode cX9_says 117 = .ok (.ireturn, 1) := by decide +kernel
theorem dX9_says_118 : decode cX9_says 118 = .ok (.iload_n 2, 1) := by decide +kernel
theorem dX9_says_119 : decode cX9_says 119 = .ok (.tableswitch 136 0 6 #[41, 136, 48, 57, 136, 95, 124], 41) := by decide +kernel
theorem dX9_says_160 : decode cX9_says 160 = .ok (.aload_n 0, 1) := by decide +kernel
theorem dX9_says_161 : decode cX9_says 161 = .ok (.getfield 41, 3) := by decide +kernel
theorem dX9_says_164 : decode cX9_says 164 = .ok (.iload_n 3, 1) := by decide +kernel
theorem dX9_says_165 : decode cX9_says 165 = .ok (.iaload, 1) := by decide +kernel
theorem dX9_says_166 : decode cX9_says 166 = .ok (.ireturn, 1) := by decide +kernel
theorem dX9_says_167 : decode cX9_says 167 = .ok (.aload_n 0, 1) := by decide +kernel
theorem dX9_says_168 : decode cX9_says 168 = .ok (.getfield 41, 3) := by decide +kernel
theorem dX9_says_171 : decode cX9_says 171 = .ok (.iload_n 3, 1) := by decide +kernel
theorem dX9_says_172 : decode cX9_says 172 = .ok (.iaload, 1) := by decide +kernel
theorem dX9_says_173 : decode cX9_says 173 = .ok (.iconst 2, 1) := by decide +kernel
theorem dX9_says_174 : decode cX9_says 174 = .ok (.idiv, 1) := by decide +kernel
theorem dX9_says_175 : decode cX9_says 175 = .ok (.ireturn, 1) := by decide +kernel
theorem dX9_says_176 : decode cX9_says 176 = .ok (.iconst 0, 1) := by decide +kernel
theorem dX9_says_177 : decode cX9_says 177 = .ok (.istore 5, 2) := by decide +kernel
theorem dX9_says_179 : decode cX9_says 179 = .ok (.iconst 0, 1) := by decide +kernel
theorem dX9_says_180 : decode cX9_says 180 = .ok (.istore 6, 2) := by decide +kernel
theorem dX9_says_182 : decode cX9_says 182 = .ok (.iload 6, 2) := by decide +kernel
theorem dX9_says_184 : decode cX9_says 184 = .ok (.bipush 8, 2) := by decide +kernel
theorem dX9_says_186 : decode cX9_says 186 = .ok (.if_icmp .ge 25, 3) := by decide +kernel
theorem dX9_says_189 : decode cX9_says 189 = .ok (.iload 5, 2) := by decide +kernel
theorem dX9_says_191 : decode cX9_says 191 = .ok (.aload_n 0, 1) := by decide +kernel
theorem dX9_says_192 : decode cX9_says 192 = .ok (.getfield 44, 3) := by decide +kernel
theorem dX9_says_195 : decode cX9_says 195 = .ok (.iload_n 3, 1) := by decide +kernel
theorem dX9_says_196 : decode cX9_says 196 = .ok (.iaload, 1) := by decide +kernel
theorem dX9_says_197 : decode cX9_says 197 = .ok (.iload 6, 2) := by decide +kernel
theorem dX9_says_199 : decode cX9_says 199 = .ok (.ishr, 1) := by decide +kernel
theorem dX9_says_200 : decode cX9_says 200 = .ok (.iconst 1, 1) := by decide +kernel
theorem dX9_says_201 : decode cX9_says 201 = .ok (.iand, 1) := by decide +kernel
theorem dX9_says_202 : decode cX9_says 202 = .ok (.iadd, 1) := by decide +kernel
theorem dX9_says_203 : decode cX9_says 203 = .ok (.istore 5, 2) := by decide +kernel
theorem dX9_says_205 : decode cX9_says 205 = .ok (.iinc 6 1, 3) := by decide +kernel
theorem dX9_says_208 : decode cX9_says 208 = .ok (.goto (-26), 3) := by decide +kernel
theorem dX9_says_211 : decode cX9_says 211 = .ok (.iload 5, 2) := by decide +kernel
theorem dX9_says_213 : decode cX9_says 213 = .ok (.ireturn, 1) := by decide +kernel
theorem dX9_says_214 : decode cX9_says 214 = .ok (.aload_n 0, 1) := by decide +kernel
theorem dX9_says_215 : decode cX9_says 215 = .ok (.getfield 44, 3) := by decide +kernel
theorem dX9_says_218 : decode cX9_says 218 = .ok (.iload_n 3, 1) := by decide +kernel
theorem dX9_says_219 : decode cX9_says 219 = .ok (.iaload, 1) := by decide +kernel
theorem dX9_says_220 : decode cX9_says 220 = .ok (.aload_n 0, 1) := by decide +kernel
theorem dX9_says_221 : decode cX9_says 221 = .ok (.getfield 129, 3) := by decide +kernel
theorem dX9_says_224 : decode cX9_says 224 = .ok (.if_icmp .le 17, 3) := by decide +kernel
theorem dX9_says_227 : decode cX9_says 227 = .ok (.aload_n 0, 1) := by decide +kernel
theorem dX9_says_228 : decode cX9_says 228 = .ok (.getfield 44, 3) := by decide +kernel
theorem dX9_says_231 : decode cX9_says 231 = .ok (.iload_n 3, 1) := by decide +kernel
theorem dX9_says_232 : decode cX9_says 232 = .ok (.iaload, 1) := by decide +kernel
theorem dX9_says_233 : decode cX9_says 233 = .ok (.aload_n 0, 1) := by decide +kernel
theorem dX9_says_234 : decode cX9_says 234 = .ok (.getfield 129, 3) := by decide +kernel
theorem dX9_says_237 : decode cX9_says 237 = .ok (.isub, 1) := by decide +kernel
theorem dX9_says_238 : decode cX9_says 238 = .ok (.goto 4, 3) := by decide +kernel
theorem dX9_says_241 : decode cX9_says 241 = .ok (.iconst 0, 1) := by decide +kernel
theorem dX9_says_242 : decode cX9_says 242 = .ok (.ireturn, 1) := by decide +kernel
theorem dX9_says_243 : decode cX9_says 243 = .ok (.aload_n 0, 1) := by decide +kernel
theorem dX9_says_244 : decode cX9_says 244 = .ok (.getfield 44, 3) := by decide +kernel
theorem dX9_says_247 : decode cX9_says 247 = .ok (.iload_n 3, 1) := by decide +kernel
theorem dX9_says_248 : decode cX9_says 248 = .ok (.iaload, 1) := by decide +kernel
theorem dX9_says_249 : decode cX9_says 249 = .ok (.aload_n 0, 1) := by decide +kernel
theorem dX9_says_250 : decode cX9_says 250 = .ok (.getfield 7, 3) := by decide +kernel
theorem dX9_says_253 : decode cX9_says 253 = .ok (.irem, 1) := by decide +kernel
theorem dX9_says_254 : decode cX9_says 254 = .ok (.ireturn, 1) := by decide +kernel
theorem dX9_says_255 : decode cX9_says 255 = .ok (.aload_n 0, 1) := by decide +kernel
theorem dX9_says_256 : decode cX9_says 256 = .ok (.iload_n 3, 1) := by decide +kernel
theorem dX9_says_257 : decode cX9_says 257 = .ok (.aload_n 0, 1) := by decide +kernel
theorem dX9_says_258 : decode cX9_says 258 = .ok (.getfield 38, 3) := by decide +kernel
theorem dX9_says_261 : decode cX9_says 261 = .ok (.iload_n 3, 1) := by decide +kernel
theorem dX9_says_262 : decode cX9_says 262 = .ok (.iaload, 1) := by decide +kernel
theorem dX9_says_263 : decode cX9_says 263 = .ok (.invokevirtual 132, 3) := by decide +kernel
theorem dX9_says_266 : decode cX9_says 266 = .ok (.ireturn, 1) := by decide +kernel
theorem dX9_wants_0 : decode cX9_wants 0 = .ok (.aload_n 0, 1) := by decide +kernel
theorem dX9_wants_1 : decode cX9_wants 1 = .ok (.iload_n 1, 1) := by decide +kernel
theorem dX9_wants_2 : decode cX9_wants 2 = .ok (.invokevirtual 118, 3) := by decide +kernel
theorem dX9_wants_5 : decode cX9_wants 5 = .ok (.ifCond .ne 7, 3) := by decide +kernel
theorem dX9_wants_8 : decode cX9_wants 8 = .ok (.iconst (-1), 1) := by decide +kernel
theorem dX9_wants_9 : decode cX9_wants 9 = .ok (.goto 33, 3) := by decide +kernel
theorem dX9_wants_12 : decode cX9_wants 12 = .ok (.aload_n 0, 1) := by decide +kernel
theorem dX9_wants_13 : decode cX9_wants 13 = .ok (.getfield 63, 3) := by decide +kernel
theorem dX9_wants_16 : decode cX9_wants 16 = .ok (.iload_n 1, 1) := by decide +kernel
theorem dX9_wants_17 : decode cX9_wants 17 = .ok (.iaload, 1) := by decide +kernel
theorem dX9_wants_18 : decode cX9_wants 18 = .ok (.iconst 2, 1) := by decide +kernel
theorem dX9_wants_19 : decode cX9_wants 19 = .ok (.if_icmp .ne 8, 3) := by decide +kernel
theorem dX9_wants_22 : decode cX9_wants 22 = .ok (.bipush (-2), 2) := by decide +kernel
theorem dX9_wants_24 : decode cX9_wants 24 = .ok (.goto 18, 3) := by decide +kernel
theorem dX9_wants_27 : decode cX9_wants 27 = .ok (.aload_n 0, 1) := by decide +kernel
theorem dX9_wants_28 : decode cX9_wants 28 = .ok (.getfield 63, 3) := by decide +kernel
theorem dX9_wants_31 : decode cX9_wants 31 = .ok (.iload_n 1, 1) := by decide +kernel
theorem dX9_wants_32 : decode cX9_wants 32 = .ok (.iaload, 1) := by decide +kernel
theorem dX9_wants_33 : decode cX9_wants 33 = .ok (.ifCond .ne 8, 3) := by decide +kernel
theorem dX9_wants_36 : decode cX9_wants 36 = .ok (.bipush (-3), 2) := by decide +kernel
theorem dX9_wants_38 : decode cX9_wants 38 = .ok (.goto 4, 3) := by decide +kernel
theorem dX9_wants_41 : decode cX9_wants 41 = .ok (.iconst 0, 1) := by decide +kernel
theorem dX9_wants_42 : decode cX9_wants 42 = .ok (.ireturn, 1) := by decide +kernel
theorem dX9_intAt_0 : decode cX9_intAt 0 = .ok (.aload_n 0, 1) := by decide +kernel
theorem dX9_intAt_1 : decode cX9_intAt 1 = .ok (.getfield 75, 3) := by decide +kernel
theorem dX9_intAt_4 : decode cX9_intAt 4 = .ok (.sipush 160, 3) := by decide +kernel
theorem dX9_intAt_7 : decode cX9_intAt 7 = .ok (.iload_n 1, 1) := by decide +kernel
theorem dX9_intAt_8 : decode cX9_intAt 8 = .ok (.imul, 1) := by decide +kernel
theorem dX9_intAt_9 : decode cX9_intAt 9 = .ok (.iload_n 2, 1) := by decide +kernel
theorem dX9_intAt_10 : decode cX9_intAt 10 = .ok (.iadd, 1) := by decide +kernel
theorem dX9_intAt_11 : decode cX9_intAt 11 = .ok (.laload, 1) := by decide +kernel
theorem dX9_intAt_12 : decode cX9_intAt 12 = .ok (.l2i, 1) := by decide +kernel
theorem dX9_intAt_13 : decode cX9_intAt 13 = .ok (.ireturn, 1) := by decide +kernel
theorem dX9_knows_0 : decode cX9_knows 0 = .ok (.iconst 0, 1) := by decide +kernel
theorem dX9_knows_1 : decode cX9_knows 1 = .ok (.istore_n 2, 1) := by decide +kernel
theorem dX9_knows_2 : decode cX9_knows 2 = .ok (.iload_n 2, 1) := by decide +kernel
theorem dX9_knows_3 : decode cX9_knows 3 = .ok (.bipush 24, 2) := by decide +kernel
theorem dX9_knows_5 : decode cX9_knows 5 = .ok (.if_icmp .ge 42, 3) := by decide +kernel
theorem dX9_knows_8 : decode cX9_knows 8 = .ok (.aload_n 0, 1) := by decide +kernel
theorem dX9_knows_9 : decode cX9_knows 9 = .ok (.getfield 56, 3) := by decide +kernel
theorem dX9_knows_12 : decode cX9_knows 12 = .ok (.iload_n 2, 1) := by decide +kernel
theorem dX9_knows_13 : decode cX9_knows 13 = .ok (.iload_n 2, 1) := by decide +kernel
theorem dX9_knows_14 : decode cX9_knows 14 = .ok (.aload_n 0, 1) := by decide +kernel
theorem dX9_knows_15 : decode cX9_knows 15 = .ok (.getfield 7, 3) := by decide +kernel
theorem dX9_knows_18 : decode cX9_knows 18 = .ok (.if_icmp .lt 7, 3) := by decide +kernel
theorem dX9_knows_21 : decode cX9_knows 21 = .ok (.lconst 0, 1) := by decide +kernel
theorem dX9_knows_22 : decode cX9_knows 22 = .ok (.goto 18, 3) := by decide +kernel
theorem dX9_knows_25 : decode cX9_knows 25 = .ok (.iload_n 1, 1) := by decide +kernel
theorem dX9_knows_26 : decode cX9_knows 26 = .ok (.iconst (-1), 1) := by decide +kernel
theorem dX9_knows_27 : decode cX9_knows 27 = .ok (.if_icmp .eq 8, 3) := by decide +kernel
theorem dX9_knows_30 : decode cX9_knows 30 = .ok (.iload_n 1, 1) := by decide +kernel
theorem dX9_knows_31 : decode cX9_knows 31 = .ok (.iload_n 2, 1) := by decide +kernel
theorem dX9_knows_32 : decode cX9_knows 32 = .ok (.if_icmp .ne 7, 3) := by decide +kernel
theorem dX9_knows_35 : decode cX9_knows 35 = .ok (.lconst 1, 1) := by decide +kernel
theorem dX9_knows_36 : decode cX9_knows 36 = .ok (.goto 4, 3) := by decide +kernel
theorem dX9_knows_39 : decode cX9_knows 39 = .ok (.lconst 0, 1) := by decide +kernel
theorem dX9_knows_40 : decode cX9_knows 40 = .ok (.lastore, 1) := by decide +kernel
theorem dX9_knows_41 : decode cX9_knows 41 = .ok (.iinc 2 1, 3) := by decide +kernel
theorem dX9_knows_44 : decode cX9_knows 44 = .ok (.goto (-42), 3) := by decide +kernel
theorem dX9_knows_47 : decode cX9_knows 47 = .ok (.aload_n 0, 1) := by decide +kernel
theorem dX9_knows_48 : decode cX9_knows 48 = .ok (.iconst 0, 1) := by decide +kernel
theorem dX9_knows_49 : decode cX9_knows 49 = .ok (.putfield 136, 3) := by decide +kernel
theorem dX9_knows_52 : decode cX9_knows 52 = .ok (.aload_n 0, 1) := by decide +kernel
theorem dX9_knows_53 : decode cX9_knows 53 = .ok (.iconst 0, 1) := by decide +kernel
theorem dX9_knows_54 : decode cX9_knows 54 = .ok (.putfield 129, 3) := by decide +kernel
theorem dX9_knows_57 : decode cX9_knows 57 = .ok (.return_, 1) := by decide +kernel
theorem dX9_empties_0 : decode cX9_empties 0 = .ok (.iconst 0, 1) := by decide +kernel
theorem dX9_empties_1 : decode cX9_empties 1 = .ok (.istore_n 1, 1) := by decide +kernel
theorem dX9_empties_2 : decode cX9_empties 2 = .ok (.iload_n 1, 1) := by decide +kernel
theorem dX9_empties_3 : decode cX9_empties 3 = .ok (.bipush 8, 2) := by decide +kernel
theorem dX9_empties_5 : decode cX9_empties 5 = .ok (.if_icmp .ge 26, 3) := by decide +kernel
theorem dX9_empties_8 : decode cX9_empties 8 = .ok (.aload_n 0, 1) := by decide +kernel
theorem dX9_empties_9 : decode cX9_empties 9 = .ok (.getfield 63, 3) := by decide +kernel
theorem dX9_empties_12 : decode cX9_empties 12 = .ok (.iload_n 1, 1) := by decide +kernel
theorem dX9_empties_13 : decode cX9_empties 13 = .ok (.iaload, 1) := by decide +kernel
theorem dX9_empties_14 : decode cX9_empties 14 = .ok (.iconst 2, 1) := by decide +kernel
theorem dX9_empties_15 : decode cX9_empties 15 = .ok (.if_icmp .ne 10, 3) := by decide +kernel
theorem dX9_empties_18 : decode cX9_empties 18 = .ok (.aload_n 0, 1) := by decide +kernel
theorem dX9_empties_19 : decode cX9_empties 19 = .ok (.getfield 63, 3) := by decide +kernel
theorem dX9_empties_22 : decode cX9_empties 22 = .ok (.iload_n 1, 1) := by decide +kernel
theorem dX9_empties_23 : decode cX9_empties 23 = .ok (.iconst 0, 1) := by decide +kernel
theorem dX9_empties_24 : decode cX9_empties 24 = .ok (.iastore, 1) := by decide +kernel
theorem dX9_empties_25 : decode cX9_empties 25 = .ok (.iinc 1 1, 3) := by decide +kernel
theorem dX9_empties_28 : decode cX9_empties 28 = .ok (.goto (-26), 3) := by decide +kernel
theorem dX9_empties_31 : decode cX9_empties 31 = .ok (.return_, 1) := by decide +kernel
theorem dX9_along_0 : decode cX9_along 0 = .ok (.aload_n 0, 1) := by decide +kernel
theorem dX9_along_1 : decode cX9_along 1 = .ok (.iload_n 1, 1) := by decide +kernel
theorem dX9_along_2 : decode cX9_along 2 = .ok (.putfield 7, 3) := by decide +kernel
theorem dX9_along_5 : decode cX9_along 5 = .ok (.aload_n 0, 1) := by decide +kernel
theorem dX9_along_6 : decode cX9_along 6 = .ok (.iconst 1, 1) := by decide +kernel
theorem dX9_along_7 : decode cX9_along 7 = .ok (.putfield 139, 3) := by decide +kernel
theorem dX9_along_10 : decode cX9_along 10 = .ok (.aload_n 0, 1) := by decide +kernel
theorem dX9_along_11 : decode cX9_along 11 = .ok (.iconst 0, 1) := by decide +kernel
theorem dX9_along_12 : decode cX9_along 12 = .ok (.putfield 115, 3) := by decide +kernel
theorem dX9_along_15 : decode cX9_along 15 = .ok (.aload_n 0, 1) := by decide +kernel
theorem dX9_along_16 : decode cX9_along 16 = .ok (.iconst 0, 1) := by decide +kernel
theorem dX9_along_17 : decode cX9_along 17 = .ok (.putfield 143, 3) := by decide +kernel
theorem dX9_along_20 : decode cX9_along 20 = .ok (.aload_n 0, 1) := by decide +kernel
theorem dX9_along_21 : decode cX9_along 21 = .ok (.iconst (-1), 1) := by decide +kernel
theorem dX9_along_22 : decode cX9_along 22 = .ok (.putfield 22, 3) := by decide +kernel
theorem dX9_along_25 : decode cX9_along 25 = .ok (.aload_n 0, 1) := by decide +kernel
theorem dX9_along_26 : decode cX9_along 26 = .ok (.iconst (-1), 1) := by decide +kernel
theorem dX9_along_27 : decode cX9_along 27 = .ok (.invokevirtual 111, 3) := by decide +kernel
theorem dX9_along_30 : decode cX9_along 30 = .ok (.return_, 1) := by decide +kernel
theorem dX9_street_0 : decode cX9_street 0 = .ok (.iload_n 1, 1) := by decide +kernel
theorem dX9_street_1 : decode cX9_street 1 = .ok (.iconst 2, 1) := by decide +kernel
theorem dX9_street_2 : decode cX9_street 2 = .ok (.if_icmp .lt 9, 3) := by decide +kernel
theorem dX9_street_5 : decode cX9_street 5 = .ok (.iload_n 1, 1) := by decide +kernel
theorem dX9_street_6 : decode cX9_street 6 = .ok (.bipush 24, 2) := by decide +kernel
theorem dX9_street_8 : decode cX9_street 8 = .ok (.if_icmp .le 10, 3) := by decide +kernel
theorem dX9_street_11 : decode cX9_street 11 = .ok (.aload_n 0, 1) := by decide +kernel
theorem dX9_street_12 : decode cX9_street 12 = .ok (.bipush (-6), 2) := by decide +kernel
theorem dX9_street_14 : decode cX9_street 14 = .ok (.invokevirtual 122, 3) := by decide +kernel
theorem dX9_street_17 : decode cX9_street 17 = .ok (.ireturn, 1) := by decide +kernel
theorem dX9_street_18 : decode cX9_street 18 = .ok (.aload_n 0, 1) := by decide +kernel
theorem dX9_street_19 : decode cX9_street 19 = .ok (.getfield 7, 3) := by decide +kernel
theorem dX9_street_22 : decode cX9_street 22 = .ok (.istore_n 2, 1) := by decide +kernel
theorem dX9_street_23 : decode cX9_street 23 = .ok (.aload_n 0, 1) := by decide +kernel
theorem dX9_street_24 : decode cX9_street 24 = .ok (.iload_n 1, 1) := by decide +kernel
theorem dX9_street_25 : decode cX9_street 25 = .ok (.invokevirtual 146, 3) := by decide +kernel
theorem dX9_street_28 : decode cX9_street 28 = .ok (.aload_n 0, 1) := by decide +kernel
theorem dX9_street_29 : decode cX9_street 29 = .ok (.invokevirtual 148, 3) := by decide +kernel
theorem dX9_street_32 : decode cX9_street 32 = .ok (.iload_n 2, 1) := by decide +kernel
theorem dX9_street_33 : decode cX9_street 33 = .ok (.ireturn, 1) := by decide +kernel
theorem dX9_signs_0 : decode cX9_signs 0 = .ok (.aload_n 0, 1) := by decide +kernel
theorem dX9_signs_1 : decode cX9_signs 1 = .ok (.getfield 35, 3) := by decide +kernel
theorem dX9_signs_4 : decode cX9_signs 4 = .ok (.aload_n 0, 1) := by decide +kernel
theorem dX9_signs_5 : decode cX9_signs 5 = .ok (.getfield 115, 3) := by decide +kernel
theorem dX9_signs_8 : decode cX9_signs 8 = .ok (.iload_n 1, 1) := by decide +kernel
theorem dX9_signs_9 : decode cX9_signs 9 = .ok (.iastore, 1) := by decide +kernel
theorem dX9_signs_10 : decode cX9_signs 10 = .ok (.aload_n 0, 1) := by decide +kernel
theorem dX9_signs_11 : decode cX9_signs 11 = .ok (.getfield 38, 3) := by decide +kernel
theorem dX9_signs_14 : decode cX9_signs 14 = .ok (.aload_n 0, 1) := by decide +kernel
theorem dX9_signs_15 : decode cX9_signs 15 = .ok (.getfield 115, 3) := by decide +kernel
theorem dX9_signs_18 : decode cX9_signs 18 = .ok (.iload_n 2, 1) := by decide +kernel
theorem dX9_signs_19 : decode cX9_signs 19 = .ok (.iastore, 1) := by decide +kernel
theorem dX9_signs_20 : decode cX9_signs 20 = .ok (.aload_n 0, 1) := by decide +kernel
theorem dX9_signs_21 : decode cX9_signs 21 = .ok (.getfield 41, 3) := by decide +kernel
theorem dX9_signs_24 : decode cX9_signs 24 = .ok (.aload_n 0, 1) := by decide +kernel
theorem dX9_signs_25 : decode cX9_signs 25 = .ok (.getfield 115, 3) := by decide +kernel
theorem dX9_signs_28 : decode cX9_signs 28 = .ok (.iload_n 3, 1) := by decide +kernel
theorem dX9_signs_29 : decode cX9_signs 29 = .ok (.iastore, 1) := by decide +kernel
theorem dX9_signs_30 : decode cX9_signs 30 = .ok (.aload_n 0, 1) := by decide +kernel
theorem dX9_signs_31 : decode cX9_signs 31 = .ok (.getfield 44, 3) := by decide +kernel
theorem dX9_signs_34 : decode cX9_signs 34 = .ok (.aload_n 0, 1) := by decide +kernel
theorem dX9_signs_35 : decode cX9_signs 35 = .ok (.getfield 115, 3) := by decide +kernel
theorem dX9_signs_38 : decode cX9_signs 38 = .ok (.iload 4, 2) := by decide +kernel
theorem dX9_signs_40 : decode cX9_signs 40 = .ok (.iastore, 1) := by decide +kernel
theorem dX9_signs_41 : decode cX9_signs 41 = .ok (.aload_n 0, 1) := by decide +kernel
theorem dX9_signs_42 : decode cX9_signs 42 = .ok (.dup, 1) := by decide +kernel
theorem dX9_signs_43 : decode cX9_signs 43 = .ok (.getfield 115, 3) := by decide +kernel
theorem dX9_signs_46 : decode cX9_signs 46 = .ok (.dup_x1, 1) := by decide +kernel
theorem dX9_signs_47 : decode cX9_signs 47 = .ok (.iconst 1, 1) := by decide +kernel
theorem dX9_signs_48 : decode cX9_signs 48 = .ok (.iadd, 1) := by decide +kernel
theorem dX9_signs_49 : decode cX9_signs 49 = .ok (.putfield 115, 3) := by decide +kernel
theorem dX9_signs_52 : decode cX9_signs 52 = .ok (.ireturn, 1) := by decide +kernel
theorem dX9_sign_0 : decode cX9_sign 0 = .ok (.iload_n 1, 1) := by decide +kernel
theorem dX9_sign_1 : decode cX9_sign 1 = .ok (.ifCond .lt 17, 3) := by decide +kernel
theorem dX9_sign_4 : decode cX9_sign 4 = .ok (.iload_n 1, 1) := by decide +kernel
theorem dX9_sign_5 : decode cX9_sign 5 = .ok (.bipush 6, 2) := by decide +kernel
theorem dX9_sign_7 : decode cX9_sign 7 = .ok (.if_icmp .gt 11, 3) := by decide +kernel
theorem dX9_sign_10 : decode cX9_sign 10 = .ok (.aload_n 0, 1) := by decide +kernel
theorem dX9_sign_11 : decode cX9_sign 11 = .ok (.iload_n 2, 1) := by decide +kernel
theorem dX9_sign_12 : decode cX9_sign 12 = .ok (.invokevirtual 151, 3) := by decide +kernel
theorem dX9_sign_15 : decode cX9_sign 15 = .ok (.ifCond .ne 9, 3) := by decide +kernel
theorem dX9_sign_18 : decode cX9_sign 18 = .ok (.aload_n 0, 1) := by decide +kernel
theorem dX9_sign_19 : decode cX9_sign 19 = .ok (.iconst (-1), 1) := by decide +kernel
theorem dX9_sign_20 : decode cX9_sign 20 = .ok (.invokevirtual 122, 3) := by decide +kernel
theorem dX9_sign_23 : decode cX9_sign 23 = .ok (.ireturn, 1) := by decide +kernel
theorem dX9_sign_24 : decode cX9_sign 24 = .ok (.iload_n 3, 1) := by decide +kernel
theorem dX9_sign_25 : decode cX9_sign 25 = .ok (.iconst 1, 1) := by decide +kernel
theorem dX9_sign_26 : decode cX9_sign 26 = .ok (.if_icmp .lt 22, 3) := by decide +kernel
theorem dX9_sign_29 : decode cX9_sign 29 = .ok (.iload_n 3, 1) := by decide +kernel
theorem dX9_sign_30 : decode cX9_sign 30 = .ok (.bipush 10, 2) := by decide +kernel
theorem dX9_sign_32 : decode cX9_sign 32 = .ok (.if_icmp .gt 16, 3) := by decide +kernel
theorem dX9_sign_35 : decode cX9_sign 35 = .ok (.iload 4, 2) := by decide +kernel
theorem dX9_sign_37 : decode cX9_sign 37 = .ok (.ifCond .lt 11, 3) := by decide +kernel
theorem dX9_sign_40 : decode cX9_sign 40 = .ok (.iload 4, 2) := by decide +kernel
theorem dX9_sign_42 : decode cX9_sign 42 = .ok (.sipush 255, 3) := by decide +kernel
theorem dX9_sign_45 : decode cX9_sign 45 = .ok (.if_icmp .le 10, 3) := by decide +kernel
theorem dX9_sign_48 : decode cX9_sign 48 = .ok (.aload_n 0, 1) := by decide +kernel
theorem dX9_sign_49 : decode cX9_sign 49 = .ok (.bipush (-6), 2) := by decide +kernel
theorem dX9_sign_51 : decode cX9_sign 51 = .ok (.invokevirtual 122, 3) := by decide +kernel
theorem dX9_sign_54 : decode cX9_sign 54 = .ok (.ireturn, 1) := by decide +kernel
theorem dX9_sign_55 : decode cX9_sign 55 = .ok (.aload_n 0, 1) := by decide +kernel
theorem dX9_sign_56 : decode cX9_sign 56 = .ok (.getfield 115, 3) := by decide +kernel
theorem dX9_sign_59 : decode cX9_sign 59 = .ok (.bipush 8, 2) := by decide +kernel
theorem dX9_sign_61 : decode cX9_sign 61 = .ok (.if_icmp .ne 12, 3) := by decide +kernel
theorem dX9_sign_64 : decode cX9_sign 64 = .ok (.aload_n 0, 1) := by decide +kernel
theorem dX9_sign_65 : decode cX9_sign 65 = .ok (.bipush (-7), 2) := by decide +kernel
theorem dX9_sign_67 : decode cX9_sign 67 = .ok (.invokevirtual 122, 3) := by decide +kernel
theorem dX9_sign_70 : decode cX9_sign 70 = .ok (.goto 12, 3) := by decide +kernel
theorem dX9_sign_73 : decode cX9_sign 73 = .ok (.aload_n 0, 1) := by decide +kernel
theorem dX9_sign_74 : decode cX9_sign 74 = .ok (.iload_n 1, 1) := by decide +kernel
theorem dX9_sign_75 : decode cX9_sign 75 = .ok (.iload_n 2, 1) := by decide +kernel
theorem dX9_sign_76 : decode cX9_sign 76 = .ok (.iload_n 3, 1) := by decide +kernel
theorem dX9_sign_77 : decode cX9_sign 77 = .ok (.iload 4, 2) := by decide +kernel
theorem dX9_sign_79 : decode cX9_sign 79 = .ok (.invokevirtual 154, 3) := by decide +kernel
theorem dX9_sign_82 : decode cX9_sign 82 = .ok (.ireturn, 1) := by decide +kernel
theorem dX9_stands_0 : decode cX9_stands 0 = .ok (.aload_n 0, 1) := by decide +kernel
theorem dX9_stands_1 : decode cX9_stands 1 = .ok (.getfield 47, 3) := by decide +kernel
theorem dX9_stands_4 : decode cX9_stands 4 = .ok (.aload_n 0, 1) := by decide +kernel
theorem dX9_stands_5 : decode cX9_stands 5 = .ok (.getfield 143, 3) := by decide +kernel
theorem dX9_stands_8 : decode cX9_stands 8 = .ok (.iload_n 1, 1) := by decide +kernel
theorem dX9_stands_9 : decode cX9_stands 9 = .ok (.iastore, 1) := by decide +kernel
theorem dX9_stands_10 : decode cX9_stands 10 = .ok (.aload_n 0, 1) := by decide +kernel
theorem dX9_stands_11 : decode cX9_stands 11 = .ok (.getfield 50, 3) := by decide +kernel
theorem dX9_stands_14 : decode cX9_stands 14 = .ok (.aload_n 0, 1) := by decide +kernel
theorem dX9_stands_15 : decode cX9_stands 15 = .ok (.getfield 143, 3) := by decide +kernel
theorem dX9_stands_18 : decode cX9_stands 18 = .ok (.iload_n 2, 1) := by decide +kernel
theorem dX9_stands_19 : decode cX9_stands 19 = .ok (.iastore, 1) := by decide +kernel
theorem dX9_stands_20 : decode cX9_stands 20 = .ok (.aload_n 0, 1) := by decide +kernel
theorem dX9_stands_21 : decode cX9_stands 21 = .ok (.getfield 53, 3) := by decide +kernel
theorem dX9_stands_24 : decode cX9_stands 24 = .ok (.aload_n 0, 1) := by decide +kernel
theorem dX9_stands_25 : decode cX9_stands 25 = .ok (.getfield 143, 3) := by decide +kernel
theorem dX9_stands_28 : decode cX9_stands 28 = .ok (.iload_n 3, 1) := by decide +kernel
theorem dX9_stands_29 : decode cX9_stands 29 = .ok (.iastore, 1) := by decide +kernel
theorem dX9_stands_30 : decode cX9_stands 30 = .ok (.aload_n 0, 1) := by decide +kernel
theorem dX9_stands_31 : decode cX9_stands 31 = .ok (.dup, 1) := by decide +kernel
theorem dX9_stands_32 : decode cX9_stands 32 = .ok (.getfield 143, 3) := by decide +kernel
theorem dX9_stands_35 : decode cX9_stands 35 = .ok (.dup_x1, 1) := by decide +kernel
theorem dX9_stands_36 : decode cX9_stands 36 = .ok (.iconst 1, 1) := by decide +kernel
theorem dX9_stands_37 : decode cX9_stands 37 = .ok (.iadd, 1) := by decide +kernel
theorem dX9_stands_38 : decode cX9_stands 38 = .ok (.putfield 143, 3) := by decide +kernel
theorem dX9_stands_41 : decode cX9_stands 41 = .ok (.ireturn, 1) := by decide +kernel
theorem dX9_thing_0 : decode cX9_thing 0 = .ok (.aload_n 0, 1) := by decide +kernel
theorem dX9_thing_1 : decode cX9_thing 1 = .ok (.iload_n 1, 1) := by decide +kernel
theorem dX9_thing_2 : decode cX9_thing 2 = .ok (.invokevirtual 151, 3) := by decide +kernel
theorem dX9_thing_5 : decode cX9_thing 5 = .ok (.ifCond .ne 9, 3) := by decide +kernel
theorem dX9_thing_8 : decode cX9_thing 8 = .ok (.aload_n 0, 1) := by decide +kernel
theorem dX9_thing_9 : decode cX9_thing 9 = .ok (.iconst (-1), 1) := by decide +kernel
theorem dX9_thing_10 : decode cX9_thing 10 = .ok (.invokevirtual 122, 3) := by decide +kernel
theorem dX9_thing_13 : decode cX9_thing 13 = .ok (.ireturn, 1) := by decide +kernel
theorem dX9_thing_14 : decode cX9_thing 14 = .ok (.iload_n 3, 1) := by decide +kernel
theorem dX9_thing_15 : decode cX9_thing 15 = .ok (.iconst 1, 1) := by decide +kernel
theorem dX9_thing_16 : decode cX9_thing 16 = .ok (.if_icmp .lt 9, 3) := by decide +kernel
theorem dX9_thing_19 : decode cX9_thing 19 = .ok (.iload_n 3, 1) := by decide +kernel
theorem dX9_thing_20 : decode cX9_thing 20 = .ok (.bipush 10, 2) := by decide +kernel
theorem dX9_thing_22 : decode cX9_thing 22 = .ok (.if_icmp .le 10, 3) := by decide +kernel
theorem dX9_thing_25 : decode cX9_thing 25 = .ok (.aload_n 0, 1) := by decide +kernel
theorem dX9_thing_26 : decode cX9_thing 26 = .ok (.bipush (-6), 2) := by decide +kernel
theorem dX9_thing_28 : decode cX9_thing 28 = .ok (.invokevirtual 122, 3) := by decide +kernel
theorem dX9_thing_31 : decode cX9_thing 31 = .ok (.ireturn, 1) := by decide +kernel
theorem dX9_thing_32 : decode cX9_thing 32 = .ok (.aload_n 0, 1) := by decide +kernel
theorem dX9_thing_33 : decode cX9_thing 33 = .ok (.getfield 143, 3) := by decide +kernel
theorem dX9_thing_36 : decode cX9_thing 36 = .ok (.bipush 8, 2) := by decide +kernel
theorem dX9_thing_38 : decode cX9_thing 38 = .ok (.if_icmp .ne 12, 3) := by decide +kernel
theorem dX9_thing_41 : decode cX9_thing 41 = .ok (.aload_n 0, 1) := by decide +kernel
theorem dX9_thing_42 : decode cX9_thing 42 = .ok (.bipush (-7), 2) := by decide +kernel
theorem dX9_thing_44 : decode cX9_thing 44 = .ok (.invokevirtual 122, 3) := by decide +kernel
theorem dX9_thing_47 : decode cX9_thing 47 = .ok (.goto 18, 3) := by decide +kernel
theorem dX9_thing_50 : decode cX9_thing 50 = .ok (.aload_n 0, 1) := by decide +kernel
theorem dX9_thing_51 : decode cX9_thing 51 = .ok (.iload_n 1, 1) := by decide +kernel
theorem dX9_thing_52 : decode cX9_thing 52 = .ok (.iload_n 2, 1) := by decide +kernel
theorem dX9_thing_53 : decode cX9_thing 53 = .ok (.ifCond .eq 7, 3) := by decide +kernel
theorem dX9_thing_56 : decode cX9_thing 56 = .ok (.iconst 1, 1) := by decide +kernel
theorem dX9_thing_57 : decode cX9_thing 57 = .ok (.goto 4, 3) := by decide +kernel
theorem dX9_thing_60 : decode cX9_thing 60 = .ok (.iconst 0, 1) := by decide +kernel
theorem dX9_thing_61 : decode cX9_thing 61 = .ok (.iload_n 3, 1) := by decide +kernel
theorem dX9_thing_62 : decode cX9_thing 62 = .ok (.invokevirtual 157, 3) := by decide +kernel
theorem dX9_thing_65 : decode cX9_thing 65 = .ok (.ireturn, 1) := by decide +kernel
theorem dX9_things_0 : decode cX9_things 0 = .ok (.aload_n 0, 1) := by decide +kernel
theorem dX9_things_1 : decode cX9_things 1 = .ok (.iload_n 1, 1) := by decide +kernel
theorem dX9_things_2 : decode cX9_things 2 = .ok (.invokevirtual 161, 3) := by decide +kernel
theorem dX9_things_5 : decode cX9_things 5 = .ok (.istore 4, 2) := by decide +kernel
theorem dX9_things_7 : decode cX9_things 7 = .ok (.iload 4, 2) := by decide +kernel
theorem dX9_things_9 : decode cX9_things 9 = .ok (.ifCond .eq 10, 3) := by decide +kernel
theorem dX9_things_12 : decode cX9_things 12 = .ok (.aload_n 0, 1) := by decide +kernel
theorem dX9_things_13 : decode cX9_things 13 = .ok (.iload 4, 2) := by decide +kernel
theorem dX9_things_15 : decode cX9_things 15 = .ok (.invokevirtual 122, 3) := by decide +kernel
theorem dX9_things_18 : decode cX9_things 18 = .ok (.ireturn, 1) := by decide +kernel
theorem dX9_things_19 : decode cX9_things 19 = .ok (.iload_n 3, 1) := by decide +kernel
theorem dX9_things_20 : decode cX9_things 20 = .ok (.ifCond .ge 10, 3) := by decide +kernel
theorem dX9_things_23 : decode cX9_things 23 = .ok (.aload_n 0, 1) := by decide +kernel
theorem dX9_things_24 : decode cX9_things 24 = .ok (.bipush (-4), 2) := by decide +kernel
theorem dX9_things_26 : decode cX9_things 26 = .ok (.invokevirtual 122, 3) := by decide +kernel
theorem dX9_things_29 : decode cX9_things 29 = .ok (.ireturn, 1) := by decide +kernel
theorem dX9_things_30 : decode cX9_things 30 = .ok (.iload_n 2, 1) := by decide +kernel
theorem dX9_things_31 : decode cX9_things 31 = .ok (.ifCond .lt 15, 3) := by decide +kernel
theorem dX9_things_34 : decode cX9_things 34 = .ok (.iload_n 2, 1) := by decide +kernel
theorem dX9_things_35 : decode cX9_things 35 = .ok (.aload_n 0, 1) := by decide +kernel
theorem dX9_things_36 : decode cX9_things 36 = .ok (.getfield 69, 3) := by decide +kernel
theorem dX9_things_39 : decode cX9_things 39 = .ok (.iload_n 1, 1) := by decide +kernel
theorem dX9_things_40 : decode cX9_things 40 = .ok (.iaload, 1) := by decide +kernel
theorem dX9_things_41 : decode cX9_things 41 = .ok (.iload_n 3, 1) := by decide +kernel
theorem dX9_things_42 : decode cX9_things 42 = .ok (.isub, 1) := by decide +kernel
theorem dX9_things_43 : decode cX9_things 43 = .ok (.if_icmp .le 10, 3) := by decide +kernel
theorem dX9_things_46 : decode cX9_things 46 = .ok (.aload_n 0, 1) := by decide +kernel
theorem dX9_things_47 : decode cX9_things 47 = .ok (.bipush (-5), 2) := by decide +kernel
theorem dX9_things_49 : decode cX9_things 49 = .ok (.invokevirtual 122, 3) := by decide +kernel
theorem dX9_things_52 : decode cX9_things 52 = .ok (.ireturn, 1) := by decide +kernel
theorem dX9_things_53 : decode cX9_things 53 = .ok (.iload_n 3, 1) := by decide +kernel
theorem dX9_things_54 : decode cX9_things 54 = .ok (.iconst 3, 1) := by decide +kernel
theorem dX9_things_55 : decode cX9_things 55 = .ok (.irem, 1) := by decide +kernel
theorem dX9_things_56 : decode cX9_things 56 = .ok (.ifCond .eq 10, 3) := by decide +kernel
theorem dX9_things_59 : decode cX9_things 59 = .ok (.aload_n 0, 1) := by decide +kernel
theorem dX9_things_60 : decode cX9_things 60 = .ok (.bipush (-6), 2) := by decide +kernel
theorem dX9_things_62 : decode cX9_things 62 = .ok (.invokevirtual 122, 3) := by decide +kernel
theorem dX9_things_65 : decode cX9_things 65 = .ok (.ireturn, 1) := by decide +kernel
theorem dX9_things_66 : decode cX9_things 66 = .ok (.iconst 0, 1) := by decide +kernel
theorem dX9_things_67 : decode cX9_things 67 = .ok (.istore 5, 2) := by decide +kernel
theorem dX9_things_69 : decode cX9_things 69 = .ok (.iload_n 2, 1) := by decide +kernel
theorem dX9_things_70 : decode cX9_things 70 = .ok (.istore 6, 2) := by decide +kernel
theorem dX9_things_72 : decode cX9_things 72 = .ok (.iload 6, 2) := by decide +kernel
theorem dX9_things_74 : decode cX9_things 74 = .ok (.iload_n 2, 1) := by decide +kernel
theorem dX9_things_75 : decode cX9_things 75 = .ok (.iload_n 3, 1) := by decide +kernel
theorem dX9_things_76 : decode cX9_things 76 = .ok (.iadd, 1) := by decide +kernel
theorem dX9_things_77 : decode cX9_things 77 = .ok (.if_icmp .ge 92, 3) := by decide +kernel
theorem dX9_things_80 : decode cX9_things 80 = .ok (.aload_n 0, 1) := by decide +kernel
theorem dX9_things_81 : decode cX9_things 81 = .ok (.iload_n 1, 1) := by decide +kernel
theorem dX9_things_82 : decode cX9_things 82 = .ok (.iload 6, 2) := by decide +kernel
theorem dX9_things_84 : decode cX9_things 84 = .ok (.invokevirtual 164, 3) := by decide +kernel
theorem dX9_things_87 : decode cX9_things 87 = .ok (.istore 7, 2) := by decide +kernel
theorem dX9_things_89 : decode cX9_things 89 = .ok (.aload_n 0, 1) := by decide +kernel
theorem dX9_things_90 : decode cX9_things 90 = .ok (.iload_n 1, 1) := by decide +kernel
theorem dX9_things_91 : decode cX9_things 91 = .ok (.iload 6, 2) := by decide +kernel
theorem dX9_things_93 : decode cX9_things 93 = .ok (.iconst 2, 1) := by decide +kernel
theorem dX9_things_94 : decode cX9_things 94 = .ok (.iadd, 1) := by decide +kernel
theorem dX9_things_95 : decode cX9_things 95 = .ok (.invokevirtual 164, 3) := by decide +kernel
theorem dX9_things_98 : decode cX9_things 98 = .ok (.istore 8, 2) := by decide +kernel
theorem dX9_things_100 : decode cX9_things 100 = .ok (.aload_n 0, 1) := by decide +kernel
theorem dX9_things_101 : decode cX9_things 101 = .ok (.getfield 143, 3) := by decide +kernel
theorem dX9_things_104 : decode cX9_things 104 = .ok (.bipush 8, 2) := by decide +kernel
theorem dX9_things_106 : decode cX9_things 106 = .ok (.if_icmp .eq 25, 3) := by decide +kernel
theorem dX9_things_109 : decode cX9_things 109 = .ok (.aload_n 0, 1) := by decide +kernel
theorem dX9_things_110 : decode cX9_things 110 = .ok (.iload 7, 2) := by decide +kernel
theorem dX9_things_112 : decode cX9_things 112 = .ok (.invokevirtual 151, 3) := by decide +kernel
theorem dX9_things_115 : decode cX9_things 115 = .ok (.ifCond .eq 16, 3) := by decide +kernel
theorem dX9_things_118 : decode cX9_things 118 = .ok (.iload 8, 2) := by decide +kernel
theorem dX9_things_120 : decode cX9_things 120 = .ok (.iconst 1, 1) := by decide +kernel
theorem dX9_things_121 : decode cX9_things 121 = .ok (.if_icmp .lt 10, 3) := by decide +kernel
theorem dX9_things_124 : decode cX9_things 124 = .ok (.iload 8, 2) := by decide +kernel
theorem dX9_things_126 : decode cX9_things 126 = .ok (.bipush 10, 2) := by decide +kernel
theorem dX9_things_128 : decode cX9_things 128 = .ok (.if_icmp .le 6, 3) := by decide +kernel
theorem dX9_things_131 : decode cX9_things 131 = .ok (.iload 5, 2) := by decide +kernel
theorem dX9_things_133 : decode cX9_things 133 = .ok (.ireturn, 1) := by decide +kernel
theorem dX9_things_134 : decode cX9_things 134 = .ok (.aload_n 0, 1) := by decide +kernel
theorem dX9_things_135 : decode cX9_things 135 = .ok (.iload 7, 2) := by decide +kernel
theorem dX9_things_137 : decode cX9_things 137 = .ok (.aload_n 0, 1) := by decide +kernel
theorem dX9_things_138 : decode cX9_things 138 = .ok (.iload_n 1, 1) := by decide +kernel
theorem dX9_things_139 : decode cX9_things 139 = .ok (.iload 6, 2) := by decide +kernel
theorem dX9_things_141 : decode cX9_things 141 = .ok (.iconst 1, 1) := by decide +kernel
theorem dX9_things_142 : decode cX9_things 142 = .ok (.iadd, 1) := by decide +kernel
theorem dX9_things_143 : decode cX9_things 143 = .ok (.invokevirtual 164, 3) := by decide +kernel
theorem dX9_things_146 : decode cX9_things 146 = .ok (.ifCond .eq 7, 3) := by decide +kernel
theorem dX9_things_149 : decode cX9_things 149 = .ok (.iconst 1, 1) := by decide +kernel
theorem dX9_things_150 : decode cX9_things 150 = .ok (.goto 4, 3) := by decide +kernel
theorem dX9_things_153 : decode cX9_things 153 = .ok (.iconst 0, 1) := by decide +kernel
theorem dX9_things_154 : decode cX9_things 154 = .ok (.iload 8, 2) := by decide +kernel
theorem dX9_things_156 : decode cX9_things 156 = .ok (.invokevirtual 157, 3) := by decide +kernel
theorem dX9_things_159 : decode cX9_things 159 = .ok (.pop, 1) := by decide +kernel
theorem dX9_things_160 : decode cX9_things 160 = .ok (.iinc 5 1, 3) := by decide +kernel
theorem dX9_things_163 : decode cX9_things 163 = .ok (.iinc 6 3, 3) := by decide +kernel
theorem dX9_things_166 : decode cX9_things 166 = .ok (.goto (-94), 3) := by decide +kernel
theorem dX9_things_169 : decode cX9_things 169 = .ok (.iload 5, 2) := by decide +kernel
theorem dX9_things_171 : decode cX9_things 171 = .ok (.ireturn, 1) := by decide +kernel
theorem dX9_wander_0 : decode cX9_wander 0 = .ok (.iload_n 1, 1) := by decide +kernel
theorem dX9_wander_1 : decode cX9_wander 1 = .ok (.ifCond .lt 21, 3) := by decide +kernel
theorem dX9_wander_4 : decode cX9_wander 4 = .ok (.iload_n 2, 1) := by decide +kernel
theorem dX9_wander_5 : decode cX9_wander 5 = .ok (.ifCond .lt 17, 3) := by decide +kernel
theorem dX9_wander_8 : decode cX9_wander 8 = .ok (.iload_n 1, 1) := by decide +kernel
theorem dX9_wander_9 : decode cX9_wander 9 = .ok (.bipush 10, 2) := by decide +kernel
theorem dX9_wander_11 : decode cX9_wander 11 = .ok (.if_icmp .gt 11, 3) := by decide +kernel
theorem dX9_wander_14 : decode cX9_wander 14 = .ok (.iload_n 2, 1) := by decide +kernel
theorem dX9_wander_15 : decode cX9_wander 15 = .ok (.bipush 10, 2) := by decide +kernel
theorem dX9_wander_17 : decode cX9_wander 17 = .ok (.iload_n 1, 1) := by decide +kernel
theorem dX9_wander_18 : decode cX9_wander 18 = .ok (.isub, 1) := by decide +kernel
theorem dX9_wander_19 : decode cX9_wander 19 = .ok (.if_icmp .le 10, 3) := by decide +kernel
theorem dX9_wander_22 : decode cX9_wander 22 = .ok (.aload_n 0, 1) := by decide +kernel
theorem dX9_wander_23 : decode cX9_wander 23 = .ok (.bipush (-6), 2) := by decide +kernel
theorem dX9_wander_25 : decode cX9_wander 25 = .ok (.invokevirtual 122, 3) := by decide +kernel
theorem dX9_wander_28 : decode cX9_wander 28 = .ok (.ireturn, 1) := by decide +kernel
theorem dX9_wander_29 : decode cX9_wander 29 = .ok (.bipush 100, 2) := by decide +kernel
theorem dX9_wander_31 : decode cX9_wander 31 = .ok (.aload_n 0, 1) := by decide +kernel
theorem dX9_wander_32 : decode cX9_wander 32 = .ok (.getfield 13, 3) := by decide +kernel
theorem dX9_wander_35 : decode cX9_wander 35 = .ok (.imul, 1) := by decide +kernel
theorem dX9_wander_36 : decode cX9_wander 36 = .ok (.aload_n 0, 1) := by decide +kernel
theorem dX9_wander_37 : decode cX9_wander 37 = .ok (.getfield 16, 3) := by decide +kernel
theorem dX9_wander_40 : decode cX9_wander 40 = .ok (.iadd, 1) := by decide +kernel
theorem dX9_wander_41 : decode cX9_wander 41 = .ok (.istore_n 3, 1) := by decide +kernel
theorem dX9_wander_42 : decode cX9_wander 42 = .ok (.aload_n 0, 1) := by decide +kernel
theorem dX9_wander_43 : decode cX9_wander 43 = .ok (.iload_n 1, 1) := by decide +kernel
theorem dX9_wander_44 : decode cX9_wander 44 = .ok (.putfield 13, 3) := by decide +kernel
theorem dX9_wander_47 : decode cX9_wander 47 = .ok (.aload_n 0, 1) := by decide +kernel
theorem dX9_wander_48 : decode cX9_wander 48 = .ok (.iload_n 2, 1) := by decide +kernel
theorem dX9_wander_49 : decode cX9_wander 49 = .ok (.putfield 16, 3) := by decide +kernel
theorem dX9_wander_52 : decode cX9_wander 52 = .ok (.iload_n 3, 1) := by decide +kernel
theorem dX9_wander_53 : decode cX9_wander 53 = .ok (.ireturn, 1) := by decide +kernel
theorem dX9_ask_0 : decode cX9_ask 0 = .ok (.iload_n 1, 1) := by decide +kernel
theorem dX9_ask_1 : decode cX9_ask 1 = .ok (.ifCond .ne 26, 3) := by decide +kernel
theorem dX9_ask_4 : decode cX9_ask 4 = .ok (.iload_n 2, 1) := by decide +kernel
theorem dX9_ask_5 : decode cX9_ask 5 = .ok (.ifCond .lt 22, 3) := by decide +kernel
theorem dX9_ask_8 : decode cX9_ask 8 = .ok (.iload_n 2, 1) := by decide +kernel
theorem dX9_ask_9 : decode cX9_ask 9 = .ok (.bipush 7, 2) := by decide +kernel
theorem dX9_ask_11 : decode cX9_ask 11 = .ok (.if_icmp .gt 16, 3) := by decide +kernel
theorem dX9_ask_14 : decode cX9_ask 14 = .ok (.aload_n 0, 1) := by decide +kernel
theorem dX9_ask_15 : decode cX9_ask 15 = .ok (.getfield 167, 3) := by decide +kernel
theorem dX9_ask_18 : decode cX9_ask 18 = .ok (.istore_n 3, 1) := by decide +kernel
theorem dX9_ask_19 : decode cX9_ask 19 = .ok (.aload_n 0, 1) := by decide +kernel
theorem dX9_ask_20 : decode cX9_ask 20 = .ok (.iload_n 2, 1) := by decide +kernel
theorem dX9_ask_21 : decode cX9_ask 21 = .ok (.putfield 167, 3) := by decide +kernel
theorem dX9_ask_24 : decode cX9_ask 24 = .ok (.goto 66, 3) := by decide +kernel
theorem dX9_ask_27 : decode cX9_ask 27 = .ok (.iload_n 1, 1) := by decide +kernel
theorem dX9_ask_28 : decode cX9_ask 28 = .ok (.iconst 1, 1) := by decide +kernel
theorem dX9_ask_29 : decode cX9_ask 29 = .ok (.if_icmp .ne 25, 3) := by decide +kernel
theorem dX9_ask_32 : decode cX9_ask 32 = .ok (.iload_n 2, 1) := by decide +kernel
theorem dX9_ask_33 : decode cX9_ask 33 = .ok (.ifCond .lt 21, 3) := by decide +kernel
theorem dX9_ask_36 : decode cX9_ask 36 = .ok (.iload_n 2, 1) := by decide +kernel
theorem dX9_ask_37 : decode cX9_ask 37 = .ok (.iconst 1, 1) := by decide +kernel
theorem dX9_ask_38 : decode cX9_ask 38 = .ok (.if_icmp .gt 16, 3) := by decide +kernel
theorem dX9_ask_41 : decode cX9_ask 41 = .ok (.aload_n 0, 1) := by decide +kernel
theorem dX9_ask_42 : decode cX9_ask 42 = .ok (.getfield 170, 3) := by decide +kernel
theorem dX9_ask_45 : decode cX9_ask 45 = .ok (.istore_n 3, 1) := by decide +kernel
theorem dX9_ask_46 : decode cX9_ask 46 = .ok (.aload_n 0, 1) := by decide +kernel
theorem dX9_ask_47 : decode cX9_ask 47 = .ok (.iload_n 2, 1) := by decide +kernel
theorem dX9_ask_48 : decode cX9_ask 48 = .ok (.putfield 170, 3) := by decide +kernel
theorem dX9_ask_51 : decode cX9_ask 51 = .ok (.goto 39, 3) := by decide +kernel
theorem dX9_ask_54 : decode cX9_ask 54 = .ok (.iload_n 1, 1) := by decide +kernel
theorem dX9_ask_55 : decode cX9_ask 55 = .ok (.iconst 2, 1) := by decide +kernel
theorem dX9_ask_56 : decode cX9_ask 56 = .ok (.if_icmp .ne 27, 3) := by decide +kernel
theorem dX9_ask_59 : decode cX9_ask 59 = .ok (.iload_n 2, 1) := by decide +kernel
theorem dX9_ask_60 : decode cX9_ask 60 = .ok (.iconst 1, 1) := by decide +kernel
theorem dX9_ask_61 : decode cX9_ask 61 = .ok (.if_icmp .lt 22, 3) := by decide +kernel
theorem dX9_ask_64 : decode cX9_ask 64 = .ok (.iload_n 2, 1) := by decide +kernel
theorem dX9_ask_65 : decode cX9_ask 65 = .ok (.bipush 9, 2) := by decide +kernel
theorem dX9_ask_67 : decode cX9_ask 67 = .ok (.if_icmp .gt 16, 3) := by decide +kernel
theorem dX9_ask_70 : decode cX9_ask 70 = .ok (.aload_n 0, 1) := by decide +kernel
theorem dX9_ask_71 : decode cX9_ask 71 = .ok (.getfield 19, 3) := by decide +kernel
theorem dX9_ask_74 : decode cX9_ask 74 = .ok (.istore_n 3, 1) := by decide +kernel
theorem dX9_ask_75 : decode cX9_ask 75 = .ok (.aload_n 0, 1) := by decide +kernel
theorem dX9_ask_76 : decode cX9_ask 76 = .ok (.iload_n 2, 1) := by decide +kernel
theorem dX9_ask_77 : decode cX9_ask 77 = .ok (.putfield 19, 3) := by decide +kernel
theorem dX9_ask_80 : decode cX9_ask 80 = .ok (.goto 10, 3) := by decide +kernel
theorem dX9_ask_83 : decode cX9_ask 83 = .ok (.aload_n 0, 1) := by decide +kernel
theorem dX9_ask_84 : decode cX9_ask 84 = .ok (.bipush (-6), 2) := by decide +kernel
theorem dX9_ask_86 : decode cX9_ask 86 = .ok (.invokevirtual 122, 3) := by decide +kernel
theorem dX9_ask_89 : decode cX9_ask 89 = .ok (.ireturn, 1) := by decide +kernel
theorem dX9_ask_90 : decode cX9_ask 90 = .ok (.iload_n 3, 1) := by decide +kernel
theorem dX9_ask_91 : decode cX9_ask 91 = .ok (.ireturn, 1) := by decide +kernel
theorem dX9_signOf_0 : decode cX9_signOf 0 = .ok (.aload_n 0, 1) := by decide +kernel
theorem dX9_signOf_1 : decode cX9_signOf 1 = .ok (.iload_n 1, 1) := by decide +kernel
theorem dX9_signOf_2 : decode cX9_signOf 2 = .ok (.invokevirtual 126, 3) := by decide +kernel
theorem dX9_signOf_5 : decode cX9_signOf 5 = .ok (.ifCond .eq 12, 3) := by decide +kernel
theorem dX9_signOf_8 : decode cX9_signOf 8 = .ok (.iload_n 2, 1) := by decide +kernel
theorem dX9_signOf_9 : decode cX9_signOf 9 = .ok (.ifCond .lt 8, 3) := by decide +kernel
theorem dX9_signOf_12 : decode cX9_signOf 12 = .ok (.iload_n 2, 1) := by decide +kernel
theorem dX9_signOf_13 : decode cX9_signOf 13 = .ok (.iconst 3, 1) := by decide +kernel
theorem dX9_signOf_14 : decode cX9_signOf 14 = .ok (.if_icmp .le 10, 3) := by decide +kernel
theorem dX9_signOf_17 : decode cX9_signOf 17 = .ok (.aload_n 0, 1) := by decide +kernel
theorem dX9_signOf_18 : decode cX9_signOf 18 = .ok (.bipush (-5), 2) := by decide +kernel
theorem dX9_signOf_20 : decode cX9_signOf 20 = .ok (.invokevirtual 122, 3) := by decide +kernel
theorem dX9_signOf_23 : decode cX9_signOf 23 = .ok (.ireturn, 1) := by decide +kernel
theorem dX9_signOf_24 : decode cX9_signOf 24 = .ok (.iload_n 2, 1) := by decide +kernel
theorem dX9_signOf_25 : decode cX9_signOf 25 = .ok (.ifCond .ne 12, 3) := by decide +kernel
theorem dX9_signOf_28 : decode cX9_signOf 28 = .ok (.aload_n 0, 1) := by decide +kernel
theorem dX9_signOf_29 : decode cX9_signOf 29 = .ok (.getfield 35, 3) := by decide +kernel
theorem dX9_signOf_32 : decode cX9_signOf 32 = .ok (.iload_n 1, 1) := by decide +kernel
theorem dX9_signOf_33 : decode cX9_signOf 33 = .ok (.iaload, 1) := by decide +kernel
theorem dX9_signOf_34 : decode cX9_signOf 34 = .ok (.goto 37, 3) := by decide +kernel
theorem dX9_signOf_37 : decode cX9_signOf 37 = .ok (.iload_n 2, 1) := by decide +kernel
theorem dX9_signOf_38 : decode cX9_signOf 38 = .ok (.iconst 1, 1) := by decide +kernel
theorem dX9_signOf_39 : decode cX9_signOf 39 = .ok (.if_icmp .ne 12, 3) := by decide +kernel
theorem dX9_signOf_42 : decode cX9_signOf 42 = .ok (.aload_n 0, 1) := by decide +kernel
theorem dX9_signOf_43 : decode cX9_signOf 43 = .ok (.getfield 38, 3) := by decide +kernel
theorem dX9_signOf_46 : decode cX9_signOf 46 = .ok (.iload_n 1, 1) := by decide +kernel
theorem dX9_signOf_47 : decode cX9_signOf 47 = .ok (.iaload, 1) := by decide +kernel
theorem dX9_signOf_48 : decode cX9_signOf 48 = .ok (.goto 23, 3) := by decide +kernel
theorem dX9_signOf_51 : decode cX9_signOf 51 = .ok (.iload_n 2, 1) := by decide +kernel
theorem dX9_signOf_52 : decode cX9_signOf 52 = .ok (.iconst 2, 1) := by decide +kernel
theorem dX9_signOf_53 : decode cX9_signOf 53 = .ok (.if_icmp .ne 12, 3) := by decide +kernel
theorem dX9_signOf_56 : decode cX9_signOf 56 = .ok (.aload_n 0, 1) := by decide +kernel
theorem dX9_signOf_57 : decode cX9_signOf 57 = .ok (.getfield 41, 3) := by decide +kernel
theorem dX9_signOf_60 : decode cX9_signOf 60 = .ok (.iload_n 1, 1) := by decide +kernel
theorem dX9_signOf_61 : decode cX9_signOf 61 = .ok (.iaload, 1) := by decide +kernel
theorem dX9_signOf_62 : decode cX9_signOf 62 = .ok (.goto 9, 3) := by decide +kernel
theorem dX9_signOf_65 : decode cX9_signOf 65 = .ok (.aload_n 0, 1) := by decide +kernel
theorem dX9_signOf_66 : decode cX9_signOf 66 = .ok (.getfield 44, 3) := by decide +kernel
theorem dX9_signOf_69 : decode cX9_signOf 69 = .ok (.iload_n 1, 1) := by decide +kernel
theorem dX9_signOf_70 : decode cX9_signOf 70 = .ok (.iaload, 1) := by decide +kernel
theorem dX9_signOf_71 : decode cX9_signOf 71 = .ok (.ireturn, 1) := by decide +kernel
theorem dX9_thingOf_0 : decode cX9_thingOf 0 = .ok (.iload_n 1, 1) := by decide +kernel
theorem dX9_thingOf_1 : decode cX9_thingOf 1 = .ok (.ifCond .lt 20, 3) := by decide +kernel
theorem dX9_thingOf_4 : decode cX9_thingOf 4 = .ok (.iload_n 1, 1) := by decide +kernel
theorem dX9_thingOf_5 : decode cX9_thingOf 5 = .ok (.aload_n 0, 1) := by decide +kernel
theorem dX9_thingOf_6 : decode cX9_thingOf 6 = .ok (.getfield 143, 3) := by decide +kernel
theorem dX9_thingOf_9 : decode cX9_thingOf 9 = .ok (.if_icmp .ge 12, 3) := by decide +kernel
theorem dX9_thingOf_12 : decode cX9_thingOf 12 = .ok (.iload_n 2, 1) := by decide +kernel
theorem dX9_thingOf_13 : decode cX9_thingOf 13 = .ok (.ifCond .lt 8, 3) := by decide +kernel
theorem dX9_thingOf_16 : decode cX9_thingOf 16 = .ok (.iload_n 2, 1) := by decide +kernel
theorem dX9_thingOf_17 : decode cX9_thingOf 17 = .ok (.iconst 2, 1) := by decide +kernel
theorem dX9_thingOf_18 : decode cX9_thingOf 18 = .ok (.if_icmp .le 10, 3) := by decide +kernel
theorem dX9_thingOf_21 : decode cX9_thingOf 21 = .ok (.aload_n 0, 1) := by decide +kernel
theorem dX9_thingOf_22 : decode cX9_thingOf 22 = .ok (.bipush (-5), 2) := by decide +kernel
theorem dX9_thingOf_24 : decode cX9_thingOf 24 = .ok (.invokevirtual 122, 3) := by decide +kernel
theorem dX9_thingOf_27 : decode cX9_thingOf 27 = .ok (.ireturn, 1) := by decide +kernel
theorem dX9_thingOf_28 : decode cX9_thingOf 28 = .ok (.iload_n 2, 1) := by decide +kernel
theorem dX9_thingOf_29 : decode cX9_thingOf 29 = .ok (.ifCond .ne 12, 3) := by decide +kernel
theorem dX9_thingOf_32 : decode cX9_thingOf 32 = .ok (.aload_n 0, 1) := by decide +kernel
theorem dX9_thingOf_33 : decode cX9_thingOf 33 = .ok (.getfield 47, 3) := by decide +kernel
theorem dX9_thingOf_36 : decode cX9_thingOf 36 = .ok (.iload_n 1, 1) := by decide +kernel
theorem dX9_thingOf_37 : decode cX9_thingOf 37 = .ok (.iaload, 1) := by decide +kernel
theorem dX9_thingOf_38 : decode cX9_thingOf 38 = .ok (.goto 23, 3) := by decide +kernel
theorem dX9_thingOf_41 : decode cX9_thingOf 41 = .ok (.iload_n 2, 1) := by decide +kernel
theorem dX9_thingOf_42 : decode cX9_thingOf 42 = .ok (.iconst 1, 1) := by decide +kernel
theorem dX9_thingOf_43 : decode cX9_thingOf 43 = .ok (.if_icmp .ne 12, 3) := by decide +kernel
theorem dX9_thingOf_46 : decode cX9_thingOf 46 = .ok (.aload_n 0, 1) := by decide +kernel
theorem dX9_thingOf_47 : decode cX9_thingOf 47 = .ok (.getfield 50, 3) := by decide +kernel
theorem dX9_thingOf_50 : decode cX9_thingOf 50 = .ok (.iload_n 1, 1) := by decide +kernel
theorem dX9_thingOf_51 : decode cX9_thingOf 51 = .ok (.iaload, 1) := by decide +kernel
theorem dX9_thingOf_52 : decode cX9_thingOf 52 = .ok (.goto 9, 3) := by decide +kernel
theorem dX9_thingOf_55 : decode cX9_thingOf 55 = .ok (.aload_n 0, 1) := by decide +kernel
theorem dX9_thingOf_56 : decode cX9_thingOf 56 = .ok (.getfield 53, 3) := by decide +kernel
theorem dX9_thingOf_59 : decode cX9_thingOf 59 = .ok (.iload_n 1, 1) := by decide +kernel
theorem dX9_thingOf_60 : decode cX9_thingOf 60 = .ok (.iaload, 1) := by decide +kernel
theorem dX9_thingOf_61 : decode cX9_thingOf 61 = .ok (.ireturn, 1) := by decide +kernel
theorem dX9_clear_0 : decode cX9_clear 0 = .ok (.iload_n 1, 1) := by decide +kernel
theorem dX9_clear_1 : decode cX9_clear 1 = .ok (.ifCond .lt 11, 3) := by decide +kernel
theorem dX9_clear_4 : decode cX9_clear 4 = .ok (.iload_n 1, 1) := by decide +kernel
theorem dX9_clear_5 : decode cX9_clear 5 = .ok (.aload_n 0, 1) := by decide +kernel
theorem dX9_clear_6 : decode cX9_clear 6 = .ok (.getfield 143, 3) := by decide +kernel
theorem dX9_clear_9 : decode cX9_clear 9 = .ok (.if_icmp .lt 9, 3) := by decide +kernel
theorem dX9_clear_12 : decode cX9_clear 12 = .ok (.aload_n 0, 1) := by decide +kernel
theorem dX9_clear_13 : decode cX9_clear 13 = .ok (.iconst (-1), 1) := by decide +kernel
theorem dX9_clear_14 : decode cX9_clear 14 = .ok (.invokevirtual 122, 3) := by decide +kernel
theorem dX9_clear_17 : decode cX9_clear 17 = .ok (.ireturn, 1) := by decide +kernel
theorem dX9_clear_18 : decode cX9_clear 18 = .ok (.aload_n 0, 1) := by decide +kernel
theorem dX9_clear_19 : decode cX9_clear 19 = .ok (.dup, 1) := by decide +kernel
theorem dX9_clear_20 : decode cX9_clear 20 = .ok (.getfield 143, 3) := by decide +kernel
theorem dX9_clear_23 : decode cX9_clear 23 = .ok (.iconst 1, 1) := by decide +kernel
theorem dX9_clear_24 : decode cX9_clear 24 = .ok (.isub, 1) := by decide +kernel
theorem dX9_clear_25 : decode cX9_clear 25 = .ok (.putfield 143, 3) := by decide +kernel
theorem dX9_clear_28 : decode cX9_clear 28 = .ok (.iload_n 1, 1) := by decide +kernel
theorem dX9_clear_29 : decode cX9_clear 29 = .ok (.istore_n 2, 1) := by decide +kernel
theorem dX9_clear_30 : decode cX9_clear 30 = .ok (.iload_n 2, 1) := by decide +kernel
theorem dX9_clear_31 : decode cX9_clear 31 = .ok (.aload_n 0, 1) := by decide +kernel
theorem dX9_clear_32 : decode cX9_clear 32 = .ok (.getfield 143, 3) := by decide +kernel
theorem dX9_clear_35 : decode cX9_clear 35 = .ok (.if_icmp .ge 51, 3) := by decide +kernel
theorem dX9_clear_38 : decode cX9_clear 38 = .ok (.aload_n 0, 1) := by decide +kernel
theorem dX9_clear_39 : decode cX9_clear 39 = .ok (.getfield 47, 3) := by decide +kernel
theorem dX9_clear_42 : decode cX9_clear 42 = .ok (.iload_n 2, 1) := by decide +kernel
theorem dX9_clear_43 : decode cX9_clear 43 = .ok (.aload_n 0, 1) := by decide +kernel
theorem dX9_clear_44 : decode cX9_clear 44 = .ok (.getfield 47, 3) := by decide +kernel
theorem dX9_clear_47 : decode cX9_clear 47 = .ok (.iload_n 2, 1) := by decide +kernel
theorem dX9_clear_48 : decode cX9_clear 48 = .ok (.iconst 1, 1) := by decide +kernel
theorem dX9_clear_49 : decode cX9_clear 49 = .ok (.iadd, 1) := by decide +kernel
theorem dX9_clear_50 : decode cX9_clear 50 = .ok (.iaload, 1) := by decide +kernel
theorem dX9_clear_51 : decode cX9_clear 51 = .ok (.iastore, 1) := by decide +kernel
theorem dX9_clear_52 : decode cX9_clear 52 = .ok (.aload_n 0, 1) := by decide +kernel
theorem dX9_clear_53 : decode cX9_clear 53 = .ok (.getfield 50, 3) := by decide +kernel
theorem dX9_clear_56 : decode cX9_clear 56 = .ok (.iload_n 2, 1) := by decide +kernel
theorem dX9_clear_57 : decode cX9_clear 57 = .ok (.aload_n 0, 1) := by decide +kernel
theorem dX9_clear_58 : decode cX9_clear 58 = .ok (.getfield 50, 3) := by decide +kernel
theorem dX9_clear_61 : decode cX9_clear 61 = .ok (.iload_n 2, 1) := by decide +kernel
theorem dX9_clear_62 : decode cX9_clear 62 = .ok (.iconst 1, 1) := by decide +kernel
theorem dX9_clear_63 : decode cX9_clear 63 = .ok (.iadd, 1) := by decide +kernel
theorem dX9_clear_64 : decode cX9_clear 64 = .ok (.iaload, 1) := by decide +kernel
theorem dX9_clear_65 : decode cX9_clear 65 = .ok (.iastore, 1) := by decide +kernel
theorem dX9_clear_66 : decode cX9_clear 66 = .ok (.aload_n 0, 1) := by decide +kernel
theorem dX9_clear_67 : decode cX9_clear 67 = .ok (.getfield 53, 3) := by decide +kernel
theorem dX9_clear_70 : decode cX9_clear 70 = .ok (.iload_n 2, 1) := by decide +kernel
theorem dX9_clear_71 : decode cX9_clear 71 = .ok (.aload_n 0, 1) := by decide +kernel
theorem dX9_clear_72 : decode cX9_clear 72 = .ok (.getfield 53, 3) := by decide +kernel
theorem dX9_clear_75 : decode cX9_clear 75 = .ok (.iload_n 2, 1) := by decide +kernel
theorem dX9_clear_76 : decode cX9_clear 76 = .ok (.iconst 1, 1) := by decide +kernel
theorem dX9_clear_77 : decode cX9_clear 77 = .ok (.iadd, 1) := by decide +kernel
theorem dX9_clear_78 : decode cX9_clear 78 = .ok (.iaload, 1) := by decide +kernel
theorem dX9_clear_79 : decode cX9_clear 79 = .ok (.iastore, 1) := by decide +kernel
theorem dX9_clear_80 : decode cX9_clear 80 = .ok (.iinc 2 1, 3) := by decide +kernel
theorem dX9_clear_83 : decode cX9_clear 83 = .ok (.goto (-53), 3) := by decide +kernel
theorem dX9_clear_86 : decode cX9_clear 86 = .ok (.aload_n 0, 1) := by decide +kernel
theorem dX9_clear_87 : decode cX9_clear 87 = .ok (.getfield 143, 3) := by decide +kernel
theorem dX9_clear_90 : decode cX9_clear 90 = .ok (.ireturn, 1) := by decide +kernel
theorem dX9_wrong_0 : decode cX9_wrong 0 = .ok (.aload_n 0, 1) := by decide +kernel
theorem dX9_wrong_1 : decode cX9_wrong 1 = .ok (.iload_n 1, 1) := by decide +kernel
theorem dX9_wrong_2 : decode cX9_wrong 2 = .ok (.putfield 173, 3) := by decide +kernel
theorem dX9_wrong_5 : decode cX9_wrong 5 = .ok (.iconst 0, 1) := by decide +kernel
theorem dX9_wrong_6 : decode cX9_wrong 6 = .ok (.ireturn, 1) := by decide +kernel
theorem dX9_word_0 : decode cX9_word 0 = .ok (.iconst 0, 1) := by decide +kernel
theorem dX9_word_1 : decode cX9_word 1 = .ok (.istore_n 1, 1) := by decide +kernel
theorem dX9_word_2 : decode cX9_word 2 = .ok (.aload_n 0, 1) := by decide +kernel
theorem dX9_word_3 : decode cX9_word 3 = .ok (.getfield 176, 3) := by decide +kernel
theorem dX9_word_6 : decode cX9_word 6 = .ok (.istore_n 2, 1) := by decide +kernel
theorem dX9_word_7 : decode cX9_word 7 = .ok (.iconst 0, 1) := by decide +kernel
theorem dX9_word_8 : decode cX9_word 8 = .ok (.istore_n 3, 1) := by decide +kernel
theorem dX9_word_9 : decode cX9_word 9 = .ok (.iload_n 3, 1) := by decide +kernel
theorem dX9_word_10 : decode cX9_word 10 = .ok (.bipush 6, 2) := by decide +kernel
theorem dX9_word_12 : decode cX9_word 12 = .ok (.if_icmp .ge 118, 3) := by decide +kernel
theorem dX9_word_15 : decode cX9_word 15 = .ok (.aload_n 0, 1) := by decide +kernel
theorem dX9_word_16 : decode cX9_word 16 = .ok (.getfield 176, 3) := by decide +kernel
theorem dX9_word_19 : decode cX9_word 19 = .ok (.istore 4, 2) := by decide +kernel
theorem dX9_word_21 : decode cX9_word 21 = .ok (.iload_n 1, 1) := by decide +kernel
theorem dX9_word_22 : decode cX9_word 22 = .ok (.istore 5, 2) := by decide +kernel
theorem dX9_word_24 : decode cX9_word 24 = .ok (.aload_n 0, 1) := by decide +kernel
theorem dX9_word_25 : decode cX9_word 25 = .ok (.getfield 81, 3) := by decide +kernel
theorem dX9_word_28 : decode cX9_word 28 = .ok (.iload 5, 2) := by decide +kernel
theorem dX9_word_30 : decode cX9_word 30 = .ok (.iaload, 1) := by decide +kernel
theorem dX9_word_31 : decode cX9_word 31 = .ok (.ifCond .eq 44, 3) := by decide +kernel
theorem dX9_word_34 : decode cX9_word 34 = .ok (.iload 4, 2) := by decide +kernel
theorem dX9_word_36 : decode cX9_word 36 = .ok (.aload_n 0, 1) := by decide +kernel
theorem dX9_word_37 : decode cX9_word 37 = .ok (.getfield 179, 3) := by decide +kernel
theorem dX9_word_40 : decode cX9_word 40 = .ok (.if_icmp .ge 35, 3) := by decide +kernel
theorem dX9_word_43 : decode cX9_word 43 = .ok (.aload_n 0, 1) := by decide +kernel
theorem dX9_word_44 : decode cX9_word 44 = .ok (.getfield 75, 3) := by decide +kernel
theorem dX9_word_47 : decode cX9_word 47 = .ok (.aload_n 0, 1) := by decide +kernel
theorem dX9_word_48 : decode cX9_word 48 = .ok (.getfield 182, 3) := by decide +kernel
theorem dX9_word_51 : decode cX9_word 51 = .ok (.iload 4, 2) := by decide +kernel
theorem dX9_word_53 : decode cX9_word 53 = .ok (.iadd, 1) := by decide +kernel
theorem dX9_word_54 : decode cX9_word 54 = .ok (.laload, 1) := by decide +kernel
theorem dX9_word_55 : decode cX9_word 55 = .ok (.l2i, 1) := by decide +kernel
theorem dX9_word_56 : decode cX9_word 56 = .ok (.aload_n 0, 1) := by decide +kernel
theorem dX9_word_57 : decode cX9_word 57 = .ok (.getfield 81, 3) := by decide +kernel
theorem dX9_word_60 : decode cX9_word 60 = .ok (.iload 5, 2) := by decide +kernel
theorem dX9_word_62 : decode cX9_word 62 = .ok (.iaload, 1) := by decide +kernel
theorem dX9_word_63 : decode cX9_word 63 = .ok (.if_icmp .ne 12, 3) := by decide +kernel
theorem dX9_word_66 : decode cX9_word 66 = .ok (.iinc 4 1, 3) := by decide +kernel
theorem dX9_word_69 : decode cX9_word 69 = .ok (.iinc 5 1, 3) := by decide +kernel
theorem dX9_word_72 : decode cX9_word 72 = .ok (.goto (-48), 3) := by decide +kernel
theorem dX9_word_75 : decode cX9_word 75 = .ok (.aload_n 0, 1) := by decide +kernel
theorem dX9_word_76 : decode cX9_word 76 = .ok (.getfield 81, 3) := by decide +kernel
theorem dX9_word_79 : decode cX9_word 79 = .ok (.iload 5, 2) := by decide +kernel
theorem dX9_word_81 : decode cX9_word 81 = .ok (.iaload, 1) := by decide +kernel
theorem dX9_word_82 : decode cX9_word 82 = .ok (.ifCond .ne 11, 3) := by decide +kernel
theorem dX9_word_85 : decode cX9_word 85 = .ok (.aload_n 0, 1) := by decide +kernel
theorem dX9_word_86 : decode cX9_word 86 = .ok (.iload 4, 2) := by decide +kernel
theorem dX9_word_88 : decode cX9_word 88 = .ok (.putfield 176, 3) := by decide +kernel
theorem dX9_word_91 : decode cX9_word 91 = .ok (.iload_n 3, 1) := by decide +kernel
theorem dX9_word_92 : decode cX9_word 92 = .ok (.ireturn, 1) := by decide +kernel
theorem dX9_word_93 : decode cX9_word 93 = .ok (.iload 4, 2) := by decide +kernel
theorem dX9_word_95 : decode cX9_word 95 = .ok (.iload_n 2, 1) := by decide +kernel
theorem dX9_word_96 : decode cX9_word 96 = .ok (.if_icmp .le 8, 3) := by decide +kernel
theorem dX9_word_99 : decode cX9_word 99 = .ok (.iload 4, 2) := by decide +kernel
theorem dX9_word_101 : decode cX9_word 101 = .ok (.goto 4, 3) := by decide +kernel
theorem dX9_word_104 : decode cX9_word 104 = .ok (.iload_n 2, 1) := by decide +kernel
theorem dX9_word_105 : decode cX9_word 105 = .ok (.istore_n 2, 1) := by decide +kernel
theorem dX9_word_106 : decode cX9_word 106 = .ok (.aload_n 0, 1) := by decide +kernel
theorem dX9_word_107 : decode cX9_word 107 = .ok (.getfield 81, 3) := by decide +kernel
theorem dX9_word_110 : decode cX9_word 110 = .ok (.iload_n 1, 1) := by decide +kernel
theorem dX9_word_111 : decode cX9_word 111 = .ok (.iaload, 1) := by decide +kernel
theorem dX9_word_112 : decode cX9_word 112 = .ok (.ifCond .eq 9, 3) := by decide +kernel
theorem dX9_word_115 : decode cX9_word 115 = .ok (.iinc 1 1, 3) := by decide +kernel
theorem dX9_word_118 : decode cX9_word 118 = .ok (.goto (-12), 3) := by decide +kernel
theorem dX9_word_121 : decode cX9_word 121 = .ok (.iinc 1 1, 3) := by decide +kernel
theorem dX9_word_124 : decode cX9_word 124 = .ok (.iinc 3 1, 3) := by decide +kernel
theorem dX9_word_127 : decode cX9_word 127 = .ok (.goto (-118), 3) := by decide +kernel
theorem dX9_word_130 : decode cX9_word 130 = .ok (.aload_n 0, 1) := by decide +kernel
theorem dX9_word_131 : decode cX9_word 131 = .ok (.iload_n 2, 1) := by decide +kernel
theorem dX9_word_132 : decode cX9_word 132 = .ok (.putfield 173, 3) := by decide +kernel
theorem dX9_word_135 : decode cX9_word 135 = .ok (.iconst (-1), 1) := by decide +kernel
theorem dX9_word_136 : decode cX9_word 136 = .ok (.ireturn, 1) := by decide +kernel
theorem dX9_isDigit_0 : decode cX9_isDigit 0 = .ok (.aload_n 0, 1) := by decide +kernel
theorem dX9_isDigit_1 : decode cX9_isDigit 1 = .ok (.getfield 176, 3) := by decide +kernel
theorem dX9_isDigit_4 : decode cX9_isDigit 4 = .ok (.aload_n 0, 1) := by decide +kernel
theorem dX9_isDigit_5 : decode cX9_isDigit 5 = .ok (.getfield 179, 3) := by decide +kernel
theorem dX9_isDigit_8 : decode cX9_isDigit 8 = .ok (.if_icmp .ge 47, 3) := by decide +kernel
theorem dX9_isDigit_11 : decode cX9_isDigit 11 = .ok (.aload_n 0, 1) := by decide +kernel
theorem dX9_isDigit_12 : decode cX9_isDigit 12 = .ok (.getfield 75, 3) := by decide +kernel
theorem dX9_isDigit_15 : decode cX9_isDigit 15 = .ok (.aload_n 0, 1) := by decide +kernel
theorem dX9_isDigit_16 : decode cX9_isDigit 16 = .ok (.getfield 182, 3) := by decide +kernel
theorem dX9_isDigit_19 : decode cX9_isDigit 19 = .ok (.aload_n 0, 1) := by decide +kernel
theorem dX9_isDigit_20 : decode cX9_isDigit 20 = .ok (.getfield 176, 3) := by decide +kernel
theorem dX9_isDigit_23 : decode cX9_isDigit 23 = .ok (.iadd, 1) := by decide +kernel
theorem dX9_isDigit_24 : decode cX9_isDigit 24 = .ok (.laload, 1) := by decide +kernel
theorem dX9_isDigit_25 : decode cX9_isDigit 25 = .ok (.l2i, 1) := by decide +kernel
theorem dX9_isDigit_26 : decode cX9_isDigit 26 = .ok (.bipush 48, 2) := by decide +kernel
theorem dX9_isDigit_28 : decode cX9_isDigit 28 = .ok (.if_icmp .lt 27, 3) := by decide +kernel
theorem dX9_isDigit_31 : decode cX9_isDigit 31 = .ok (.aload_n 0, 1) := by decide +kernel
theorem dX9_isDigit_32 : decode cX9_isDigit 32 = .ok (.getfield 75, 3) := by decide +kernel
theorem dX9_isDigit_35 : decode cX9_isDigit 35 = .ok (.aload_n 0, 1) := by decide +kernel
theorem dX9_isDigit_36 : decode cX9_isDigit 36 = .ok (.getfield 182, 3) := by decide +kernel
theorem dX9_isDigit_39 : decode cX9_isDigit 39 = .ok (.aload_n 0, 1) := by decide +kernel
theorem dX9_isDigit_40 : decode cX9_isDigit 40 = .ok (.getfield 176, 3) := by decide +kernel
theorem dX9_isDigit_43 : decode cX9_isDigit 43 = .ok (.iadd, 1) := by decide +kernel
theorem dX9_isDigit_44 : decode cX9_isDigit 44 = .ok (.laload, 1) := by decide +kernel
theorem dX9_isDigit_45 : decode cX9_isDigit 45 = .ok (.l2i, 1) := by decide +kernel
theorem dX9_isDigit_46 : decode cX9_isDigit 46 = .ok (.bipush 57, 2) := by decide +kernel
theorem dX9_isDigit_48 : decode cX9_isDigit 48 = .ok (.if_icmp .gt 7, 3) := by decide +kernel
theorem dX9_isDigit_51 : decode cX9_isDigit 51 = .ok (.iconst 1, 1) := by decide +kernel
theorem dX9_isDigit_52 : decode cX9_isDigit 52 = .ok (.goto 4, 3) := by decide +kernel
theorem dX9_isDigit_55 : decode cX9_isDigit 55 = .ok (.iconst 0, 1) := by decide +kernel
theorem dX9_isDigit_56 : decode cX9_isDigit 56 = .ok (.ireturn, 1) := by decide +kernel
theorem dX9_number_0 : decode cX9_number 0 = .ok (.aload_n 0, 1) := by decide +kernel
theorem dX9_number_1 : decode cX9_number 1 = .ok (.getfield 176, 3) := by decide +kernel
theorem dX9_number_4 : decode cX9_number 4 = .ok (.istore_n 3, 1) := by decide +kernel
theorem dX9_number_5 : decode cX9_number 5 = .ok (.aload_n 0, 1) := by decide +kernel
theorem dX9_number_6 : decode cX9_number 6 = .ok (.iconst 0, 1) := by decide +kernel
theorem dX9_number_7 : decode cX9_number 7 = .ok (.putfield 185, 3) := by decide +kernel
theorem dX9_number_10 : decode cX9_number 10 = .ok (.aload_n 0, 1) := by decide +kernel
theorem dX9_number_11 : decode cX9_number 11 = .ok (.invokevirtual 188, 3) := by decide +kernel
theorem dX9_number_14 : decode cX9_number 14 = .ok (.ifCond .ne 12, 3) := by decide +kernel
theorem dX9_number_17 : decode cX9_number 17 = .ok (.aload_n 0, 1) := by decide +kernel
theorem dX9_number_18 : decode cX9_number 18 = .ok (.aload_n 0, 1) := by decide +kernel
theorem dX9_number_19 : decode cX9_number 19 = .ok (.getfield 176, 3) := by decide +kernel
theorem dX9_number_22 : decode cX9_number 22 = .ok (.invokevirtual 192, 3) := by decide +kernel
theorem dX9_number_25 : decode cX9_number 25 = .ok (.ireturn, 1) := by decide +kernel
theorem dX9_number_26 : decode cX9_number 26 = .ok (.iconst 0, 1) := by decide +kernel
theorem dX9_number_27 : decode cX9_number 27 = .ok (.istore 4, 2) := by decide +kernel
theorem dX9_number_29 : decode cX9_number 29 = .ok (.iload 4, 2) := by decide +kernel
theorem dX9_number_31 : decode cX9_number 31 = .ok (.iconst 3, 1) := by decide +kernel
theorem dX9_number_32 : decode cX9_number 32 = .ok (.if_icmp .ge 56, 3) := by decide +kernel
theorem dX9_number_35 : decode cX9_number 35 = .ok (.aload_n 0, 1) := by decide +kernel
theorem dX9_number_36 : decode cX9_number 36 = .ok (.invokevirtual 188, 3) := by decide +kernel
theorem dX9_number_39 : decode cX9_number 39 = .ok (.ifCond .eq 49, 3) := by decide +kernel
theorem dX9_number_42 : decode cX9_number 42 = .ok (.aload_n 0, 1) := by decide +kernel
theorem dX9_number_43 : decode cX9_number 43 = .ok (.bipush 10, 2) := by decide +kernel
theorem dX9_number_45 : decode cX9_number 45 = .ok (.aload_n 0, 1) := by decide +kernel
theorem dX9_number_46 : decode cX9_number 46 = .ok (.getfield 185, 3) := by decide +kernel
theorem dX9_number_49 : decode cX9_number 49 = .ok (.imul, 1) := by decide +kernel
theorem dX9_number_50 : decode cX9_number 50 = .ok (.aload_n 0, 1) := by decide +kernel
theorem dX9_number_51 : decode cX9_number 51 = .ok (.getfield 75, 3) := by decide +kernel
theorem dX9_number_54 : decode cX9_number 54 = .ok (.aload_n 0, 1) := by decide +kernel
theorem dX9_number_55 : decode cX9_number 55 = .ok (.getfield 182, 3) := by decide +kernel
theorem dX9_number_58 : decode cX9_number 58 = .ok (.aload_n 0, 1) := by decide +kernel
theorem dX9_number_59 : decode cX9_number 59 = .ok (.getfield 176, 3) := by decide +kernel
theorem dX9_number_62 : decode cX9_number 62 = .ok (.iadd, 1) := by decide +kernel
theorem dX9_number_63 : decode cX9_number 63 = .ok (.laload, 1) := by decide +kernel
theorem dX9_number_64 : decode cX9_number 64 = .ok (.l2i, 1) := by decide +kernel
theorem dX9_number_65 : decode cX9_number 65 = .ok (.iadd, 1) := by decide +kernel
theorem dX9_number_66 : decode cX9_number 66 = .ok (.bipush 48, 2) := by decide +kernel
theorem dX9_number_68 : decode cX9_number 68 = .ok (.isub, 1) := by decide +kernel
theorem dX9_number_69 : decode cX9_number 69 = .ok (.putfield 185, 3) := by decide +kernel
theorem dX9_number_72 : decode cX9_number 72 = .ok (.aload_n 0, 1) := by decide +kernel
theorem dX9_number_73 : decode cX9_number 73 = .ok (.dup, 1) := by decide +kernel
theorem dX9_number_74 : decode cX9_number 74 = .ok (.getfield 176, 3) := by decide +kernel
theorem dX9_number_77 : decode cX9_number 77 = .ok (.iconst 1, 1) := by decide +kernel
theorem dX9_number_78 : decode cX9_number 78 = .ok (.iadd, 1) := by decide +kernel
theorem dX9_number_79 : decode cX9_number 79 = .ok (.putfield 176, 3) := by decide +kernel
theorem dX9_number_82 : decode cX9_number 82 = .ok (.iinc 4 1, 3) := by decide +kernel
theorem dX9_number_85 : decode cX9_number 85 = .ok (.goto (-56), 3) := by decide +kernel
theorem dX9_number_88 : decode cX9_number 88 = .ok (.aload_n 0, 1) := by decide +kernel
theorem dX9_number_89 : decode cX9_number 89 = .ok (.getfield 185, 3) := by decide +kernel
theorem dX9_number_92 : decode cX9_number 92 = .ok (.iload_n 1, 1) := by decide +kernel
theorem dX9_number_93 : decode cX9_number 93 = .ok (.if_icmp .lt 11, 3) := by decide +kernel
theorem dX9_number_96 : decode cX9_number 96 = .ok (.aload_n 0, 1) := by decide +kernel
theorem dX9_number_97 : decode cX9_number 97 = .ok (.getfield 185, 3) := by decide +kernel
theorem dX9_number_100 : decode cX9_number 100 = .ok (.iload_n 2, 1) := by decide +kernel
theorem dX9_number_101 : decode cX9_number 101 = .ok (.if_icmp .le 11, 3) := by decide +kernel
theorem dX9_number_104 : decode cX9_number 104 = .ok (.aload_n 0, 1) := by decide +kernel
theorem dX9_number_105 : decode cX9_number 105 = .ok (.iload_n 3, 1) := by decide +kernel
theorem dX9_number_106 : decode cX9_number 106 = .ok (.invokevirtual 192, 3) := by decide +kernel
theorem dX9_number_109 : decode cX9_number 109 = .ok (.ifCond .eq 7, 3) := by decide +kernel
theorem dX9_number_112 : decode cX9_number 112 = .ok (.iconst 1, 1) := by decide +kernel
theorem dX9_number_113 : decode cX9_number 113 = .ok (.goto 4, 3) := by decide +kernel
theorem dX9_number_116 : decode cX9_number 116 = .ok (.iconst 0, 1) := by decide +kernel
theorem dX9_number_117 : decode cX9_number 117 = .ok (.ireturn, 1) := by decide +kernel
theorem dX9_low_0 : decode cX9_low 0 = .ok (.iload_n 1, 1) := by decide +kernel
theorem dX9_low_1 : decode cX9_low 1 = .ok (.ifCond .ne 7, 3) := by decide +kernel
theorem dX9_low_4 : decode cX9_low 4 = .ok (.iconst 2, 1) := by decide +kernel
theorem dX9_low_5 : decode cX9_low 5 = .ok (.goto 33, 3) := by decide +kernel
theorem dX9_low_8 : decode cX9_low 8 = .ok (.iload_n 1, 1) := by decide +kernel
theorem dX9_low_9 : decode cX9_low 9 = .ok (.iconst 1, 1) := by decide +kernel
theorem dX9_low_10 : decode cX9_low 10 = .ok (.if_icmp .ne 8, 3) := by decide +kernel
theorem dX9_low_13 : decode cX9_low 13 = .ok (.iload_n 2, 1) := by decide +kernel
theorem dX9_low_14 : decode cX9_low 14 = .ok (.iconst 2, 1) := by decide +kernel
theorem dX9_low_15 : decode cX9_low 15 = .ok (.if_icmp .eq 18, 3) := by decide +kernel
theorem dX9_low_18 : decode cX9_low 18 = .ok (.iload_n 1, 1) := by decide +kernel
theorem dX9_low_19 : decode cX9_low 19 = .ok (.iconst 2, 1) := by decide +kernel
theorem dX9_low_20 : decode cX9_low 20 = .ok (.if_icmp .ne 8, 3) := by decide +kernel
theorem dX9_low_23 : decode cX9_low 23 = .ok (.iload_n 2, 1) := by decide +kernel
theorem dX9_low_24 : decode cX9_low 24 = .ok (.iconst 2, 1) := by decide +kernel
theorem dX9_low_25 : decode cX9_low 25 = .ok (.if_icmp .eq 8, 3) := by decide +kernel
theorem dX9_low_28 : decode cX9_low 28 = .ok (.iload_n 1, 1) := by decide +kernel
theorem dX9_low_29 : decode cX9_low 29 = .ok (.iconst 4, 1) := by decide +kernel
theorem dX9_low_30 : decode cX9_low 30 = .ok (.if_icmp .ne 7, 3) := by decide +kernel
theorem dX9_low_33 : decode cX9_low 33 = .ok (.iconst 1, 1) := by decide +kernel
theorem dX9_low_34 : decode cX9_low 34 = .ok (.goto 4, 3) := by decide +kernel
theorem dX9_low_37 : decode cX9_low 37 = .ok (.iconst 0, 1) := by decide +kernel
theorem dX9_low_38 : decode cX9_low 38 = .ok (.ireturn, 1) := by decide +kernel
theorem dX9_top_0 : decode cX9_top 0 = .ok (.iload_n 1, 1) := by decide +kernel
theorem dX9_top_1 : decode cX9_top 1 = .ok (.tableswitch 122 0 4 #[35, 38, 75, 100, 119], 35) := by decide +kernel
theorem dX9_top_36 : decode cX9_top 36 = .ok (.bipush 24, 2) := by decide +kernel
theorem dX9_top_38 : decode cX9_top 38 = .ok (.ireturn, 1) := by decide +kernel
theorem dX9_top_39 : decode cX9_top 39 = .ok (.iload_n 2, 1) := by decide +kernel
theorem dX9_top_40 : decode cX9_top 40 = .ok (.ifCond .ne 8, 3) := by decide +kernel
theorem dX9_top_43 : decode cX9_top 43 = .ok (.bipush 6, 2) := by decide +kernel
theorem dX9_top_45 : decode cX9_top 45 = .ok (.goto 30, 3) := by decide +kernel
theorem dX9_top_48 : decode cX9_top 48 = .ok (.iload_n 2, 1) := by decide +kernel
theorem dX9_top_49 : decode cX9_top 49 = .ok (.iconst 1, 1) := by decide +kernel
theorem dX9_top_50 : decode cX9_top 50 = .ok (.if_icmp .ne 12, 3) := by decide +kernel
theorem dX9_top_53 : decode cX9_top 53 = .ok (.aload_n 0, 1) := by decide +kernel
theorem dX9_top_54 : decode cX9_top 54 = .ok (.getfield 7, 3) := by decide +kernel
theorem dX9_top_57 : decode cX9_top 57 = .ok (.iconst 1, 1) := by decide +kernel
theorem dX9_top_58 : decode cX9_top 58 = .ok (.isub, 1) := by decide +kernel
theorem dX9_top_59 : decode cX9_top 59 = .ok (.goto 16, 3) := by decide +kernel
theorem dX9_top_62 : decode cX9_top 62 = .ok (.iload_n 2, 1) := by decide +kernel
theorem dX9_top_63 : decode cX9_top 63 = .ok (.iconst 2, 1) := by decide +kernel
theorem dX9_top_64 : decode cX9_top 64 = .ok (.if_icmp .ne 8, 3) := by decide +kernel
theorem dX9_top_67 : decode cX9_top 67 = .ok (.bipush 10, 2) := by decide +kernel
theorem dX9_top_69 : decode cX9_top 69 = .ok (.goto 6, 3) := by decide +kernel
theorem dX9_top_72 : decode cX9_top 72 = .ok (.sipush 255, 3) := by decide +kernel
theorem dX9_top_75 : decode cX9_top 75 = .ok (.ireturn, 1) := by decide +kernel
theorem dX9_top_76 : decode cX9_top 76 = .ok (.iload_n 2, 1) := by decide +kernel
theorem dX9_top_77 : decode cX9_top 77 = .ok (.ifCond .ne 12, 3) := by decide +kernel
theorem dX9_top_80 : decode cX9_top 80 = .ok (.aload_n 0, 1) := by decide +kernel
theorem dX9_top_81 : decode cX9_top 81 = .ok (.getfield 7, 3) := by decide +kernel
theorem dX9_top_84 : decode cX9_top 84 = .ok (.iconst 1, 1) := by decide +kernel
theorem dX9_top_85 : decode cX9_top 85 = .ok (.isub, 1) := by decide +kernel
theorem dX9_top_86 : decode cX9_top 86 = .ok (.goto 14, 3) := by decide +kernel
theorem dX9_top_89 : decode cX9_top 89 = .ok (.iload_n 2, 1) := by decide +kernel
theorem dX9_top_90 : decode cX9_top 90 = .ok (.iconst 1, 1) := by decide +kernel
theorem dX9_top_91 : decode cX9_top 91 = .ok (.if_icmp .ne 7, 3) := by decide +kernel
theorem dX9_top_94 : decode cX9_top 94 = .ok (.iconst 1, 1) := by decide +kernel
theorem dX9_top_95 : decode cX9_top 95 = .ok (.goto 5, 3) := by decide +kernel
theorem dX9_top_98 : decode cX9_top 98 = .ok (.bipush 10, 2) := by decide +kernel
theorem dX9_top_100 : decode cX9_top 100 = .ok (.ireturn, 1) := by decide +kernel
theorem dX9_top_101 : decode cX9_top 101 = .ok (.iload_n 2, 1) := by decide +kernel
theorem dX9_top_102 : decode cX9_top 102 = .ok (.ifCond .ne 8, 3) := by decide +kernel
theorem dX9_top_105 : decode cX9_top 105 = .ok (.bipush 10, 2) := by decide +kernel
theorem dX9_top_107 : decode cX9_top 107 = .ok (.goto 12, 3) := by decide +kernel
theorem dX9_top_110 : decode cX9_top 110 = .ok (.bipush 10, 2) := by decide +kernel
theorem dX9_top_112 : decode cX9_top 112 = .ok (.aload_n 0, 1) := by decide +kernel
theorem dX9_top_113 : decode cX9_top 113 = .ok (.getfield 84, 3) := by decide +kernel
theorem dX9_top_116 : decode cX9_top 116 = .ok (.iconst 0, 1) := by decide +kernel
theorem dX9_top_117 : decode cX9_top 117 = .ok (.iaload, 1) := by decide +kernel
theorem dX9_top_118 : decode cX9_top 118 = .ok (.isub, 1) := by decide +kernel
theorem dX9_top_119 : decode cX9_top 119 = .ok (.ireturn, 1) := by decide +kernel
theorem dX9_top_120 : decode cX9_top 120 = .ok (.bipush 9, 2) := by decide +kernel
theorem dX9_top_122 : decode cX9_top 122 = .ok (.ireturn, 1) := by decide +kernel
theorem dX9_top_123 : decode cX9_top 123 = .ok (.bipush 7, 2) := by decide +kernel
theorem dX9_top_125 : decode cX9_top 125 = .ok (.ireturn, 1) := by decide +kernel
theorem dX9_isFull_0 : decode cX9_isFull 0 = .ok (.iload_n 1, 1) := by decide +kernel
theorem dX9_isFull_1 : decode cX9_isFull 1 = .ok (.iconst 1, 1) := by decide +kernel
theorem dX9_isFull_2 : decode cX9_isFull 2 = .ok (.if_icmp .ne 12, 3) := by decide +kernel
theorem dX9_isFull_5 : decode cX9_isFull 5 = .ok (.aload_n 0, 1) := by decide +kernel
theorem dX9_isFull_6 : decode cX9_isFull 6 = .ok (.getfield 115, 3) := by decide +kernel
theorem dX9_isFull_9 : decode cX9_isFull 9 = .ok (.bipush 8, 2) := by decide +kernel
theorem dX9_isFull_11 : decode cX9_isFull 11 = .ok (.if_icmp .eq 17, 3) := by decide +kernel
theorem dX9_isFull_14 : decode cX9_isFull 14 = .ok (.iload_n 1, 1) := by decide +kernel
theorem dX9_isFull_15 : decode cX9_isFull 15 = .ok (.iconst 2, 1) := by decide +kernel
theorem dX9_isFull_16 : decode cX9_isFull 16 = .ok (.if_icmp .ne 16, 3) := by decide +kernel
theorem dX9_isFull_19 : decode cX9_isFull 19 = .ok (.aload_n 0, 1) := by decide +kernel
theorem dX9_isFull_20 : decode cX9_isFull 20 = .ok (.getfield 143, 3) := by decide +kernel
theorem dX9_isFull_23 : decode cX9_isFull 23 = .ok (.bipush 8, 2) := by decide +kernel
theorem dX9_isFull_25 : decode cX9_isFull 25 = .ok (.if_icmp .ne 7, 3) := by decide +kernel
theorem dX9_isFull_28 : decode cX9_isFull 28 = .ok (.iconst 1, 1) := by decide +kernel
theorem dX9_isFull_29 : decode cX9_isFull 29 = .ok (.goto 4, 3) := by decide +kernel
theorem dX9_isFull_32 : decode cX9_isFull 32 = .ok (.iconst 0, 1) := by decide +kernel
theorem dX9_isFull_33 : decode cX9_isFull 33 = .ok (.ireturn, 1) := by decide +kernel
theorem dX9_isWordAt_0 : decode cX9_isWordAt 0 = .ok (.iconst 0, 1) := by decide +kernel
theorem dX9_isWordAt_1 : decode cX9_isWordAt 1 = .ok (.istore_n 2, 1) := by decide +kernel
theorem dX9_isWordAt_2 : decode cX9_isWordAt 2 = .ok (.iconst 0, 1) := by decide +kernel
theorem dX9_isWordAt_3 : decode cX9_isWordAt 3 = .ok (.istore_n 3, 1) := by decide +kernel
theorem dX9_isWordAt_4 : decode cX9_isWordAt 4 = .ok (.iload_n 3, 1) := by decide +kernel
theorem dX9_isWordAt_5 : decode cX9_isWordAt 5 = .ok (.iload_n 1, 1) := by decide +kernel
theorem dX9_isWordAt_6 : decode cX9_isWordAt 6 = .ok (.if_icmp .ge 26, 3) := by decide +kernel
theorem dX9_isWordAt_9 : decode cX9_isWordAt 9 = .ok (.iload_n 3, 1) := by decide +kernel
theorem dX9_isWordAt_10 : decode cX9_isWordAt 10 = .ok (.aload_n 0, 1) := by decide +kernel
theorem dX9_isWordAt_11 : decode cX9_isWordAt 11 = .ok (.getfield 81, 3) := by decide +kernel
theorem dX9_isWordAt_14 : decode cX9_isWordAt 14 = .ok (.iload_n 2, 1) := by decide +kernel
theorem dX9_isWordAt_15 : decode cX9_isWordAt 15 = .ok (.iaload, 1) := by decide +kernel
theorem dX9_isWordAt_16 : decode cX9_isWordAt 16 = .ok (.ifCond .ne 7, 3) := by decide +kernel
theorem dX9_isWordAt_19 : decode cX9_isWordAt 19 = .ok (.iconst 1, 1) := by decide +kernel
theorem dX9_isWordAt_20 : decode cX9_isWordAt 20 = .ok (.goto 4, 3) := by decide +kernel
theorem dX9_isWordAt_23 : decode cX9_isWordAt 23 = .ok (.iconst 0, 1) := by decide +kernel
theorem dX9_isWordAt_24 : decode cX9_isWordAt 24 = .ok (.iadd, 1) := by decide +kernel
theorem dX9_isWordAt_25 : decode cX9_isWordAt 25 = .ok (.istore_n 3, 1) := by decide +kernel
theorem dX9_isWordAt_26 : decode cX9_isWordAt 26 = .ok (.iinc 2 1, 3) := by decide +kernel
theorem dX9_isWordAt_29 : decode cX9_isWordAt 29 = .ok (.goto (-25), 3) := by decide +kernel
theorem dX9_isWordAt_32 : decode cX9_isWordAt 32 = .ok (.aload_n 0, 1) := by decide +kernel
theorem dX9_isWordAt_33 : decode cX9_isWordAt 33 = .ok (.getfield 176, 3) := by decide +kernel
theorem dX9_isWordAt_36 : decode cX9_isWordAt 36 = .ok (.istore_n 3, 1) := by decide +kernel
theorem dX9_isWordAt_37 : decode cX9_isWordAt 37 = .ok (.aload_n 0, 1) := by decide +kernel
theorem dX9_isWordAt_38 : decode cX9_isWordAt 38 = .ok (.getfield 81, 3) := by decide +kernel
theorem dX9_isWordAt_41 : decode cX9_isWordAt 41 = .ok (.iload_n 2, 1) := by decide +kernel
theorem dX9_isWordAt_42 : decode cX9_isWordAt 42 = .ok (.iaload, 1) := by decide +kernel
theorem dX9_isWordAt_43 : decode cX9_isWordAt 43 = .ok (.bipush 32, 2) := by decide +kernel
theorem dX9_isWordAt_45 : decode cX9_isWordAt 45 = .ok (.if_icmp .le 41, 3) := by decide +kernel
theorem dX9_isWordAt_48 : decode cX9_isWordAt 48 = .ok (.iload_n 3, 1) := by decide +kernel
theorem dX9_isWordAt_49 : decode cX9_isWordAt 49 = .ok (.aload_n 0, 1) := by decide +kernel
theorem dX9_isWordAt_50 : decode cX9_isWordAt 50 = .ok (.getfield 179, 3) := by decide +kernel
theorem dX9_isWordAt_53 : decode cX9_isWordAt 53 = .ok (.if_icmp .ge 33, 3) := by decide +kernel
theorem dX9_isWordAt_56 : decode cX9_isWordAt 56 = .ok (.aload_n 0, 1) := by decide +kernel
theorem dX9_isWordAt_57 : decode cX9_isWordAt 57 = .ok (.getfield 75, 3) := by decide +kernel
theorem dX9_isWordAt_60 : decode cX9_isWordAt 60 = .ok (.aload_n 0, 1) := by decide +kernel
theorem dX9_isWordAt_61 : decode cX9_isWordAt 61 = .ok (.getfield 182, 3) := by decide +kernel
theorem dX9_isWordAt_64 : decode cX9_isWordAt 64 = .ok (.iload_n 3, 1) := by decide +kernel
theorem dX9_isWordAt_65 : decode cX9_isWordAt 65 = .ok (.iadd, 1) := by decide +kernel
theorem dX9_isWordAt_66 : decode cX9_isWordAt 66 = .ok (.laload, 1) := by decide +kernel
theorem dX9_isWordAt_67 : decode cX9_isWordAt 67 = .ok (.l2i, 1) := by decide +kernel
theorem dX9_isWordAt_68 : decode cX9_isWordAt 68 = .ok (.aload_n 0, 1) := by decide +kernel
theorem dX9_isWordAt_69 : decode cX9_isWordAt 69 = .ok (.getfield 81, 3) := by decide +kernel
theorem dX9_isWordAt_72 : decode cX9_isWordAt 72 = .ok (.iload_n 2, 1) := by decide +kernel
theorem dX9_isWordAt_73 : decode cX9_isWordAt 73 = .ok (.iaload, 1) := by decide +kernel
theorem dX9_isWordAt_74 : decode cX9_isWordAt 74 = .ok (.if_icmp .ne 12, 3) := by decide +kernel
theorem dX9_isWordAt_77 : decode cX9_isWordAt 77 = .ok (.iinc 3 1, 3) := by decide +kernel
theorem dX9_isWordAt_80 : decode cX9_isWordAt 80 = .ok (.iinc 2 1, 3) := by decide +kernel
theorem dX9_isWordAt_83 : decode cX9_isWordAt 83 = .ok (.goto (-46), 3) := by decide +kernel
theorem dX9_isWordAt_86 : decode cX9_isWordAt 86 = .ok (.aload_n 0, 1) := by decide +kernel
theorem dX9_isWordAt_87 : decode cX9_isWordAt 87 = .ok (.getfield 81, 3) := by decide +kernel
theorem dX9_isWordAt_90 : decode cX9_isWordAt 90 = .ok (.iload_n 2, 1) := by decide +kernel
theorem dX9_isWordAt_91 : decode cX9_isWordAt 91 = .ok (.iaload, 1) := by decide +kernel
theorem dX9_isWordAt_92 : decode cX9_isWordAt 92 = .ok (.bipush 32, 2) := by decide +kernel
theorem dX9_isWordAt_94 : decode cX9_isWordAt 94 = .ok (.if_icmp .gt 7, 3) := by decide +kernel
theorem dX9_isWordAt_97 : decode cX9_isWordAt 97 = .ok (.iconst 1, 1) := by decide +kernel
theorem dX9_isWordAt_98 : decode cX9_isWordAt 98 = .ok (.goto 4, 3) := by decide +kernel
theorem dX9_isWordAt_101 : decode cX9_isWordAt 101 = .ok (.iconst 0, 1) := by decide +kernel
theorem dX9_isWordAt_102 : decode cX9_isWordAt 102 = .ok (.ireturn, 1) := by decide +kernel
theorem dX9_item_0 : decode cX9_item 0 = .ok (.iconst 0, 1) := by decide +kernel
theorem dX9_item_1 : decode cX9_item 1 = .ok (.istore_n 1, 1) := by decide +kernel
theorem dX9_item_2 : decode cX9_item 2 = .ok (.iload_n 1, 1) := by decide +kernel
theorem dX9_item_3 : decode cX9_item 3 = .ok (.bipush 6, 2) := by decide +kernel
theorem dX9_item_5 : decode cX9_item 5 = .ok (.if_icmp .ge 34, 3) := by decide +kernel
theorem dX9_item_8 : decode cX9_item 8 = .ok (.aload_n 0, 1) := by decide +kernel
theorem dX9_item_9 : decode cX9_item 9 = .ok (.iload_n 1, 1) := by decide +kernel
theorem dX9_item_10 : decode cX9_item 10 = .ok (.invokevirtual 195, 3) := by decide +kernel
theorem dX9_item_13 : decode cX9_item 13 = .ok (.ifCond .eq 20, 3) := by decide +kernel
theorem dX9_item_16 : decode cX9_item 16 = .ok (.aload_n 0, 1) := by decide +kernel
theorem dX9_item_17 : decode cX9_item 17 = .ok (.iload_n 1, 1) := by decide +kernel
theorem dX9_item_18 : decode cX9_item 18 = .ok (.invokevirtual 198, 3) := by decide +kernel
theorem dX9_item_21 : decode cX9_item 21 = .ok (.ifCond .eq 12, 3) := by decide +kernel
theorem dX9_item_24 : decode cX9_item 24 = .ok (.aload_n 0, 1) := by decide +kernel
theorem dX9_item_25 : decode cX9_item 25 = .ok (.aload_n 0, 1) := by decide +kernel
theorem dX9_item_26 : decode cX9_item 26 = .ok (.getfield 176, 3) := by decide +kernel
theorem dX9_item_29 : decode cX9_item 29 = .ok (.invokevirtual 192, 3) := by decide +kernel
theorem dX9_item_32 : decode cX9_item 32 = .ok (.ireturn, 1) := by decide +kernel
theorem dX9_item_33 : decode cX9_item 33 = .ok (.iinc 1 1, 3) := by decide +kernel
theorem dX9_item_36 : decode cX9_item 36 = .ok (.goto (-34), 3) := by decide +kernel
theorem dX9_item_39 : decode cX9_item 39 = .ok (.aload_n 0, 1) := by decide +kernel
theorem dX9_item_40 : decode cX9_item 40 = .ok (.getfield 176, 3) := by decide +kernel
theorem dX9_item_43 : decode cX9_item 43 = .ok (.istore_n 1, 1) := by decide +kernel
theorem dX9_item_44 : decode cX9_item 44 = .ok (.aload_n 0, 1) := by decide +kernel
theorem dX9_item_45 : decode cX9_item 45 = .ok (.invokevirtual 201, 3) := by decide +kernel
theorem dX9_item_48 : decode cX9_item 48 = .ok (.istore_n 2, 1) := by decide +kernel
theorem dX9_item_49 : decode cX9_item 49 = .ok (.iload_n 2, 1) := by decide +kernel
theorem dX9_item_50 : decode cX9_item 50 = .ok (.iconst (-1), 1) := by decide +kernel
theorem dX9_item_51 : decode cX9_item 51 = .ok (.if_icmp .ne 5, 3) := by decide +kernel
theorem dX9_item_54 : decode cX9_item 54 = .ok (.iconst 0, 1) := by decide +kernel
theorem dX9_item_55 : decode cX9_item 55 = .ok (.ireturn, 1) := by decide +kernel
theorem dX9_item_56 : decode cX9_item 56 = .ok (.iload_n 2, 1) := by decide +kernel
theorem dX9_item_57 : decode cX9_item 57 = .ok (.iconst 1, 1) := by decide +kernel
theorem dX9_item_58 : decode cX9_item 58 = .ok (.if_icmp .ne 12, 3) := by decide +kernel
theorem dX9_item_61 : decode cX9_item 61 = .ok (.aload_n 0, 1) := by decide +kernel
theorem dX9_item_62 : decode cX9_item 62 = .ok (.getfield 115, 3) := by decide +kernel
theorem dX9_item_65 : decode cX9_item 65 = .ok (.bipush 8, 2) := by decide +kernel
theorem dX9_item_67 : decode cX9_item 67 = .ok (.if_icmp .eq 17, 3) := by decide +kernel
theorem dX9_item_70 : decode cX9_item 70 = .ok (.iload_n 2, 1) := by decide +kernel
theorem dX9_item_71 : decode cX9_item 71 = .ok (.iconst 2, 1) := by decide +kernel
theorem dX9_item_72 : decode cX9_item 72 = .ok (.if_icmp .ne 18, 3) := by decide +kernel
theorem dX9_item_75 : decode cX9_item 75 = .ok (.aload_n 0, 1) := by decide +kernel
theorem dX9_item_76 : decode cX9_item 76 = .ok (.getfield 143, 3) := by decide +kernel
theorem dX9_item_79 : decode cX9_item 79 = .ok (.bipush 8, 2) := by decide +kernel
theorem dX9_item_81 : decode cX9_item 81 = .ok (.if_icmp .ne 9, 3) := by decide +kernel
theorem dX9_item_84 : decode cX9_item 84 = .ok (.aload_n 0, 1) := by decide +kernel
theorem dX9_item_85 : decode cX9_item 85 = .ok (.iload_n 1, 1) := by decide +kernel
theorem dX9_item_86 : decode cX9_item 86 = .ok (.invokevirtual 192, 3) := by decide +kernel
theorem dX9_item_89 : decode cX9_item 89 = .ok (.ireturn, 1) := by decide +kernel
theorem dX9_item_90 : decode cX9_item 90 = .ok (.iload_n 2, 1) := by decide +kernel
theorem dX9_item_91 : decode cX9_item 91 = .ok (.iconst 1, 1) := by decide +kernel
theorem dX9_item_92 : decode cX9_item 92 = .ok (.if_icmp .ne 7, 3) := by decide +kernel
theorem dX9_item_95 : decode cX9_item 95 = .ok (.iconst 4, 1) := by decide +kernel
theorem dX9_item_96 : decode cX9_item 96 = .ok (.goto 22, 3) := by decide +kernel
theorem dX9_item_99 : decode cX9_item 99 = .ok (.iload_n 2, 1) := by decide +kernel
theorem dX9_item_100 : decode cX9_item 100 = .ok (.iconst 2, 1) := by decide +kernel
theorem dX9_item_101 : decode cX9_item 101 = .ok (.if_icmp .ne 7, 3) := by decide +kernel
theorem dX9_item_104 : decode cX9_item 104 = .ok (.iconst 3, 1) := by decide +kernel
theorem dX9_item_105 : decode cX9_item 105 = .ok (.goto 13, 3) := by decide +kernel
theorem dX9_item_108 : decode cX9_item 108 = .ok (.iload_n 2, 1) := by decide +kernel
theorem dX9_item_109 : decode cX9_item 109 = .ok (.iconst 3, 1) := by decide +kernel
theorem dX9_item_110 : decode cX9_item 110 = .ok (.if_icmp .ne 7, 3) := by decide +kernel
theorem dX9_item_113 : decode cX9_item 113 = .ok (.iconst 2, 1) := by decide +kernel
theorem dX9_item_114 : decode cX9_item 114 = .ok (.goto 4, 3) := by decide +kernel
theorem dX9_item_117 : decode cX9_item 117 = .ok (.iconst 1, 1) := by decide +kernel
theorem dX9_item_118 : decode cX9_item 118 = .ok (.istore_n 3, 1) := by decide +kernel
theorem dX9_item_119 : decode cX9_item 119 = .ok (.iconst 0, 1) := by decide +kernel
theorem dX9_item_120 : decode cX9_item 120 = .ok (.istore 4, 2) := by decide +kernel
theorem dX9_item_122 : decode cX9_item 122 = .ok (.iload 4, 2) := by decide +kernel
theorem dX9_item_124 : decode cX9_item 124 = .ok (.iload_n 3, 1) := by decide +kernel
theorem dX9_item_125 : decode cX9_item 125 = .ok (.if_icmp .ge 98, 3) := by decide +kernel
theorem dX9_item_128 : decode cX9_item 128 = .ok (.iload 4, 2) := by decide +kernel
theorem dX9_item_130 : decode cX9_item 130 = .ok (.ifCond .le 53, 3) := by decide +kernel
theorem dX9_item_133 : decode cX9_item 133 = .ok (.aload_n 0, 1) := by decide +kernel
theorem dX9_item_134 : decode cX9_item 134 = .ok (.getfield 176, 3) := by decide +kernel
theorem dX9_item_137 : decode cX9_item 137 = .ok (.aload_n 0, 1) := by decide +kernel
theorem dX9_item_138 : decode cX9_item 138 = .ok (.getfield 179, 3) := by decide +kernel
theorem dX9_item_141 : decode cX9_item 141 = .ok (.if_icmp .ge 23, 3) := by decide +kernel
theorem dX9_item_144 : decode cX9_item 144 = .ok (.aload_n 0, 1) := by decide +kernel
theorem dX9_item_145 : decode cX9_item 145 = .ok (.getfield 75, 3) := by decide +kernel
theorem dX9_item_148 : decode cX9_item 148 = .ok (.aload_n 0, 1) := by decide +kernel
theorem dX9_item_149 : decode cX9_item 149 = .ok (.getfield 182, 3) := by decide +kernel
theorem dX9_item_152 : decode cX9_item 152 = .ok (.aload_n 0, 1) := by decide +kernel
theorem dX9_item_153 : decode cX9_item 153 = .ok (.getfield 176, 3) := by decide +kernel
theorem dX9_item_156 : decode cX9_item 156 = .ok (.iadd, 1) := by decide +kernel
theorem dX9_item_157 : decode cX9_item 157 = .ok (.laload, 1) := by decide +kernel
theorem dX9_item_158 : decode cX9_item 158 = .ok (.l2i, 1) := by decide +kernel
theorem dX9_item_159 : decode cX9_item 159 = .ok (.bipush 32, 2) := by decide +kernel
theorem dX9_item_161 : decode cX9_item 161 = .ok (.if_icmp .eq 12, 3) := by decide +kernel
theorem dX9_item_164 : decode cX9_item 164 = .ok (.aload_n 0, 1) := by decide +kernel
theorem dX9_item_165 : decode cX9_item 165 = .ok (.aload_n 0, 1) := by decide +kernel
theorem dX9_item_166 : decode cX9_item 166 = .ok (.getfield 176, 3) := by decide +kernel
theorem dX9_item_169 : decode cX9_item 169 = .ok (.invokevirtual 192, 3) := by decide +kernel
theorem dX9_item_172 : decode cX9_item 172 = .ok (.ireturn, 1) := by decide +kernel
theorem dX9_item_173 : decode cX9_item 173 = .ok (.aload_n 0, 1) := by decide +kernel
theorem dX9_item_174 : decode cX9_item 174 = .ok (.dup, 1) := by decide +kernel
theorem dX9_item_175 : decode cX9_item 175 = .ok (.getfield 176, 3) := by decide +kernel
theorem dX9_item_178 : decode cX9_item 178 = .ok (.iconst 1, 1) := by decide +kernel
theorem dX9_item_179 : decode cX9_item 179 = .ok (.iadd, 1) := by decide +kernel
theorem dX9_item_180 : decode cX9_item 180 = .ok (.putfield 176, 3) := by decide +kernel
theorem dX9_item_183 : decode cX9_item 183 = .ok (.aload_n 0, 1) := by decide +kernel
theorem dX9_item_184 : decode cX9_item 184 = .ok (.aload_n 0, 1) := by decide +kernel
theorem dX9_item_185 : decode cX9_item 185 = .ok (.iload_n 2, 1) := by decide +kernel
theorem dX9_item_186 : decode cX9_item 186 = .ok (.iload 4, 2) := by decide +kernel
theorem dX9_item_188 : decode cX9_item 188 = .ok (.invokevirtual 205, 3) := by decide +kernel
theorem dX9_item_191 : decode cX9_item 191 = .ok (.aload_n 0, 1) := by decide +kernel
theorem dX9_item_192 : decode cX9_item 192 = .ok (.iload_n 2, 1) := by decide +kernel
theorem dX9_item_193 : decode cX9_item 193 = .ok (.iload 4, 2) := by decide +kernel
theorem dX9_item_195 : decode cX9_item 195 = .ok (.invokevirtual 208, 3) := by decide +kernel
theorem dX9_item_198 : decode cX9_item 198 = .ok (.invokevirtual 211, 3) := by decide +kernel
theorem dX9_item_201 : decode cX9_item 201 = .ok (.ifCond .ne 5, 3) := by decide +kernel
theorem dX9_item_204 : decode cX9_item 204 = .ok (.iconst 0, 1) := by decide +kernel
theorem dX9_item_205 : decode cX9_item 205 = .ok (.ireturn, 1) := by decide +kernel
theorem dX9_item_206 : decode cX9_item 206 = .ok (.aload_n 0, 1) := by decide +kernel
theorem dX9_item_207 : decode cX9_item 207 = .ok (.getfield 84, 3) := by decide +kernel
theorem dX9_item_210 : decode cX9_item 210 = .ok (.iload 4, 2) := by decide +kernel
theorem dX9_item_212 : decode cX9_item 212 = .ok (.aload_n 0, 1) := by decide +kernel
theorem dX9_item_213 : decode cX9_item 213 = .ok (.getfield 185, 3) := by decide +kernel
theorem dX9_item_216 : decode cX9_item 216 = .ok (.iastore, 1) := by decide +kernel
theorem dX9_item_217 : decode cX9_item 217 = .ok (.iinc 4 1, 3) := by decide +kernel
theorem dX9_item_220 : decode cX9_item 220 = .ok (.goto (-98), 3) := by decide +kernel
theorem dX9_item_223 : decode cX9_item 223 = .ok (.iload_n 2, 1) := by decide +kernel
theorem dX9_item_224 : decode cX9_item 224 = .ok (.tableswitch 143 0 4 #[36, 49, 81, 107, 130], 36) := by decide +kernel
theorem dX9_item_260 : decode cX9_item 260 = .ok (.aload_n 0, 1) := by decide +kernel
theorem dX9_item_261 : decode cX9_item 261 = .ok (.aload_n 0, 1) := by decide +kernel
theorem dX9_item_262 : decode cX9_item 262 = .ok (.getfield 84, 3) := by decide +kernel
theorem dX9_item_265 : decode cX9_item 265 = .ok (.iconst 0, 1) := by decide +kernel
theorem dX9_item_266 : decode cX9_item 266 = .ok (.iaload, 1) := by decide +kernel
theorem dX9_item_267 : decode cX9_item 267 = .ok (.invokevirtual 146, 3) := by decide +kernel
theorem dX9_item_270 : decode cX9_item 270 = .ok (.goto 107, 3) := by decide +kernel
theorem dX9_item_273 : decode cX9_item 273 = .ok (.aload_n 0, 1) := by decide +kernel
theorem dX9_item_274 : decode cX9_item 274 = .ok (.aload_n 0, 1) := by decide +kernel
theorem dX9_item_275 : decode cX9_item 275 = .ok (.getfield 84, 3) := by decide +kernel
theorem dX9_item_278 : decode cX9_item 278 = .ok (.iconst 0, 1) := by decide +kernel
theorem dX9_item_279 : decode cX9_item 279 = .ok (.iaload, 1) := by decide +kernel
theorem dX9_item_280 : decode cX9_item 280 = .ok (.aload_n 0, 1) := by decide +kernel
theorem dX9_item_281 : decode cX9_item 281 = .ok (.getfield 84, 3) := by decide +kernel
theorem dX9_item_284 : decode cX9_item 284 = .ok (.iconst 1, 1) := by decide +kernel
theorem dX9_item_285 : decode cX9_item 285 = .ok (.iaload, 1) := by decide +kernel
theorem dX9_item_286 : decode cX9_item 286 = .ok (.aload_n 0, 1) := by decide +kernel
theorem dX9_item_287 : decode cX9_item 287 = .ok (.getfield 84, 3) := by decide +kernel
theorem dX9_item_290 : decode cX9_item 290 = .ok (.iconst 2, 1) := by decide +kernel
theorem dX9_item_291 : decode cX9_item 291 = .ok (.iaload, 1) := by decide +kernel
theorem dX9_item_292 : decode cX9_item 292 = .ok (.aload_n 0, 1) := by decide +kernel
theorem dX9_item_293 : decode cX9_item 293 = .ok (.getfield 84, 3) := by decide +kernel
theorem dX9_item_296 : decode cX9_item 296 = .ok (.iconst 3, 1) := by decide +kernel
theorem dX9_item_297 : decode cX9_item 297 = .ok (.iaload, 1) := by decide +kernel
theorem dX9_item_298 : decode cX9_item 298 = .ok (.invokevirtual 154, 3) := by decide +kernel
theorem dX9_item_301 : decode cX9_item 301 = .ok (.pop, 1) := by decide +kernel
theorem dX9_item_302 : decode cX9_item 302 = .ok (.goto 75, 3) := by decide +kernel
theorem dX9_item_305 : decode cX9_item 305 = .ok (.aload_n 0, 1) := by decide +kernel
theorem dX9_item_306 : decode cX9_item 306 = .ok (.aload_n 0, 1) := by decide +kernel
theorem dX9_item_307 : decode cX9_item 307 = .ok (.getfield 84, 3) := by decide +kernel
theorem dX9_item_310 : decode cX9_item 310 = .ok (.iconst 0, 1) := by decide +kernel
theorem dX9_item_311 : decode cX9_item 311 = .ok (.iaload, 1) := by decide +kernel
theorem dX9_item_312 : decode cX9_item 312 = .ok (.aload_n 0, 1) := by decide +kernel
theorem dX9_item_313 : decode cX9_item 313 = .ok (.getfield 84, 3) := by decide +kernel
theorem dX9_item_316 : decode cX9_item 316 = .ok (.iconst 1, 1) := by decide +kernel
theorem dX9_item_317 : decode cX9_item 317 = .ok (.iaload, 1) := by decide +kernel
theorem dX9_item_318 : decode cX9_item 318 = .ok (.aload_n 0, 1) := by decide +kernel
theorem dX9_item_319 : decode cX9_item 319 = .ok (.getfield 84, 3) := by decide +kernel
theorem dX9_item_322 : decode cX9_item 322 = .ok (.iconst 2, 1) := by decide +kernel
theorem dX9_item_323 : decode cX9_item 323 = .ok (.iaload, 1) := by decide +kernel
theorem dX9_item_324 : decode cX9_item 324 = .ok (.invokevirtual 157, 3) := by decide +kernel
theorem dX9_item_327 : decode cX9_item 327 = .ok (.pop, 1) := by decide +kernel
theorem dX9_item_328 : decode cX9_item 328 = .ok (.goto 49, 3) := by decide +kernel
theorem dX9_item_331 : decode cX9_item 331 = .ok (.aload_n 0, 1) := by decide +kernel
theorem dX9_item_332 : decode cX9_item 332 = .ok (.aload_n 0, 1) := by decide +kernel
theorem dX9_item_333 : decode cX9_item 333 = .ok (.getfield 84, 3) := by decide +kernel
theorem dX9_item_336 : decode cX9_item 336 = .ok (.iconst 0, 1) := by decide +kernel
theorem dX9_item_337 : decode cX9_item 337 = .ok (.iaload, 1) := by decide +kernel
theorem dX9_item_338 : decode cX9_item 338 = .ok (.putfield 13, 3) := by decide +kernel
theorem dX9_item_341 : decode cX9_item 341 = .ok (.aload_n 0, 1) := by decide +kernel
theorem dX9_item_342 : decode cX9_item 342 = .ok (.aload_n 0, 1) := by decide +kernel
theorem dX9_item_343 : decode cX9_item 343 = .ok (.getfield 84, 3) := by decide +kernel
theorem dX9_item_346 : decode cX9_item 346 = .ok (.iconst 1, 1) := by decide +kernel
theorem dX9_item_347 : decode cX9_item 347 = .ok (.iaload, 1) := by decide +kernel
theorem dX9_item_348 : decode cX9_item 348 = .ok (.putfield 16, 3) := by decide +kernel
theorem dX9_item_351 : decode cX9_item 351 = .ok (.goto 26, 3) := by decide +kernel
theorem dX9_item_354 : decode cX9_item 354 = .ok (.aload_n 0, 1) := by decide +kernel
theorem dX9_item_355 : decode cX9_item 355 = .ok (.aload_n 0, 1) := by decide +kernel
theorem dX9_item_356 : decode cX9_item 356 = .ok (.getfield 84, 3) := by decide +kernel
theorem dX9_item_359 : decode cX9_item 359 = .ok (.iconst 0, 1) := by decide +kernel
theorem dX9_item_360 : decode cX9_item 360 = .ok (.iaload, 1) := by decide +kernel
theorem dX9_item_361 : decode cX9_item 361 = .ok (.putfield 19, 3) := by decide +kernel
theorem dX9_item_364 : decode cX9_item 364 = .ok (.goto 13, 3) := by decide +kernel
theorem dX9_item_367 : decode cX9_item 367 = .ok (.aload_n 0, 1) := by decide +kernel
theorem dX9_item_368 : decode cX9_item 368 = .ok (.aload_n 0, 1) := by decide +kernel
theorem dX9_item_369 : decode cX9_item 369 = .ok (.getfield 84, 3) := by decide +kernel
theorem dX9_item_372 : decode cX9_item 372 = .ok (.iconst 0, 1) := by decide +kernel
theorem dX9_item_373 : decode cX9_item 373 = .ok (.iaload, 1) := by decide +kernel
theorem dX9_item_374 : decode cX9_item 374 = .ok (.putfield 167, 3) := by decide +kernel
theorem dX9_item_377 : decode cX9_item 377 = .ok (.iconst 1, 1) := by decide +kernel
theorem dX9_item_378 : decode cX9_item 378 = .ok (.ireturn, 1) := by decide +kernel
theorem dX9_keeps_0 : decode cX9_keeps 0 = .ok (.iconst 0, 1) := by decide +kernel
theorem dX9_keeps_1 : decode cX9_keeps 1 = .ok (.istore 6, 2) := by decide +kernel
theorem dX9_keeps_3 : decode cX9_keeps 3 = .ok (.iload 6, 2) := by decide +kernel
theorem dX9_keeps_5 : decode cX9_keeps 5 = .ok (.iload_n 2, 1) := by decide +kernel
theorem dX9_keeps_6 : decode cX9_keeps 6 = .ok (.if_icmp .ge 39, 3) := by decide +kernel
theorem dX9_keeps_9 : decode cX9_keeps 9 = .ok (.iload 5, 2) := by decide +kernel
theorem dX9_keeps_11 : decode cX9_keeps 11 = .ok (.ifCond .eq 17, 3) := by decide +kernel
theorem dX9_keeps_14 : decode cX9_keeps 14 = .ok (.aload_n 1, 1) := by decide +kernel
theorem dX9_keeps_15 : decode cX9_keeps 15 = .ok (.iload 6, 2) := by decide +kernel
theorem dX9_keeps_17 : decode cX9_keeps 17 = .ok (.aload_n 3, 1) := by decide +kernel
theorem dX9_keeps_18 : decode cX9_keeps 18 = .ok (.iload 4, 2) := by decide +kernel
theorem dX9_keeps_20 : decode cX9_keeps 20 = .ok (.iload 6, 2) := by decide +kernel
theorem dX9_keeps_22 : decode cX9_keeps 22 = .ok (.iadd, 1) := by decide +kernel
theorem dX9_keeps_23 : decode cX9_keeps 23 = .ok (.iaload, 1) := by decide +kernel
theorem dX9_keeps_24 : decode cX9_keeps 24 = .ok (.iastore, 1) := by decide +kernel
theorem dX9_keeps_25 : decode cX9_keeps 25 = .ok (.goto 14, 3) := by decide +kernel
theorem dX9_keeps_28 : decode cX9_keeps 28 = .ok (.aload_n 3, 1) := by decide +kernel
theorem dX9_keeps_29 : decode cX9_keeps 29 = .ok (.iload 4, 2) := by decide +kernel
theorem dX9_keeps_31 : decode cX9_keeps 31 = .ok (.iload 6, 2) := by decide +kernel
theorem dX9_keeps_33 : decode cX9_keeps 33 = .ok (.iadd, 1) := by decide +kernel
theorem dX9_keeps_34 : decode cX9_keeps 34 = .ok (.aload_n 1, 1) := by decide +kernel
theorem dX9_keeps_35 : decode cX9_keeps 35 = .ok (.iload 6, 2) := by decide +kernel
theorem dX9_keeps_37 : decode cX9_keeps 37 = .ok (.iaload, 1) := by decide +kernel
theorem dX9_keeps_38 : decode cX9_keeps 38 = .ok (.iastore, 1) := by decide +kernel
theorem dX9_keeps_39 : decode cX9_keeps 39 = .ok (.iinc 6 1, 3) := by decide +kernel
theorem dX9_keeps_42 : decode cX9_keeps 42 = .ok (.goto (-39), 3) := by decide +kernel
theorem dX9_keeps_45 : decode cX9_keeps 45 = .ok (.iload 4, 2) := by decide +kernel
theorem dX9_keeps_47 : decode cX9_keeps 47 = .ok (.iload_n 2, 1) := by decide +kernel
theorem dX9_keeps_48 : decode cX9_keeps 48 = .ok (.iadd, 1) := by decide +kernel
theorem dX9_keeps_49 : decode cX9_keeps 49 = .ok (.ireturn, 1) := by decide +kernel
theorem dX9_all_0 : decode cX9_all 0 = .ok (.aload_n 0, 1) := by decide +kernel
theorem dX9_all_1 : decode cX9_all 1 = .ok (.aload_n 0, 1) := by decide +kernel
theorem dX9_all_2 : decode cX9_all 2 = .ok (.getfield 35, 3) := by decide +kernel
theorem dX9_all_5 : decode cX9_all 5 = .ok (.bipush 8, 2) := by decide +kernel
theorem dX9_all_7 : decode cX9_all 7 = .ok (.aload_n 1, 1) := by decide +kernel
theorem dX9_all_8 : decode cX9_all 8 = .ok (.iconst 0, 1) := by decide +kernel
theorem dX9_all_9 : decode cX9_all 9 = .ok (.iload_n 3, 1) := by decide +kernel
theorem dX9_all_10 : decode cX9_all 10 = .ok (.invokevirtual 215, 3) := by decide +kernel
theorem dX9_all_13 : decode cX9_all 13 = .ok (.istore 4, 2) := by decide +kernel
theorem dX9_all_15 : decode cX9_all 15 = .ok (.aload_n 0, 1) := by decide +kernel
theorem dX9_all_16 : decode cX9_all 16 = .ok (.aload_n 0, 1) := by decide +kernel
theorem dX9_all_17 : decode cX9_all 17 = .ok (.getfield 38, 3) := by decide +kernel
theorem dX9_all_20 : decode cX9_all 20 = .ok (.bipush 8, 2) := by decide +kernel
theorem dX9_all_22 : decode cX9_all 22 = .ok (.aload_n 1, 1) := by decide +kernel
theorem dX9_all_23 : decode cX9_all 23 = .ok (.iload 4, 2) := by decide +kernel
theorem dX9_all_25 : decode cX9_all 25 = .ok (.iload_n 3, 1) := by decide +kernel
theorem dX9_all_26 : decode cX9_all 26 = .ok (.invokevirtual 215, 3) := by decide +kernel
theorem dX9_all_29 : decode cX9_all 29 = .ok (.istore 4, 2) := by decide +kernel
theorem dX9_all_31 : decode cX9_all 31 = .ok (.aload_n 0, 1) := by decide +kernel
theorem dX9_all_32 : decode cX9_all 32 = .ok (.aload_n 0, 1) := by decide +kernel
theorem dX9_all_33 : decode cX9_all 33 = .ok (.getfield 41, 3) := by decide +kernel
theorem dX9_all_36 : decode cX9_all 36 = .ok (.bipush 8, 2) := by decide +kernel
theorem dX9_all_38 : decode cX9_all 38 = .ok (.aload_n 1, 1) := by decide +kernel
theorem dX9_all_39 : decode cX9_all 39 = .ok (.iload 4, 2) := by decide +kernel
theorem dX9_all_41 : decode cX9_all 41 = .ok (.iload_n 3, 1) := by decide +kernel
theorem dX9_all_42 : decode cX9_all 42 = .ok (.invokevirtual 215, 3) := by decide +kernel
theorem dX9_all_45 : decode cX9_all 45 = .ok (.istore 4, 2) := by decide +kernel
theorem dX9_all_47 : decode cX9_all 47 = .ok (.aload_n 0, 1) := by decide +kernel
theorem dX9_all_48 : decode cX9_all 48 = .ok (.aload_n 0, 1) := by decide +kernel
theorem dX9_all_49 : decode cX9_all 49 = .ok (.getfield 44, 3) := by decide +kernel
theorem dX9_all_52 : decode cX9_all 52 = .ok (.bipush 8, 2) := by decide +kernel
theorem dX9_all_54 : decode cX9_all 54 = .ok (.aload_n 1, 1) := by decide +kernel
theorem dX9_all_55 : decode cX9_all 55 = .ok (.iload 4, 2) := by decide +kernel
theorem dX9_all_57 : decode cX9_all 57 = .ok (.iload_n 3, 1) := by decide +kernel
theorem dX9_all_58 : decode cX9_all 58 = .ok (.invokevirtual 215, 3) := by decide +kernel
theorem dX9_all_61 : decode cX9_all 61 = .ok (.istore 4, 2) := by decide +kernel
theorem dX9_all_63 : decode cX9_all 63 = .ok (.aload_n 0, 1) := by decide +kernel
theorem dX9_all_64 : decode cX9_all 64 = .ok (.aload_n 0, 1) := by decide +kernel
theorem dX9_all_65 : decode cX9_all 65 = .ok (.getfield 47, 3) := by decide +kernel
theorem dX9_all_68 : decode cX9_all 68 = .ok (.bipush 8, 2) := by decide +kernel
theorem dX9_all_70 : decode cX9_all 70 = .ok (.aload_n 1, 1) := by decide +kernel
theorem dX9_all_71 : decode cX9_all 71 = .ok (.iload 4, 2) := by decide +kernel
theorem dX9_all_73 : decode cX9_all 73 = .ok (.iload_n 3, 1) := by decide +kernel
theorem dX9_all_74 : decode cX9_all 74 = .ok (.invokevirtual 215, 3) := by decide +kernel
theorem dX9_all_77 : decode cX9_all 77 = .ok (.istore 4, 2) := by decide +kernel
theorem dX9_all_79 : decode cX9_all 79 = .ok (.aload_n 0, 1) := by decide +kernel
theorem dX9_all_80 : decode cX9_all 80 = .ok (.aload_n 0, 1) := by decide +kernel
theorem dX9_all_81 : decode cX9_all 81 = .ok (.getfield 50, 3) := by decide +kernel
theorem dX9_all_84 : decode cX9_all 84 = .ok (.bipush 8, 2) := by decide +kernel
theorem dX9_all_86 : decode cX9_all 86 = .ok (.aload_n 1, 1) := by decide +kernel
theorem dX9_all_87 : decode cX9_all 87 = .ok (.iload 4, 2) := by decide +kernel
theorem dX9_all_89 : decode cX9_all 89 = .ok (.iload_n 3, 1) := by decide +kernel
theorem dX9_all_90 : decode cX9_all 90 = .ok (.invokevirtual 215, 3) := by decide +kernel
theorem dX9_all_93 : decode cX9_all 93 = .ok (.istore 4, 2) := by decide +kernel
theorem dX9_all_95 : decode cX9_all 95 = .ok (.aload_n 0, 1) := by decide +kernel
theorem dX9_all_96 : decode cX9_all 96 = .ok (.aload_n 0, 1) := by decide +kernel
theorem dX9_all_97 : decode cX9_all 97 = .ok (.getfield 53, 3) := by decide +kernel
theorem dX9_all_100 : decode cX9_all 100 = .ok (.bipush 8, 2) := by decide +kernel
theorem dX9_all_102 : decode cX9_all 102 = .ok (.aload_n 1, 1) := by decide +kernel
theorem dX9_all_103 : decode cX9_all 103 = .ok (.iload 4, 2) := by decide +kernel
theorem dX9_all_105 : decode cX9_all 105 = .ok (.iload_n 3, 1) := by decide +kernel
theorem dX9_all_106 : decode cX9_all 106 = .ok (.invokevirtual 215, 3) := by decide +kernel
theorem dX9_all_109 : decode cX9_all 109 = .ok (.istore 4, 2) := by decide +kernel
theorem dX9_all_111 : decode cX9_all 111 = .ok (.iconst 0, 1) := by decide +kernel
theorem dX9_all_112 : decode cX9_all 112 = .ok (.istore 5, 2) := by decide +kernel
theorem dX9_all_114 : decode cX9_all 114 = .ok (.iload 5, 2) := by decide +kernel
theorem dX9_all_116 : decode cX9_all 116 = .ok (.bipush 24, 2) := by decide +kernel
theorem dX9_all_118 : decode cX9_all 118 = .ok (.if_icmp .ge 38, 3) := by decide +kernel
theorem dX9_all_121 : decode cX9_all 121 = .ok (.iload_n 3, 1) := by decide +kernel
theorem dX9_all_122 : decode cX9_all 122 = .ok (.ifCond .eq 17, 3) := by decide +kernel
theorem dX9_all_125 : decode cX9_all 125 = .ok (.aload_n 0, 1) := by decide +kernel
theorem dX9_all_126 : decode cX9_all 126 = .ok (.getfield 56, 3) := by decide +kernel
theorem dX9_all_129 : decode cX9_all 129 = .ok (.iload 5, 2) := by decide +kernel
theorem dX9_all_131 : decode cX9_all 131 = .ok (.aload_n 2, 1) := by decide +kernel
theorem dX9_all_132 : decode cX9_all 132 = .ok (.iload 5, 2) := by decide +kernel
theorem dX9_all_134 : decode cX9_all 134 = .ok (.laload, 1) := by decide +kernel
theorem dX9_all_135 : decode cX9_all 135 = .ok (.lastore, 1) := by decide +kernel
theorem dX9_all_136 : decode cX9_all 136 = .ok (.goto 14, 3) := by decide +kernel
theorem dX9_all_139 : decode cX9_all 139 = .ok (.aload_n 2, 1) := by decide +kernel
theorem dX9_all_140 : decode cX9_all 140 = .ok (.iload 5, 2) := by decide +kernel
theorem dX9_all_142 : decode cX9_all 142 = .ok (.aload_n 0, 1) := by decide +kernel
theorem dX9_all_143 : decode cX9_all 143 = .ok (.getfield 56, 3) := by decide +kernel
theorem dX9_all_146 : decode cX9_all 146 = .ok (.iload 5, 2) := by decide +kernel
theorem dX9_all_148 : decode cX9_all 148 = .ok (.laload, 1) := by decide +kernel
theorem dX9_all_149 : decode cX9_all 149 = .ok (.lastore, 1) := by decide +kernel
theorem dX9_all_150 : decode cX9_all 150 = .ok (.iinc 5 1, 3) := by decide +kernel
theorem dX9_all_153 : decode cX9_all 153 = .ok (.goto (-39), 3) := by decide +kernel
theorem dX9_all_156 : decode cX9_all 156 = .ok (.iload_n 3, 1) := by decide +kernel
theorem dX9_all_157 : decode cX9_all 157 = .ok (.ifCond .eq 130, 3) := by decide +kernel
theorem dX9_all_160 : decode cX9_all 160 = .ok (.aload_n 0, 1) := by decide +kernel
theorem dX9_all_161 : decode cX9_all 161 = .ok (.aload_n 1, 1) := by decide +kernel
theorem dX9_all_162 : decode cX9_all 162 = .ok (.iload 4, 2) := by decide +kernel
theorem dX9_all_164 : decode cX9_all 164 = .ok (.iaload, 1) := by decide +kernel
theorem dX9_all_165 : decode cX9_all 165 = .ok (.putfield 7, 3) := by decide +kernel
theorem dX9_all_168 : decode cX9_all 168 = .ok (.aload_n 0, 1) := by decide +kernel
theorem dX9_all_169 : decode cX9_all 169 = .ok (.aload_n 1, 1) := by decide +kernel
theorem dX9_all_170 : decode cX9_all 170 = .ok (.iload 4, 2) := by decide +kernel
theorem dX9_all_172 : decode cX9_all 172 = .ok (.iconst 1, 1) := by decide +kernel
theorem dX9_all_173 : decode cX9_all 173 = .ok (.iadd, 1) := by decide +kernel
theorem dX9_all_174 : decode cX9_all 174 = .ok (.iaload, 1) := by decide +kernel
theorem dX9_all_175 : decode cX9_all 175 = .ok (.putfield 13, 3) := by decide +kernel
theorem dX9_all_178 : decode cX9_all 178 = .ok (.aload_n 0, 1) := by decide +kernel
theorem dX9_all_179 : decode cX9_all 179 = .ok (.aload_n 1, 1) := by decide +kernel
theorem dX9_all_180 : decode cX9_all 180 = .ok (.iload 4, 2) := by decide +kernel
theorem dX9_all_182 : decode cX9_all 182 = .ok (.iconst 2, 1) := by decide +kernel
theorem dX9_all_183 : decode cX9_all 183 = .ok (.iadd, 1) := by decide +kernel
theorem dX9_all_184 : decode cX9_all 184 = .ok (.iaload, 1) := by decide +kernel
theorem dX9_all_185 : decode cX9_all 185 = .ok (.putfield 16, 3) := by decide +kernel
theorem dX9_all_188 : decode cX9_all 188 = .ok (.aload_n 0, 1) := by decide +kernel
theorem dX9_all_189 : decode cX9_all 189 = .ok (.aload_n 1, 1) := by decide +kernel
theorem dX9_all_190 : decode cX9_all 190 = .ok (.iload 4, 2) := by decide +kernel
theorem dX9_all_192 : decode cX9_all 192 = .ok (.iconst 3, 1) := by decide +kernel
theorem dX9_all_193 : decode cX9_all 193 = .ok (.iadd, 1) := by decide +kernel
theorem dX9_all_194 : decode cX9_all 194 = .ok (.iaload, 1) := by decide +kernel
theorem dX9_all_195 : decode cX9_all 195 = .ok (.putfield 167, 3) := by decide +kernel
theorem dX9_all_198 : decode cX9_all 198 = .ok (.aload_n 0, 1) := by decide +kernel
theorem dX9_all_199 : decode cX9_all 199 = .ok (.aload_n 1, 1) := by decide +kernel
theorem dX9_all_200 : decode cX9_all 200 = .ok (.iload 4, 2) := by decide +kernel
theorem dX9_all_202 : decode cX9_all 202 = .ok (.iconst 4, 1) := by decide +kernel
theorem dX9_all_203 : decode cX9_all 203 = .ok (.iadd, 1) := by decide +kernel
theorem dX9_all_204 : decode cX9_all 204 = .ok (.iaload, 1) := by decide +kernel
theorem dX9_all_205 : decode cX9_all 205 = .ok (.putfield 170, 3) := by decide +kernel
theorem dX9_all_208 : decode cX9_all 208 = .ok (.aload_n 0, 1) := by decide +kernel
theorem dX9_all_209 : decode cX9_all 209 = .ok (.aload_n 1, 1) := by decide +kernel
theorem dX9_all_210 : decode cX9_all 210 = .ok (.iload 4, 2) := by decide +kernel
theorem dX9_all_212 : decode cX9_all 212 = .ok (.iconst 5, 1) := by decide +kernel
theorem dX9_all_213 : decode cX9_all 213 = .ok (.iadd, 1) := by decide +kernel
theorem dX9_all_214 : decode cX9_all 214 = .ok (.iaload, 1) := by decide +kernel
theorem dX9_all_215 : decode cX9_all 215 = .ok (.putfield 19, 3) := by decide +kernel
theorem dX9_all_218 : decode cX9_all 218 = .ok (.aload_n 0, 1) := by decide +kernel
theorem dX9_all_219 : decode cX9_all 219 = .ok (.aload_n 1, 1) := by decide +kernel
theorem dX9_all_220 : decode cX9_all 220 = .ok (.iload 4, 2) := by decide +kernel
theorem dX9_all_222 : decode cX9_all 222 = .ok (.bipush 6, 2) := by decide +kernel
theorem dX9_all_224 : decode cX9_all 224 = .ok (.iadd, 1) := by decide +kernel
theorem dX9_all_225 : decode cX9_all 225 = .ok (.iaload, 1) := by decide +kernel
theorem dX9_all_226 : decode cX9_all 226 = .ok (.putfield 115, 3) := by decide +kernel
theorem dX9_all_229 : decode cX9_all 229 = .ok (.aload_n 0, 1) := by decide +kernel
theorem dX9_all_230 : decode cX9_all 230 = .ok (.aload_n 1, 1) := by decide +kernel
theorem dX9_all_231 : decode cX9_all 231 = .ok (.iload 4, 2) := by decide +kernel
theorem dX9_all_233 : decode cX9_all 233 = .ok (.bipush 7, 2) := by decide +kernel
theorem dX9_all_235 : decode cX9_all 235 = .ok (.iadd, 1) := by decide +kernel
theorem dX9_all_236 : decode cX9_all 236 = .ok (.iaload, 1) := by decide +kernel
theorem dX9_all_237 : decode cX9_all 237 = .ok (.putfield 143, 3) := by decide +kernel
theorem dX9_all_240 : decode cX9_all 240 = .ok (.aload_n 0, 1) := by decide +kernel
theorem dX9_all_241 : decode cX9_all 241 = .ok (.aload_n 1, 1) := by decide +kernel
theorem dX9_all_242 : decode cX9_all 242 = .ok (.iload 4, 2) := by decide +kernel
theorem dX9_all_244 : decode cX9_all 244 = .ok (.bipush 8, 2) := by decide +kernel
theorem dX9_all_246 : decode cX9_all 246 = .ok (.iadd, 1) := by decide +kernel
theorem dX9_all_247 : decode cX9_all 247 = .ok (.iaload, 1) := by decide +kernel
theorem dX9_all_248 : decode cX9_all 248 = .ok (.putfield 136, 3) := by decide +kernel
theorem dX9_all_251 : decode cX9_all 251 = .ok (.aload_n 0, 1) := by decide +kernel
theorem dX9_all_252 : decode cX9_all 252 = .ok (.aload_n 1, 1) := by decide +kernel
theorem dX9_all_253 : decode cX9_all 253 = .ok (.iload 4, 2) := by decide +kernel
theorem dX9_all_255 : decode cX9_all 255 = .ok (.bipush 9, 2) := by decide +kernel
theorem dX9_all_257 : decode cX9_all 257 = .ok (.iadd, 1) := by decide +kernel
theorem dX9_all_258 : decode cX9_all 258 = .ok (.iaload, 1) := by decide +kernel
theorem dX9_all_259 : decode cX9_all 259 = .ok (.putfield 129, 3) := by decide +kernel
theorem dX9_all_262 : decode cX9_all 262 = .ok (.aload_n 0, 1) := by decide +kernel
theorem dX9_all_263 : decode cX9_all 263 = .ok (.aload_n 1, 1) := by decide +kernel
theorem dX9_all_264 : decode cX9_all 264 = .ok (.iload 4, 2) := by decide +kernel
theorem dX9_all_266 : decode cX9_all 266 = .ok (.bipush 10, 2) := by decide +kernel
theorem dX9_all_268 : decode cX9_all 268 = .ok (.iadd, 1) := by decide +kernel
theorem dX9_all_269 : decode cX9_all 269 = .ok (.iaload, 1) := by decide +kernel
theorem dX9_all_270 : decode cX9_all 270 = .ok (.putfield 22, 3) := by decide +kernel
theorem dX9_all_273 : decode cX9_all 273 = .ok (.aload_n 0, 1) := by decide +kernel
theorem dX9_all_274 : decode cX9_all 274 = .ok (.aload_n 1, 1) := by decide +kernel
theorem dX9_all_275 : decode cX9_all 275 = .ok (.iload 4, 2) := by decide +kernel
theorem dX9_all_277 : decode cX9_all 277 = .ok (.bipush 11, 2) := by decide +kernel
theorem dX9_all_279 : decode cX9_all 279 = .ok (.iadd, 1) := by decide +kernel
theorem dX9_all_280 : decode cX9_all 280 = .ok (.iaload, 1) := by decide +kernel
theorem dX9_all_281 : decode cX9_all 281 = .ok (.putfield 25, 3) := by decide +kernel
theorem dX9_all_284 : decode cX9_all 284 = .ok (.goto 127, 3) := by decide +kernel
theorem dX9_all_287 : decode cX9_all 287 = .ok (.aload_n 1, 1) := by decide +kernel
theorem dX9_all_288 : decode cX9_all 288 = .ok (.iload 4, 2) := by decide +kernel
theorem dX9_all_290 : decode cX9_all 290 = .ok (.aload_n 0, 1) := by decide +kernel
theorem dX9_all_291 : decode cX9_all 291 = .ok (.getfield 7, 3) := by decide +kernel
theorem dX9_all_294 : decode cX9_all 294 = .ok (.iastore, 1) := by decide +kernel
theorem dX9_all_295 : decode cX9_all 295 = .ok (.aload_n 1, 1) := by decide +kernel
theorem dX9_all_296 : decode cX9_all 296 = .ok (.iload 4, 2) := by decide +kernel
theorem dX9_all_298 : decode cX9_all 298 = .ok (.iconst 1, 1) := by decide +kernel
theorem dX9_all_299 : decode cX9_all 299 = .ok (.iadd, 1) := by decide +kernel
theorem dX9_all_300 : decode cX9_all 300 = .ok (.aload_n 0, 1) := by decide +kernel
theorem dX9_all_301 : decode cX9_all 301 = .ok (.getfield 13, 3) := by decide +kernel
theorem dX9_all_304 : decode cX9_all 304 = .ok (.iastore, 1) := by decide +kernel
theorem dX9_all_305 : decode cX9_all 305 = .ok (.aload_n 1, 1) := by decide +kernel
theorem dX9_all_306 : decode cX9_all 306 = .ok (.iload 4, 2) := by decide +kernel
theorem dX9_all_308 : decode cX9_all 308 = .ok (.iconst 2, 1) := by decide +kernel
theorem dX9_all_309 : decode cX9_all 309 = .ok (.iadd, 1) := by decide +kernel
theorem dX9_all_310 : decode cX9_all 310 = .ok (.aload_n 0, 1) := by decide +kernel
theorem dX9_all_311 : decode cX9_all 311 = .ok (.getfield 16, 3) := by decide +kernel
theorem dX9_all_314 : decode cX9_all 314 = .ok (.iastore, 1) := by decide +kernel
theorem dX9_all_315 : decode cX9_all 315 = .ok (.aload_n 1, 1) := by decide +kernel
theorem dX9_all_316 : decode cX9_all 316 = .ok (.iload 4, 2) := by decide +kernel
theorem dX9_all_318 : decode cX9_all 318 = .ok (.iconst 3, 1) := by decide +kernel
theorem dX9_all_319 : decode cX9_all 319 = .ok (.iadd, 1) := by decide +kernel
theorem dX9_all_320 : decode cX9_all 320 = .ok (.aload_n 0, 1) := by decide +kernel
theorem dX9_all_321 : decode cX9_all 321 = .ok (.getfield 167, 3) := by decide +kernel
theorem dX9_all_324 : decode cX9_all 324 = .ok (.iastore, 1) := by decide +kernel
theorem dX9_all_325 : decode cX9_all 325 = .ok (.aload_n 1, 1) := by decide +kernel
theorem dX9_all_326 : decode cX9_all 326 = .ok (.iload 4, 2) := by decide +kernel
theorem dX9_all_328 : decode cX9_all 328 = .ok (.iconst 4, 1) := by decide +kernel
theorem dX9_all_329 : decode cX9_all 329 = .ok (.iadd, 1) := by decide +kernel
theorem dX9_all_330 : decode cX9_all 330 = .ok (.aload_n 0, 1) := by decide +kernel
theorem dX9_all_331 : decode cX9_all 331 = .ok (.getfield 170, 3) := by decide +kernel
theorem dX9_all_334 : decode cX9_all 334 = .ok (.iastore, 1) := by decide +kernel
theorem dX9_all_335 : decode cX9_all 335 = .ok (.aload_n 1, 1) := by decide +kernel
theorem dX9_all_336 : decode cX9_all 336 = .ok (.iload 4, 2) := by decide +kernel
theorem dX9_all_338 : decode cX9_all 338 = .ok (.iconst 5, 1) := by decide +kernel
theorem dX9_all_339 : decode cX9_all 339 = .ok (.iadd, 1) := by decide +kernel
theorem dX9_all_340 : decode cX9_all 340 = .ok (.aload_n 0, 1) := by decide +kernel
theorem dX9_all_341 : decode cX9_all 341 = .ok (.getfield 19, 3) := by decide +kernel
theorem dX9_all_344 : decode cX9_all 344 = .ok (.iastore, 1) := by decide +kernel
theorem dX9_all_345 : decode cX9_all 345 = .ok (.aload_n 1, 1) := by decide +kernel
theorem dX9_all_346 : decode cX9_all 346 = .ok (.iload 4, 2) := by decide +kernel
theorem dX9_all_348 : decode cX9_all 348 = .ok (.bipush 6, 2) := by decide +kernel
theorem dX9_all_350 : decode cX9_all 350 = .ok (.iadd, 1) := by decide +kernel
theorem dX9_all_351 : decode cX9_all 351 = .ok (.aload_n 0, 1) := by decide +kernel
theorem dX9_all_352 : decode cX9_all 352 = .ok (.getfield 115, 3) := by decide +kernel
theorem dX9_all_355 : decode cX9_all 355 = .ok (.iastore, 1) := by decide +kernel
theorem dX9_all_356 : decode cX9_all 356 = .ok (.aload_n 1, 1) := by decide +kernel
theorem dX9_all_357 : decode cX9_all 357 = .ok (.iload 4, 2) := by decide +kernel
theorem dX9_all_359 : decode cX9_all 359 = .ok (.bipush 7, 2) := by decide +kernel
theorem dX9_all_361 : decode cX9_all 361 = .ok (.iadd, 1) := by decide +kernel
theorem dX9_all_362 : decode cX9_all 362 = .ok (.aload_n 0, 1) := by decide +kernel
theorem dX9_all_363 : decode cX9_all 363 = .ok (.getfield 143, 3) := by decide +kernel
theorem dX9_all_366 : decode cX9_all 366 = .ok (.iastore, 1) := by decide +kernel
theorem dX9_all_367 : decode cX9_all 367 = .ok (.aload_n 1, 1) := by decide +kernel
theorem dX9_all_368 : decode cX9_all 368 = .ok (.iload 4, 2) := by decide +kernel
theorem dX9_all_370 : decode cX9_all 370 = .ok (.bipush 8, 2) := by decide +kernel
theorem dX9_all_372 : decode cX9_all 372 = .ok (.iadd, 1) := by decide +kernel
theorem dX9_all_373 : decode cX9_all 373 = .ok (.aload_n 0, 1) := by decide +kernel
theorem dX9_all_374 : decode cX9_all 374 = .ok (.getfield 136, 3) := by decide +kernel
theorem dX9_all_377 : decode cX9_all 377 = .ok (.iastore, 1) := by decide +kernel
theorem dX9_all_378 : decode cX9_all 378 = .ok (.aload_n 1, 1) := by decide +kernel
theorem dX9_all_379 : decode cX9_all 379 = .ok (.iload 4, 2) := by decide +kernel
theorem dX9_all_381 : decode cX9_all 381 = .ok (.bipush 9, 2) := by decide +kernel
theorem dX9_all_383 : decode cX9_all 383 = .ok (.iadd, 1) := by decide +kernel
theorem dX9_all_384 : decode cX9_all 384 = .ok (.aload_n 0, 1) := by decide +kernel
theorem dX9_all_385 : decode cX9_all 385 = .ok (.getfield 129, 3) := by decide +kernel
theorem dX9_all_388 : decode cX9_all 388 = .ok (.iastore, 1) := by decide +kernel
theorem dX9_all_389 : decode cX9_all 389 = .ok (.aload_n 1, 1) := by decide +kernel
theorem dX9_all_390 : decode cX9_all 390 = .ok (.iload 4, 2) := by decide +kernel
theorem dX9_all_392 : decode cX9_all 392 = .ok (.bipush 10, 2) := by decide +kernel
theorem dX9_all_394 : decode cX9_all 394 = .ok (.iadd, 1) := by decide +kernel
theorem dX9_all_395 : decode cX9_all 395 = .ok (.aload_n 0, 1) := by decide +kernel
theorem dX9_all_396 : decode cX9_all 396 = .ok (.getfield 22, 3) := by decide +kernel
theorem dX9_all_399 : decode cX9_all 399 = .ok (.iastore, 1) := by decide +kernel
theorem dX9_all_400 : decode cX9_all 400 = .ok (.aload_n 1, 1) := by decide +kernel
theorem dX9_all_401 : decode cX9_all 401 = .ok (.iload 4, 2) := by decide +kernel
theorem dX9_all_403 : decode cX9_all 403 = .ok (.bipush 11, 2) := by decide +kernel
theorem dX9_all_405 : decode cX9_all 405 = .ok (.iadd, 1) := by decide +kernel
theorem dX9_all_406 : decode cX9_all 406 = .ok (.aload_n 0, 1) := by decide +kernel
theorem dX9_all_407 : decode cX9_all 407 = .ok (.getfield 25, 3) := by decide +kernel
theorem dX9_all_410 : decode cX9_all 410 = .ok (.iastore, 1) := by decide +kernel
theorem dX9_all_411 : decode cX9_all 411 = .ok (.return_, 1) := by decide +kernel
theorem dX9_town_0 : decode cX9_town 0 = .ok (.aload_n 0, 1) := by decide +kernel
theorem dX9_town_1 : decode cX9_town 1 = .ok (.iload_n 1, 1) := by decide +kernel
theorem dX9_town_2 : decode cX9_town 2 = .ok (.invokevirtual 161, 3) := by decide +kernel
theorem dX9_town_5 : decode cX9_town 5 = .ok (.istore_n 2, 1) := by decide +kernel
theorem dX9_town_6 : decode cX9_town 6 = .ok (.iload_n 2, 1) := by decide +kernel
theorem dX9_town_7 : decode cX9_town 7 = .ok (.ifCond .eq 9, 3) := by decide +kernel
theorem dX9_town_10 : decode cX9_town 10 = .ok (.aload_n 0, 1) := by decide +kernel
theorem dX9_town_11 : decode cX9_town 11 = .ok (.iload_n 2, 1) := by decide +kernel
theorem dX9_town_12 : decode cX9_town 12 = .ok (.invokevirtual 122, 3) := by decide +kernel
theorem dX9_town_15 : decode cX9_town 15 = .ok (.ireturn, 1) := by decide +kernel
theorem dX9_town_16 : decode cX9_town 16 = .ok (.aload_n 0, 1) := by decide +kernel
theorem dX9_town_17 : decode cX9_town 17 = .ok (.aload_n 0, 1) := by decide +kernel
theorem dX9_town_18 : decode cX9_town 18 = .ok (.getfield 87, 3) := by decide +kernel
theorem dX9_town_21 : decode cX9_town 21 = .ok (.aload_n 0, 1) := by decide +kernel
theorem dX9_town_22 : decode cX9_town 22 = .ok (.getfield 93, 3) := by decide +kernel
theorem dX9_town_25 : decode cX9_town 25 = .ok (.iconst 0, 1) := by decide +kernel
theorem dX9_town_26 : decode cX9_town 26 = .ok (.invokevirtual 219, 3) := by decide +kernel
theorem dX9_town_29 : decode cX9_town 29 = .ok (.aload_n 0, 1) := by decide +kernel
theorem dX9_town_30 : decode cX9_town 30 = .ok (.sipush 160, 3) := by decide +kernel
theorem dX9_town_33 : decode cX9_town 33 = .ok (.iload_n 1, 1) := by decide +kernel
theorem dX9_town_34 : decode cX9_town 34 = .ok (.imul, 1) := by decide +kernel
theorem dX9_town_35 : decode cX9_town 35 = .ok (.putfield 182, 3) := by decide +kernel
theorem dX9_town_38 : decode cX9_town 38 = .ok (.aload_n 0, 1) := by decide +kernel
theorem dX9_town_39 : decode cX9_town 39 = .ok (.iconst 0, 1) := by decide +kernel
theorem dX9_town_40 : decode cX9_town 40 = .ok (.putfield 176, 3) := by decide +kernel
theorem dX9_town_43 : decode cX9_town 43 = .ok (.aload_n 0, 1) := by decide +kernel
theorem dX9_town_44 : decode cX9_town 44 = .ok (.aload_n 0, 1) := by decide +kernel
theorem dX9_town_45 : decode cX9_town 45 = .ok (.getfield 69, 3) := by decide +kernel
theorem dX9_town_48 : decode cX9_town 48 = .ok (.iload_n 1, 1) := by decide +kernel
theorem dX9_town_49 : decode cX9_town 49 = .ok (.iaload, 1) := by decide +kernel
theorem dX9_town_50 : decode cX9_town 50 = .ok (.putfield 179, 3) := by decide +kernel
theorem dX9_town_53 : decode cX9_town 53 = .ok (.aload_n 0, 1) := by decide +kernel
theorem dX9_town_54 : decode cX9_town 54 = .ok (.iconst (-1), 1) := by decide +kernel
theorem dX9_town_55 : decode cX9_town 55 = .ok (.putfield 28, 3) := by decide +kernel
theorem dX9_town_58 : decode cX9_town 58 = .ok (.aload_n 0, 1) := by decide +kernel
theorem dX9_town_59 : decode cX9_town 59 = .ok (.iconst 0, 1) := by decide +kernel
theorem dX9_town_60 : decode cX9_town 60 = .ok (.putfield 139, 3) := by decide +kernel
theorem dX9_town_63 : decode cX9_town 63 = .ok (.iconst 1, 1) := by decide +kernel
theorem dX9_town_64 : decode cX9_town 64 = .ok (.istore_n 3, 1) := by decide +kernel
theorem dX9_town_65 : decode cX9_town 65 = .ok (.aload_n 0, 1) := by decide +kernel
theorem dX9_town_66 : decode cX9_town 66 = .ok (.invokevirtual 223, 3) := by decide +kernel
theorem dX9_town_69 : decode cX9_town 69 = .ok (.istore 4, 2) := by decide +kernel
theorem dX9_town_71 : decode cX9_town 71 = .ok (.iload 4, 2) := by decide +kernel
theorem dX9_town_73 : decode cX9_town 73 = .ok (.ifCond .eq 69, 3) := by decide +kernel
theorem dX9_town_76 : decode cX9_town 76 = .ok (.aload_n 0, 1) := by decide +kernel
theorem dX9_town_77 : decode cX9_town 77 = .ok (.getfield 176, 3) := by decide +kernel
theorem dX9_town_80 : decode cX9_town 80 = .ok (.aload_n 0, 1) := by decide +kernel
theorem dX9_town_81 : decode cX9_town 81 = .ok (.getfield 179, 3) := by decide +kernel
theorem dX9_town_84 : decode cX9_town 84 = .ok (.if_icmp .ge 58, 3) := by decide +kernel
theorem dX9_town_87 : decode cX9_town 87 = .ok (.aload_n 0, 1) := by decide +kernel
theorem dX9_town_88 : decode cX9_town 88 = .ok (.getfield 75, 3) := by decide +kernel
theorem dX9_town_91 : decode cX9_town 91 = .ok (.aload_n 0, 1) := by decide +kernel
theorem dX9_town_92 : decode cX9_town 92 = .ok (.getfield 182, 3) := by decide +kernel
theorem dX9_town_95 : decode cX9_town 95 = .ok (.aload_n 0, 1) := by decide +kernel
theorem dX9_town_96 : decode cX9_town 96 = .ok (.getfield 176, 3) := by decide +kernel
theorem dX9_town_99 : decode cX9_town 99 = .ok (.iadd, 1) := by decide +kernel
theorem dX9_town_100 : decode cX9_town 100 = .ok (.laload, 1) := by decide +kernel
theorem dX9_town_101 : decode cX9_town 101 = .ok (.l2i, 1) := by decide +kernel
theorem dX9_town_102 : decode cX9_town 102 = .ok (.bipush 59, 2) := by decide +kernel
theorem dX9_town_104 : decode cX9_town 104 = .ok (.if_icmp .eq 16, 3) := by decide +kernel
theorem dX9_town_107 : decode cX9_town 107 = .ok (.aload_n 0, 1) := by decide +kernel
theorem dX9_town_108 : decode cX9_town 108 = .ok (.aload_n 0, 1) := by decide +kernel
theorem dX9_town_109 : decode cX9_town 109 = .ok (.getfield 176, 3) := by decide +kernel
theorem dX9_town_112 : decode cX9_town 112 = .ok (.invokevirtual 192, 3) := by decide +kernel
theorem dX9_town_115 : decode cX9_town 115 = .ok (.istore 4, 2) := by decide +kernel
theorem dX9_town_117 : decode cX9_town 117 = .ok (.goto (-46), 3) := by decide +kernel
theorem dX9_town_120 : decode cX9_town 120 = .ok (.aload_n 0, 1) := by decide +kernel
theorem dX9_town_121 : decode cX9_town 121 = .ok (.dup, 1) := by decide +kernel
theorem dX9_town_122 : decode cX9_town 122 = .ok (.getfield 176, 3) := by decide +kernel
theorem dX9_town_125 : decode cX9_town 125 = .ok (.iconst 1, 1) := by decide +kernel
theorem dX9_town_126 : decode cX9_town 126 = .ok (.iadd, 1) := by decide +kernel
theorem dX9_town_127 : decode cX9_town 127 = .ok (.putfield 176, 3) := by decide +kernel
theorem dX9_town_130 : decode cX9_town 130 = .ok (.iinc 3 1, 3) := by decide +kernel
theorem dX9_town_133 : decode cX9_town 133 = .ok (.aload_n 0, 1) := by decide +kernel
theorem dX9_town_134 : decode cX9_town 134 = .ok (.invokevirtual 223, 3) := by decide +kernel
theorem dX9_town_137 : decode cX9_town 137 = .ok (.istore 4, 2) := by decide +kernel
theorem dX9_town_139 : decode cX9_town 139 = .ok (.goto (-68), 3) := by decide +kernel
theorem dX9_town_142 : decode cX9_town 142 = .ok (.iload 4, 2) := by decide +kernel
theorem dX9_town_144 : decode cX9_town 144 = .ok (.ifCond .eq 21, 3) := by decide +kernel
theorem dX9_town_147 : decode cX9_town 147 = .ok (.aload_n 0, 1) := by decide +kernel
theorem dX9_town_148 : decode cX9_town 148 = .ok (.getfield 139, 3) := by decide +kernel
theorem dX9_town_151 : decode cX9_town 151 = .ok (.ifCond .eq 7, 3) := by decide +kernel
theorem dX9_town_154 : decode cX9_town 154 = .ok (.aload_n 0, 1) := by decide +kernel
theorem dX9_town_155 : decode cX9_town 155 = .ok (.invokevirtual 148, 3) := by decide +kernel
theorem dX9_town_158 : decode cX9_town 158 = .ok (.aload_n 0, 1) := by decide +kernel
theorem dX9_town_159 : decode cX9_town 159 = .ok (.iconst (-1), 1) := by decide +kernel
theorem dX9_town_160 : decode cX9_town 160 = .ok (.invokevirtual 111, 3) := by decide +kernel
theorem dX9_town_163 : decode cX9_town 163 = .ok (.iload_n 3, 1) := by decide +kernel
theorem dX9_town_164 : decode cX9_town 164 = .ok (.ireturn, 1) := by decide +kernel
theorem dX9_town_165 : decode cX9_town 165 = .ok (.aload_n 0, 1) := by decide +kernel
theorem dX9_town_166 : decode cX9_town 166 = .ok (.aload_n 0, 1) := by decide +kernel
theorem dX9_town_167 : decode cX9_town 167 = .ok (.getfield 87, 3) := by decide +kernel
theorem dX9_town_170 : decode cX9_town 170 = .ok (.aload_n 0, 1) := by decide +kernel
theorem dX9_town_171 : decode cX9_town 171 = .ok (.getfield 93, 3) := by decide +kernel
theorem dX9_town_174 : decode cX9_town 174 = .ok (.iconst 1, 1) := by decide +kernel
theorem dX9_town_175 : decode cX9_town 175 = .ok (.invokevirtual 219, 3) := by decide +kernel
theorem dX9_town_178 : decode cX9_town 178 = .ok (.aload_n 0, 1) := by decide +kernel
theorem dX9_town_179 : decode cX9_town 179 = .ok (.aload_n 0, 1) := by decide +kernel
theorem dX9_town_180 : decode cX9_town 180 = .ok (.getfield 173, 3) := by decide +kernel
theorem dX9_town_183 : decode cX9_town 183 = .ok (.putfield 28, 3) := by decide +kernel
theorem dX9_town_186 : decode cX9_town 186 = .ok (.aload_n 0, 1) := by decide +kernel
theorem dX9_town_187 : decode cX9_town 187 = .ok (.bipush (-6), 2) := by decide +kernel
theorem dX9_town_189 : decode cX9_town 189 = .ok (.invokevirtual 122, 3) := by decide +kernel
theorem dX9_town_192 : decode cX9_town 192 = .ok (.ireturn, 1) := by decide +kernel
theorem dX9_fault_0 : decode cX9_fault 0 = .ok (.aload_n 0, 1) := by decide +kernel
theorem dX9_fault_1 : decode cX9_fault 1 = .ok (.getfield 28, 3) := by decide +kernel
theorem dX9_fault_4 : decode cX9_fault 4 = .ok (.ireturn, 1) := by decide +kernel
theorem dX9_lost_0 : decode cX9_lost 0 = .ok (.iload_n 1, 1) := by decide +kernel
theorem dX9_lost_1 : decode cX9_lost 1 = .ok (.iconst (-1), 1) := by decide +kernel
theorem dX9_lost_2 : decode cX9_lost 2 = .ok (.if_icmp .eq 17, 3) := by decide +kernel
theorem dX9_lost_5 : decode cX9_lost 5 = .ok (.aload_n 0, 1) := by decide +kernel
theorem dX9_lost_6 : decode cX9_lost 6 = .ok (.iload_n 1, 1) := by decide +kernel
theorem dX9_lost_7 : decode cX9_lost 7 = .ok (.invokevirtual 151, 3) := by decide +kernel
theorem dX9_lost_10 : decode cX9_lost 10 = .ok (.ifCond .ne 9, 3) := by decide +kernel
theorem dX9_lost_13 : decode cX9_lost 13 = .ok (.aload_n 0, 1) := by decide +kernel
theorem dX9_lost_14 : decode cX9_lost 14 = .ok (.iconst (-1), 1) := by decide +kernel
theorem dX9_lost_15 : decode cX9_lost 15 = .ok (.invokevirtual 122, 3) := by decide +kernel
theorem dX9_lost_18 : decode cX9_lost 18 = .ok (.ireturn, 1) := by decide +kernel
theorem dX9_lost_19 : decode cX9_lost 19 = .ok (.aload_n 0, 1) := by decide +kernel
theorem dX9_lost_20 : decode cX9_lost 20 = .ok (.getfield 136, 3) := by decide +kernel
theorem dX9_lost_23 : decode cX9_lost 23 = .ok (.istore_n 2, 1) := by decide +kernel
theorem dX9_lost_24 : decode cX9_lost 24 = .ok (.aload_n 0, 1) := by decide +kernel
theorem dX9_lost_25 : decode cX9_lost 25 = .ok (.iload_n 1, 1) := by decide +kernel
theorem dX9_lost_26 : decode cX9_lost 26 = .ok (.invokevirtual 111, 3) := by decide +kernel
theorem dX9_lost_29 : decode cX9_lost 29 = .ok (.iload_n 2, 1) := by decide +kernel
theorem dX9_lost_30 : decode cX9_lost 30 = .ok (.ireturn, 1) := by decide +kernel
theorem dX9_sum_0 : decode cX9_sum 0 = .ok (.lconst 0, 1) := by decide +kernel
theorem dX9_sum_1 : decode cX9_sum 1 = .ok (.lstore_n 1, 1) := by decide +kernel
theorem dX9_sum_2 : decode cX9_sum 2 = .ok (.iconst 0, 1) := by decide +kernel
theorem dX9_sum_3 : decode cX9_sum 3 = .ok (.istore_n 3, 1) := by decide +kernel
theorem dX9_sum_4 : decode cX9_sum 4 = .ok (.iload_n 3, 1) := by decide +kernel
theorem dX9_sum_5 : decode cX9_sum 5 = .ok (.aload_n 0, 1) := by decide +kernel
theorem dX9_sum_6 : decode cX9_sum 6 = .ok (.getfield 7, 3) := by decide +kernel
theorem dX9_sum_9 : decode cX9_sum 9 = .ok (.if_icmp .ge 18, 3) := by decide +kernel
theorem dX9_sum_12 : decode cX9_sum 12 = .ok (.lload_n 1, 1) := by decide +kernel
theorem dX9_sum_13 : decode cX9_sum 13 = .ok (.aload_n 0, 1) := by decide +kernel
theorem dX9_sum_14 : decode cX9_sum 14 = .ok (.getfield 56, 3) := by decide +kernel
theorem dX9_sum_17 : decode cX9_sum 17 = .ok (.iload_n 3, 1) := by decide +kernel
theorem dX9_sum_18 : decode cX9_sum 18 = .ok (.laload, 1) := by decide +kernel
theorem dX9_sum_19 : decode cX9_sum 19 = .ok (.ladd, 1) := by decide +kernel
theorem dX9_sum_20 : decode cX9_sum 20 = .ok (.lstore_n 1, 1) := by decide +kernel
theorem dX9_sum_21 : decode cX9_sum 21 = .ok (.iinc 3 1, 3) := by decide +kernel
theorem dX9_sum_24 : decode cX9_sum 24 = .ok (.goto (-20), 3) := by decide +kernel
theorem dX9_sum_27 : decode cX9_sum 27 = .ok (.lload_n 1, 1) := by decide +kernel
theorem dX9_sum_28 : decode cX9_sum 28 = .ok (.lreturn, 1) := by decide +kernel
theorem dX9_odds_0 : decode cX9_odds 0 = .ok (.iload_n 1, 1) := by decide +kernel
theorem dX9_odds_1 : decode cX9_odds 1 = .ok (.iconst (-1), 1) := by decide +kernel
theorem dX9_odds_2 : decode cX9_odds 2 = .ok (.if_icmp .eq 18, 3) := by decide +kernel
theorem dX9_odds_5 : decode cX9_odds 5 = .ok (.aload_n 0, 1) := by decide +kernel
theorem dX9_odds_6 : decode cX9_odds 6 = .ok (.iload_n 1, 1) := by decide +kernel
theorem dX9_odds_7 : decode cX9_odds 7 = .ok (.invokevirtual 151, 3) := by decide +kernel
theorem dX9_odds_10 : decode cX9_odds 10 = .ok (.ifCond .ne 10, 3) := by decide +kernel
theorem dX9_odds_13 : decode cX9_odds 13 = .ok (.aload_n 0, 1) := by decide +kernel
theorem dX9_odds_14 : decode cX9_odds 14 = .ok (.iconst (-1), 1) := by decide +kernel
theorem dX9_odds_15 : decode cX9_odds 15 = .ok (.invokevirtual 122, 3) := by decide +kernel
theorem dX9_odds_18 : decode cX9_odds 18 = .ok (.i2l, 1) := by decide +kernel
theorem dX9_odds_19 : decode cX9_odds 19 = .ok (.lreturn, 1) := by decide +kernel
theorem dX9_odds_20 : decode cX9_odds 20 = .ok (.iload_n 1, 1) := by decide +kernel
theorem dX9_odds_21 : decode cX9_odds 21 = .ok (.iconst (-1), 1) := by decide +kernel
theorem dX9_odds_22 : decode cX9_odds 22 = .ok (.if_icmp .ne 10, 3) := by decide +kernel
theorem dX9_odds_25 : decode cX9_odds 25 = .ok (.aload_n 0, 1) := by decide +kernel
theorem dX9_odds_26 : decode cX9_odds 26 = .ok (.invokevirtual 226, 3) := by decide +kernel
theorem dX9_odds_29 : decode cX9_odds 29 = .ok (.goto 9, 3) := by decide +kernel
theorem dX9_odds_32 : decode cX9_odds 32 = .ok (.aload_n 0, 1) := by decide +kernel
theorem dX9_odds_33 : decode cX9_odds 33 = .ok (.getfield 56, 3) := by decide +kernel
theorem dX9_odds_36 : decode cX9_odds 36 = .ok (.iload_n 1, 1) := by decide +kernel
theorem dX9_odds_37 : decode cX9_odds 37 = .ok (.laload, 1) := by decide +kernel
theorem dX9_odds_38 : decode cX9_odds 38 = .ok (.lreturn, 1) := by decide +kernel
theorem dX9_strengthOf_0 : decode cX9_strengthOf 0 = .ok (.aload_n 0, 1) := by decide +kernel
theorem dX9_strengthOf_1 : decode cX9_strengthOf 1 = .ok (.getfield 41, 3) := by decide +kernel
theorem dX9_strengthOf_4 : decode cX9_strengthOf 4 = .ok (.iload_n 1, 1) := by decide +kernel
theorem dX9_strengthOf_5 : decode cX9_strengthOf 5 = .ok (.iaload, 1) := by decide +kernel
theorem dX9_strengthOf_6 : decode cX9_strengthOf 6 = .ok (.istore_n 3, 1) := by decide +kernel
theorem dX9_strengthOf_7 : decode cX9_strengthOf 7 = .ok (.iload_n 2, 1) := by decide +kernel
theorem dX9_strengthOf_8 : decode cX9_strengthOf 8 = .ok (.aload_n 0, 1) := by decide +kernel
theorem dX9_strengthOf_9 : decode cX9_strengthOf 9 = .ok (.getfield 38, 3) := by decide +kernel
theorem dX9_strengthOf_12 : decode cX9_strengthOf 12 = .ok (.iload_n 1, 1) := by decide +kernel
theorem dX9_strengthOf_13 : decode cX9_strengthOf 13 = .ok (.iaload, 1) := by decide +kernel
theorem dX9_strengthOf_14 : decode cX9_strengthOf 14 = .ok (.if_icmp .le 14, 3) := by decide +kernel
theorem dX9_strengthOf_17 : decode cX9_strengthOf 17 = .ok (.iload_n 2, 1) := by decide +kernel
theorem dX9_strengthOf_18 : decode cX9_strengthOf 18 = .ok (.aload_n 0, 1) := by decide +kernel
theorem dX9_strengthOf_19 : decode cX9_strengthOf 19 = .ok (.getfield 38, 3) := by decide +kernel
theorem dX9_strengthOf_22 : decode cX9_strengthOf 22 = .ok (.iload_n 1, 1) := by decide +kernel
theorem dX9_strengthOf_23 : decode cX9_strengthOf 23 = .ok (.iaload, 1) := by decide +kernel
theorem dX9_strengthOf_24 : decode cX9_strengthOf 24 = .ok (.isub, 1) := by decide +kernel
theorem dX9_strengthOf_25 : decode cX9_strengthOf 25 = .ok (.goto 11, 3) := by decide +kernel
theorem dX9_strengthOf_28 : decode cX9_strengthOf 28 = .ok (.aload_n 0, 1) := by decide +kernel
theorem dX9_strengthOf_29 : decode cX9_strengthOf 29 = .ok (.getfield 38, 3) := by decide +kernel
theorem dX9_strengthOf_32 : decode cX9_strengthOf 32 = .ok (.iload_n 1, 1) := by decide +kernel
theorem dX9_strengthOf_33 : decode cX9_strengthOf 33 = .ok (.iaload, 1) := by decide +kernel
theorem dX9_strengthOf_34 : decode cX9_strengthOf 34 = .ok (.iload_n 2, 1) := by decide +kernel
theorem dX9_strengthOf_35 : decode cX9_strengthOf 35 = .ok (.isub, 1) := by decide +kernel
theorem dX9_strengthOf_36 : decode cX9_strengthOf 36 = .ok (.istore 4, 2) := by decide +kernel
theorem dX9_strengthOf_38 : decode cX9_strengthOf 38 = .ok (.aload_n 0, 1) := by decide +kernel
theorem dX9_strengthOf_39 : decode cX9_strengthOf 39 = .ok (.getfield 35, 3) := by decide +kernel
theorem dX9_strengthOf_42 : decode cX9_strengthOf 42 = .ok (.iload_n 1, 1) := by decide +kernel
theorem dX9_strengthOf_43 : decode cX9_strengthOf 43 = .ok (.iaload, 1) := by decide +kernel
theorem dX9_strengthOf_44 : decode cX9_strengthOf 44 = .ok (.tableswitch 199 1 6 #[40, 157, 116, 58, 180, 83], 40) := by decide +kernel
theorem dX9_strengthOf_84 : decode cX9_strengthOf 84 = .ok (.iload 4, 2) := by decide +kernel
theorem dX9_strengthOf_86 : decode cX9_strengthOf 86 = .ok (.ifCond .ne 14, 3) := by decide +kernel
theorem dX9_strengthOf_89 : decode cX9_strengthOf 89 = .ok (.aload_n 0, 1) := by decide +kernel
theorem dX9_strengthOf_90 : decode cX9_strengthOf 90 = .ok (.getfield 170, 3) := by decide +kernel
theorem dX9_strengthOf_93 : decode cX9_strengthOf 93 = .ok (.ifCond .ne 7, 3) := by decide +kernel
theorem dX9_strengthOf_96 : decode cX9_strengthOf 96 = .ok (.iload_n 3, 1) := by decide +kernel
theorem dX9_strengthOf_97 : decode cX9_strengthOf 97 = .ok (.goto 4, 3) := by decide +kernel
theorem dX9_strengthOf_100 : decode cX9_strengthOf 100 = .ok (.iconst 0, 1) := by decide +kernel
theorem dX9_strengthOf_101 : decode cX9_strengthOf 101 = .ok (.ireturn, 1) := by decide +kernel
theorem dX9_strengthOf_102 : decode cX9_strengthOf 102 = .ok (.iload 4, 2) := by decide +kernel
theorem dX9_strengthOf_104 : decode cX9_strengthOf 104 = .ok (.ifCond .eq 7, 3) := by decide +kernel
theorem dX9_strengthOf_107 : decode cX9_strengthOf 107 = .ok (.iconst 0, 1) := by decide +kernel
theorem dX9_strengthOf_108 : decode cX9_strengthOf 108 = .ok (.goto 18, 3) := by decide +kernel
theorem dX9_strengthOf_111 : decode cX9_strengthOf 111 = .ok (.aload_n 0, 1) := by decide +kernel
theorem dX9_strengthOf_112 : decode cX9_strengthOf 112 = .ok (.getfield 170, 3) := by decide +kernel
theorem dX9_strengthOf_115 : decode cX9_strengthOf 115 = .ok (.iconst 1, 1) := by decide +kernel
theorem dX9_strengthOf_116 : decode cX9_strengthOf 116 = .ok (.if_icmp .ne 9, 3) := by decide +kernel
theorem dX9_strengthOf_119 : decode cX9_strengthOf 119 = .ok (.iload_n 3, 1) := by decide +kernel
theorem dX9_strengthOf_120 : decode cX9_strengthOf 120 = .ok (.iconst 2, 1) := by decide +kernel
theorem dX9_strengthOf_121 : decode cX9_strengthOf 121 = .ok (.idiv, 1) := by decide +kernel
theorem dX9_strengthOf_122 : decode cX9_strengthOf 122 = .ok (.goto 4, 3) := by decide +kernel
theorem dX9_strengthOf_125 : decode cX9_strengthOf 125 = .ok (.iload_n 3, 1) := by decide +kernel
theorem dX9_strengthOf_126 : decode cX9_strengthOf 126 = .ok (.ireturn, 1) := by decide +kernel
theorem dX9_strengthOf_127 : decode cX9_strengthOf 127 = .ok (.iload 4, 2) := by decide +kernel
theorem dX9_strengthOf_129 : decode cX9_strengthOf 129 = .ok (.ifCond .eq 18, 3) := by decide +kernel
theorem dX9_strengthOf_132 : decode cX9_strengthOf 132 = .ok (.iload_n 2, 1) := by decide +kernel
theorem dX9_strengthOf_133 : decode cX9_strengthOf 133 = .ok (.aload_n 0, 1) := by decide +kernel
theorem dX9_strengthOf_134 : decode cX9_strengthOf 134 = .ok (.getfield 44, 3) := by decide +kernel
theorem dX9_strengthOf_137 : decode cX9_strengthOf 137 = .ok (.iload_n 1, 1) := by decide +kernel
theorem dX9_strengthOf_138 : decode cX9_strengthOf 138 = .ok (.iaload, 1) := by decide +kernel
theorem dX9_strengthOf_139 : decode cX9_strengthOf 139 = .ok (.aload_n 0, 1) := by decide +kernel
theorem dX9_strengthOf_140 : decode cX9_strengthOf 140 = .ok (.getfield 7, 3) := by decide +kernel
theorem dX9_strengthOf_143 : decode cX9_strengthOf 143 = .ok (.irem, 1) := by decide +kernel
theorem dX9_strengthOf_144 : decode cX9_strengthOf 144 = .ok (.if_icmp .ne 14, 3) := by decide +kernel
theorem dX9_strengthOf_147 : decode cX9_strengthOf 147 = .ok (.aload_n 0, 1) := by decide +kernel
theorem dX9_strengthOf_148 : decode cX9_strengthOf 148 = .ok (.getfield 170, 3) := by decide +kernel
theorem dX9_strengthOf_151 : decode cX9_strengthOf 151 = .ok (.ifCond .ne 7, 3) := by decide +kernel
theorem dX9_strengthOf_154 : decode cX9_strengthOf 154 = .ok (.iload_n 3, 1) := by decide +kernel
theorem dX9_strengthOf_155 : decode cX9_strengthOf 155 = .ok (.goto 4, 3) := by decide +kernel
theorem dX9_strengthOf_158 : decode cX9_strengthOf 158 = .ok (.iconst 0, 1) := by decide +kernel
theorem dX9_strengthOf_159 : decode cX9_strengthOf 159 = .ok (.ireturn, 1) := by decide +kernel
theorem dX9_strengthOf_160 : decode cX9_strengthOf 160 = .ok (.aload_n 0, 1) := by decide +kernel
theorem dX9_strengthOf_161 : decode cX9_strengthOf 161 = .ok (.getfield 44, 3) := by decide +kernel
theorem dX9_strengthOf_164 : decode cX9_strengthOf 164 = .ok (.iload_n 1, 1) := by decide +kernel
theorem dX9_strengthOf_165 : decode cX9_strengthOf 165 = .ok (.iaload, 1) := by decide +kernel
theorem dX9_strengthOf_166 : decode cX9_strengthOf 166 = .ok (.aload_n 0, 1) := by decide +kernel
theorem dX9_strengthOf_167 : decode cX9_strengthOf 167 = .ok (.getfield 167, 3) := by decide +kernel
theorem dX9_strengthOf_170 : decode cX9_strengthOf 170 = .ok (.ishr, 1) := by decide +kernel
theorem dX9_strengthOf_171 : decode cX9_strengthOf 171 = .ok (.iconst 1, 1) := by decide +kernel
theorem dX9_strengthOf_172 : decode cX9_strengthOf 172 = .ok (.iand, 1) := by decide +kernel
theorem dX9_strengthOf_173 : decode cX9_strengthOf 173 = .ok (.ifCond .ne 5, 3) := by decide +kernel
theorem dX9_strengthOf_176 : decode cX9_strengthOf 176 = .ok (.iconst 0, 1) := by decide +kernel
theorem dX9_strengthOf_177 : decode cX9_strengthOf 177 = .ok (.ireturn, 1) := by decide +kernel
theorem dX9_strengthOf_178 : decode cX9_strengthOf 178 = .ok (.iload 4, 2) := by decide +kernel
theorem dX9_strengthOf_180 : decode cX9_strengthOf 180 = .ok (.ifCond .ne 7, 3) := by decide +kernel
theorem dX9_strengthOf_183 : decode cX9_strengthOf 183 = .ok (.iload_n 3, 1) := by decide +kernel
theorem dX9_strengthOf_184 : decode cX9_strengthOf 184 = .ok (.goto 16, 3) := by decide +kernel
theorem dX9_strengthOf_187 : decode cX9_strengthOf 187 = .ok (.iload 4, 2) := by decide +kernel
theorem dX9_strengthOf_189 : decode cX9_strengthOf 189 = .ok (.iconst 1, 1) := by decide +kernel
theorem dX9_strengthOf_190 : decode cX9_strengthOf 190 = .ok (.if_icmp .ne 9, 3) := by decide +kernel
theorem dX9_strengthOf_193 : decode cX9_strengthOf 193 = .ok (.iload_n 3, 1) := by decide +kernel
theorem dX9_strengthOf_194 : decode cX9_strengthOf 194 = .ok (.iconst 2, 1) := by decide +kernel
theorem dX9_strengthOf_195 : decode cX9_strengthOf 195 = .ok (.idiv, 1) := by decide +kernel
theorem dX9_strengthOf_196 : decode cX9_strengthOf 196 = .ok (.goto 4, 3) := by decide +kernel
theorem dX9_strengthOf_199 : decode cX9_strengthOf 199 = .ok (.iconst 0, 1) := by decide +kernel
theorem dX9_strengthOf_200 : decode cX9_strengthOf 200 = .ok (.ireturn, 1) := by decide +kernel
theorem dX9_strengthOf_201 : decode cX9_strengthOf 201 = .ok (.iload 4, 2) := by decide +kernel
theorem dX9_strengthOf_203 : decode cX9_strengthOf 203 = .ok (.ifCond .ne 7, 3) := by decide +kernel
theorem dX9_strengthOf_206 : decode cX9_strengthOf 206 = .ok (.iload_n 3, 1) := by decide +kernel
theorem dX9_strengthOf_207 : decode cX9_strengthOf 207 = .ok (.goto 16, 3) := by decide +kernel
theorem dX9_strengthOf_210 : decode cX9_strengthOf 210 = .ok (.iload 4, 2) := by decide +kernel
theorem dX9_strengthOf_212 : decode cX9_strengthOf 212 = .ok (.iconst 1, 1) := by decide +kernel
theorem dX9_strengthOf_213 : decode cX9_strengthOf 213 = .ok (.if_icmp .ne 9, 3) := by decide +kernel
theorem dX9_strengthOf_216 : decode cX9_strengthOf 216 = .ok (.iload_n 3, 1) := by decide +kernel
theorem dX9_strengthOf_217 : decode cX9_strengthOf 217 = .ok (.iconst 2, 1) := by decide +kernel
theorem dX9_strengthOf_218 : decode cX9_strengthOf 218 = .ok (.idiv, 1) := by decide +kernel
theorem dX9_strengthOf_219 : decode cX9_strengthOf 219 = .ok (.goto 4, 3) := by decide +kernel
theorem dX9_strengthOf_222 : decode cX9_strengthOf 222 = .ok (.iconst 0, 1) := by decide +kernel
theorem dX9_strengthOf_223 : decode cX9_strengthOf 223 = .ok (.ireturn, 1) := by decide +kernel
theorem dX9_strengthOf_224 : decode cX9_strengthOf 224 = .ok (.aload_n 0, 1) := by decide +kernel
theorem dX9_strengthOf_225 : decode cX9_strengthOf 225 = .ok (.getfield 129, 3) := by decide +kernel
theorem dX9_strengthOf_228 : decode cX9_strengthOf 228 = .ok (.aload_n 0, 1) := by decide +kernel
theorem dX9_strengthOf_229 : decode cX9_strengthOf 229 = .ok (.getfield 44, 3) := by decide +kernel
theorem dX9_strengthOf_232 : decode cX9_strengthOf 232 = .ok (.iload_n 1, 1) := by decide +kernel
theorem dX9_strengthOf_233 : decode cX9_strengthOf 233 = .ok (.iaload, 1) := by decide +kernel
theorem dX9_strengthOf_234 : decode cX9_strengthOf 234 = .ok (.if_icmp .ne 7, 3) := by decide +kernel
theorem dX9_strengthOf_237 : decode cX9_strengthOf 237 = .ok (.iload_n 3, 1) := by decide +kernel
theorem dX9_strengthOf_238 : decode cX9_strengthOf 238 = .ok (.goto 4, 3) := by decide +kernel
theorem dX9_strengthOf_241 : decode cX9_strengthOf 241 = .ok (.iconst 0, 1) := by decide +kernel
theorem dX9_strengthOf_242 : decode cX9_strengthOf 242 = .ok (.ireturn, 1) := by decide +kernel
theorem dX9_strengthOf_243 : decode cX9_strengthOf 243 = .ok (.iload 4, 2) := by decide +kernel
theorem dX9_strengthOf_245 : decode cX9_strengthOf 245 = .ok (.ifCond .ne 7, 3) := by decide +kernel
theorem dX9_strengthOf_248 : decode cX9_strengthOf 248 = .ok (.iload_n 3, 1) := by decide +kernel
theorem dX9_strengthOf_249 : decode cX9_strengthOf 249 = .ok (.goto 4, 3) := by decide +kernel
theorem dX9_strengthOf_252 : decode cX9_strengthOf 252 = .ok (.iconst 0, 1) := by decide +kernel
theorem dX9_strengthOf_253 : decode cX9_strengthOf 253 = .ok (.ireturn, 1) := by decide +kernel
theorem dX9_strength_0 : decode cX9_strength 0 = .ok (.aload_n 0, 1) := by decide +kernel
theorem dX9_strength_1 : decode cX9_strength 1 = .ok (.iload_n 1, 1) := by decide +kernel
theorem dX9_strength_2 : decode cX9_strength 2 = .ok (.invokevirtual 126, 3) := by decide +kernel
theorem dX9_strength_5 : decode cX9_strength 5 = .ok (.ifCond .eq 20, 3) := by decide +kernel
theorem dX9_strength_8 : decode cX9_strength 8 = .ok (.aload_n 0, 1) := by decide +kernel
theorem dX9_strength_9 : decode cX9_strength 9 = .ok (.iload_n 2, 1) := by decide +kernel
theorem dX9_strength_10 : decode cX9_strength 10 = .ok (.invokevirtual 151, 3) := by decide +kernel
theorem dX9_strength_13 : decode cX9_strength 13 = .ok (.ifCond .eq 12, 3) := by decide +kernel
theorem dX9_strength_16 : decode cX9_strength 16 = .ok (.aload_n 0, 1) := by decide +kernel
theorem dX9_strength_17 : decode cX9_strength 17 = .ok (.iload_n 1, 1) := by decide +kernel
theorem dX9_strength_18 : decode cX9_strength 18 = .ok (.iload_n 2, 1) := by decide +kernel
theorem dX9_strength_19 : decode cX9_strength 19 = .ok (.invokevirtual 132, 3) := by decide +kernel
theorem dX9_strength_22 : decode cX9_strength 22 = .ok (.goto 8, 3) := by decide +kernel
theorem dX9_strength_25 : decode cX9_strength 25 = .ok (.aload_n 0, 1) := by decide +kernel
theorem dX9_strength_26 : decode cX9_strength 26 = .ok (.iconst (-1), 1) := by decide +kernel
theorem dX9_strength_27 : decode cX9_strength 27 = .ok (.invokevirtual 122, 3) := by decide +kernel
theorem dX9_strength_30 : decode cX9_strength 30 = .ok (.ireturn, 1) := by decide +kernel
theorem dX9_lessens_0 : decode cX9_lessens 0 = .ok (.lconst 0, 1) := by decide +kernel
theorem dX9_lessens_1 : decode cX9_lessens 1 = .ok (.lstore_n 1, 1) := by decide +kernel
theorem dX9_lessens_2 : decode cX9_lessens 2 = .ok (.iconst 0, 1) := by decide +kernel
theorem dX9_lessens_3 : decode cX9_lessens 3 = .ok (.istore_n 3, 1) := by decide +kernel
theorem dX9_lessens_4 : decode cX9_lessens 4 = .ok (.iload_n 3, 1) := by decide +kernel
theorem dX9_lessens_5 : decode cX9_lessens 5 = .ok (.aload_n 0, 1) := by decide +kernel
theorem dX9_lessens_6 : decode cX9_lessens 6 = .ok (.getfield 7, 3) := by decide +kernel
theorem dX9_lessens_9 : decode cX9_lessens 9 = .ok (.if_icmp .ge 48, 3) := by decide +kernel
theorem dX9_lessens_12 : decode cX9_lessens 12 = .ok (.lload_n 1, 1) := by decide +kernel
theorem dX9_lessens_13 : decode cX9_lessens 13 = .ok (.lstore 4, 2) := by decide +kernel
theorem dX9_lessens_15 : decode cX9_lessens 15 = .ok (.aload_n 0, 1) := by decide +kernel
theorem dX9_lessens_16 : decode cX9_lessens 16 = .ok (.getfield 56, 3) := by decide +kernel
theorem dX9_lessens_19 : decode cX9_lessens 19 = .ok (.iload_n 3, 1) := by decide +kernel
theorem dX9_lessens_20 : decode cX9_lessens 20 = .ok (.laload, 1) := by decide +kernel
theorem dX9_lessens_21 : decode cX9_lessens 21 = .ok (.lstore 6, 2) := by decide +kernel
theorem dX9_lessens_23 : decode cX9_lessens 23 = .ok (.lload 6, 2) := by decide +kernel
theorem dX9_lessens_25 : decode cX9_lessens 25 = .ok (.lconst 0, 1) := by decide +kernel
theorem dX9_lessens_26 : decode cX9_lessens 26 = .ok (.lcmp, 1) := by decide +kernel
theorem dX9_lessens_27 : decode cX9_lessens 27 = .ok (.ifCond .eq 21, 3) := by decide +kernel
theorem dX9_lessens_30 : decode cX9_lessens 30 = .ok (.lload 4, 2) := by decide +kernel
theorem dX9_lessens_32 : decode cX9_lessens 32 = .ok (.lload 6, 2) := by decide +kernel
theorem dX9_lessens_34 : decode cX9_lessens 34 = .ok (.lrem, 1) := by decide +kernel
theorem dX9_lessens_35 : decode cX9_lessens 35 = .ok (.lstore 8, 2) := by decide +kernel
theorem dX9_lessens_37 : decode cX9_lessens 37 = .ok (.lload 6, 2) := by decide +kernel
theorem dX9_lessens_39 : decode cX9_lessens 39 = .ok (.lstore 4, 2) := by decide +kernel
theorem dX9_lessens_41 : decode cX9_lessens 41 = .ok (.lload 8, 2) := by decide +kernel
theorem dX9_lessens_43 : decode cX9_lessens 43 = .ok (.lstore 6, 2) := by decide +kernel
theorem dX9_lessens_45 : decode cX9_lessens 45 = .ok (.goto (-22), 3) := by decide +kernel
theorem dX9_lessens_48 : decode cX9_lessens 48 = .ok (.lload 4, 2) := by decide +kernel
theorem dX9_lessens_50 : decode cX9_lessens 50 = .ok (.lstore_n 1, 1) := by decide +kernel
theorem dX9_lessens_51 : decode cX9_lessens 51 = .ok (.iinc 3 1, 3) := by decide +kernel
theorem dX9_lessens_54 : decode cX9_lessens 54 = .ok (.goto (-50), 3) := by decide +kernel
theorem dX9_lessens_57 : decode cX9_lessens 57 = .ok (.lload_n 1, 1) := by decide +kernel
theorem dX9_lessens_58 : decode cX9_lessens 58 = .ok (.ldc2_w 230, 3) := by decide +kernel
theorem dX9_lessens_61 : decode cX9_lessens 61 = .ok (.lcmp, 1) := by decide +kernel
theorem dX9_lessens_62 : decode cX9_lessens 62 = .ok (.ifCond .ge 4, 3) := by decide +kernel
theorem dX9_lessens_65 : decode cX9_lessens 65 = .ok (.return_, 1) := by decide +kernel
theorem dX9_lessens_66 : decode cX9_lessens 66 = .ok (.iconst 0, 1) := by decide +kernel
theorem dX9_lessens_67 : decode cX9_lessens 67 = .ok (.istore_n 3, 1) := by decide +kernel
theorem dX9_lessens_68 : decode cX9_lessens 68 = .ok (.iload_n 3, 1) := by decide +kernel
theorem dX9_lessens_69 : decode cX9_lessens 69 = .ok (.aload_n 0, 1) := by decide +kernel
theorem dX9_lessens_70 : decode cX9_lessens 70 = .ok (.getfield 7, 3) := by decide +kernel
theorem dX9_lessens_73 : decode cX9_lessens 73 = .ok (.if_icmp .ge 19, 3) := by decide +kernel
theorem dX9_lessens_76 : decode cX9_lessens 76 = .ok (.aload_n 0, 1) := by decide +kernel
theorem dX9_lessens_77 : decode cX9_lessens 77 = .ok (.getfield 56, 3) := by decide +kernel
theorem dX9_lessens_80 : decode cX9_lessens 80 = .ok (.iload_n 3, 1) := by decide +kernel
theorem dX9_lessens_81 : decode cX9_lessens 81 = .ok (.dup2, 1) := by decide +kernel
theorem dX9_lessens_82 : decode cX9_lessens 82 = .ok (.laload, 1) := by decide +kernel
theorem dX9_lessens_83 : decode cX9_lessens 83 = .ok (.lload_n 1, 1) := by decide +kernel
theorem dX9_lessens_84 : decode cX9_lessens 84 = .ok (.ldiv, 1) := by decide +kernel
theorem dX9_lessens_85 : decode cX9_lessens 85 = .ok (.lastore, 1) := by decide +kernel
theorem dX9_lessens_86 : decode cX9_lessens 86 = .ok (.iinc 3 1, 3) := by decide +kernel
theorem dX9_lessens_89 : decode cX9_lessens 89 = .ok (.goto (-21), 3) := by decide +kernel
theorem dX9_lessens_92 : decode cX9_lessens 92 = .ok (.return_, 1) := by decide +kernel
theorem dX9_goneTo_0 : decode cX9_goneTo 0 = .ok (.iload_n 3, 1) := by decide +kernel
theorem dX9_goneTo_1 : decode cX9_goneTo 1 = .ok (.ifCond .eq 9, 3) := by decide +kernel
theorem dX9_goneTo_4 : decode cX9_goneTo 4 = .ok (.iload_n 1, 1) := by decide +kernel
theorem dX9_goneTo_5 : decode cX9_goneTo 5 = .ok (.iload_n 2, 1) := by decide +kernel
theorem dX9_goneTo_6 : decode cX9_goneTo 6 = .ok (.isub, 1) := by decide +kernel
theorem dX9_goneTo_7 : decode cX9_goneTo 7 = .ok (.goto 6, 3) := by decide +kernel
theorem dX9_goneTo_10 : decode cX9_goneTo 10 = .ok (.iload_n 1, 1) := by decide +kernel
theorem dX9_goneTo_11 : decode cX9_goneTo 11 = .ok (.iload_n 2, 1) := by decide +kernel
theorem dX9_goneTo_12 : decode cX9_goneTo 12 = .ok (.iadd, 1) := by decide +kernel
theorem dX9_goneTo_13 : decode cX9_goneTo 13 = .ok (.istore 4, 2) := by decide +kernel
theorem dX9_goneTo_15 : decode cX9_goneTo 15 = .ok (.iload 4, 2) := by decide +kernel
theorem dX9_goneTo_17 : decode cX9_goneTo 17 = .ok (.ifCond .ge 7, 3) := by decide +kernel
theorem dX9_goneTo_20 : decode cX9_goneTo 20 = .ok (.iconst 0, 1) := by decide +kernel
theorem dX9_goneTo_21 : decode cX9_goneTo 21 = .ok (.goto 23, 3) := by decide +kernel
theorem dX9_goneTo_24 : decode cX9_goneTo 24 = .ok (.iload 4, 2) := by decide +kernel
theorem dX9_goneTo_26 : decode cX9_goneTo 26 = .ok (.aload_n 0, 1) := by decide +kernel
theorem dX9_goneTo_27 : decode cX9_goneTo 27 = .ok (.getfield 7, 3) := by decide +kernel
theorem dX9_goneTo_30 : decode cX9_goneTo 30 = .ok (.if_icmp .lt 12, 3) := by decide +kernel
theorem dX9_goneTo_33 : decode cX9_goneTo 33 = .ok (.aload_n 0, 1) := by decide +kernel
theorem dX9_goneTo_34 : decode cX9_goneTo 34 = .ok (.getfield 7, 3) := by decide +kernel
theorem dX9_goneTo_37 : decode cX9_goneTo 37 = .ok (.iconst 1, 1) := by decide +kernel
theorem dX9_goneTo_38 : decode cX9_goneTo 38 = .ok (.isub, 1) := by decide +kernel
theorem dX9_goneTo_39 : decode cX9_goneTo 39 = .ok (.goto 5, 3) := by decide +kernel
theorem dX9_goneTo_42 : decode cX9_goneTo 42 = .ok (.iload 4, 2) := by decide +kernel
theorem dX9_goneTo_44 : decode cX9_goneTo 44 = .ok (.ireturn, 1) := by decide +kernel
theorem dX9_steps_0 : decode cX9_steps 0 = .ok (.iconst 0, 1) := by decide +kernel
theorem dX9_steps_1 : decode cX9_steps 1 = .ok (.istore_n 2, 1) := by decide +kernel
theorem dX9_steps_2 : decode cX9_steps 2 = .ok (.iload_n 2, 1) := by decide +kernel
theorem dX9_steps_3 : decode cX9_steps 3 = .ok (.aload_n 0, 1) := by decide +kernel
theorem dX9_steps_4 : decode cX9_steps 4 = .ok (.getfield 7, 3) := by decide +kernel
theorem dX9_steps_7 : decode cX9_steps 7 = .ok (.if_icmp .ge 16, 3) := by decide +kernel
theorem dX9_steps_10 : decode cX9_steps 10 = .ok (.aload_n 0, 1) := by decide +kernel
theorem dX9_steps_11 : decode cX9_steps 11 = .ok (.getfield 60, 3) := by decide +kernel
theorem dX9_steps_14 : decode cX9_steps 14 = .ok (.iload_n 2, 1) := by decide +kernel
theorem dX9_steps_15 : decode cX9_steps 15 = .ok (.lconst 0, 1) := by decide +kernel
theorem dX9_steps_16 : decode cX9_steps 16 = .ok (.lastore, 1) := by decide +kernel
theorem dX9_steps_17 : decode cX9_steps 17 = .ok (.iinc 2 1, 3) := by decide +kernel
theorem dX9_steps_20 : decode cX9_steps 20 = .ok (.goto (-18), 3) := by decide +kernel
theorem dX9_steps_23 : decode cX9_steps 23 = .ok (.iconst 0, 1) := by decide +kernel
theorem dX9_steps_24 : decode cX9_steps 24 = .ok (.istore_n 2, 1) := by decide +kernel
theorem dX9_steps_25 : decode cX9_steps 25 = .ok (.iload_n 2, 1) := by decide +kernel
theorem dX9_steps_26 : decode cX9_steps 26 = .ok (.aload_n 0, 1) := by decide +kernel
theorem dX9_steps_27 : decode cX9_steps 27 = .ok (.getfield 7, 3) := by decide +kernel
theorem dX9_steps_30 : decode cX9_steps 30 = .ok (.if_icmp .ge 92, 3) := by decide +kernel
theorem dX9_steps_33 : decode cX9_steps 33 = .ok (.aload_n 0, 1) := by decide +kernel
theorem dX9_steps_34 : decode cX9_steps 34 = .ok (.getfield 60, 3) := by decide +kernel
theorem dX9_steps_37 : decode cX9_steps 37 = .ok (.iload_n 2, 1) := by decide +kernel
theorem dX9_steps_38 : decode cX9_steps 38 = .ok (.dup2, 1) := by decide +kernel
theorem dX9_steps_39 : decode cX9_steps 39 = .ok (.laload, 1) := by decide +kernel
theorem dX9_steps_40 : decode cX9_steps 40 = .ok (.aload_n 0, 1) := by decide +kernel
theorem dX9_steps_41 : decode cX9_steps 41 = .ok (.getfield 13, 3) := by decide +kernel
theorem dX9_steps_44 : decode cX9_steps 44 = .ok (.i2l, 1) := by decide +kernel
theorem dX9_steps_45 : decode cX9_steps 45 = .ok (.aload_n 0, 1) := by decide +kernel
theorem dX9_steps_46 : decode cX9_steps 46 = .ok (.getfield 56, 3) := by decide +kernel
theorem dX9_steps_49 : decode cX9_steps 49 = .ok (.iload_n 2, 1) := by decide +kernel
theorem dX9_steps_50 : decode cX9_steps 50 = .ok (.laload, 1) := by decide +kernel
theorem dX9_steps_51 : decode cX9_steps 51 = .ok (.lmul, 1) := by decide +kernel
theorem dX9_steps_52 : decode cX9_steps 52 = .ok (.ladd, 1) := by decide +kernel
theorem dX9_steps_53 : decode cX9_steps 53 = .ok (.lastore, 1) := by decide +kernel
theorem dX9_steps_54 : decode cX9_steps 54 = .ok (.aload_n 0, 1) := by decide +kernel
theorem dX9_steps_55 : decode cX9_steps 55 = .ok (.getfield 60, 3) := by decide +kernel
theorem dX9_steps_58 : decode cX9_steps 58 = .ok (.aload_n 0, 1) := by decide +kernel
theorem dX9_steps_59 : decode cX9_steps 59 = .ok (.iload_n 2, 1) := by decide +kernel
theorem dX9_steps_60 : decode cX9_steps 60 = .ok (.iconst 2, 1) := by decide +kernel
theorem dX9_steps_61 : decode cX9_steps 61 = .ok (.iload_n 1, 1) := by decide +kernel
theorem dX9_steps_62 : decode cX9_steps 62 = .ok (.invokevirtual 232, 3) := by decide +kernel
theorem dX9_steps_65 : decode cX9_steps 65 = .ok (.dup2, 1) := by decide +kernel
theorem dX9_steps_66 : decode cX9_steps 66 = .ok (.laload, 1) := by decide +kernel
theorem dX9_steps_67 : decode cX9_steps 67 = .ok (.aload_n 0, 1) := by decide +kernel
theorem dX9_steps_68 : decode cX9_steps 68 = .ok (.getfield 16, 3) := by decide +kernel
theorem dX9_steps_71 : decode cX9_steps 71 = .ok (.i2l, 1) := by decide +kernel
theorem dX9_steps_72 : decode cX9_steps 72 = .ok (.aload_n 0, 1) := by decide +kernel
theorem dX9_steps_73 : decode cX9_steps 73 = .ok (.getfield 56, 3) := by decide +kernel
theorem dX9_steps_76 : decode cX9_steps 76 = .ok (.iload_n 2, 1) := by decide +kernel
theorem dX9_steps_77 : decode cX9_steps 77 = .ok (.laload, 1) := by decide +kernel
theorem dX9_steps_78 : decode cX9_steps 78 = .ok (.lmul, 1) := by decide +kernel
theorem dX9_steps_79 : decode cX9_steps 79 = .ok (.ladd, 1) := by decide +kernel
theorem dX9_steps_80 : decode cX9_steps 80 = .ok (.lastore, 1) := by decide +kernel
theorem dX9_steps_81 : decode cX9_steps 81 = .ok (.aload_n 0, 1) := by decide +kernel
theorem dX9_steps_82 : decode cX9_steps 82 = .ok (.getfield 60, 3) := by decide +kernel
theorem dX9_steps_85 : decode cX9_steps 85 = .ok (.aload_n 0, 1) := by decide +kernel
theorem dX9_steps_86 : decode cX9_steps 86 = .ok (.iload_n 2, 1) := by decide +kernel
theorem dX9_steps_87 : decode cX9_steps 87 = .ok (.iconst 1, 1) := by decide +kernel
theorem dX9_steps_88 : decode cX9_steps 88 = .ok (.iload_n 1, 1) := by decide +kernel
theorem dX9_steps_89 : decode cX9_steps 89 = .ok (.invokevirtual 232, 3) := by decide +kernel
theorem dX9_steps_92 : decode cX9_steps 92 = .ok (.dup2, 1) := by decide +kernel
theorem dX9_steps_93 : decode cX9_steps 93 = .ok (.laload, 1) := by decide +kernel
theorem dX9_steps_94 : decode cX9_steps 94 = .ok (.bipush 10, 2) := by decide +kernel
theorem dX9_steps_96 : decode cX9_steps 96 = .ok (.aload_n 0, 1) := by decide +kernel
theorem dX9_steps_97 : decode cX9_steps 97 = .ok (.getfield 13, 3) := by decide +kernel
theorem dX9_steps_100 : decode cX9_steps 100 = .ok (.isub, 1) := by decide +kernel
theorem dX9_steps_101 : decode cX9_steps 101 = .ok (.aload_n 0, 1) := by decide +kernel
theorem dX9_steps_102 : decode cX9_steps 102 = .ok (.getfield 16, 3) := by decide +kernel
theorem dX9_steps_105 : decode cX9_steps 105 = .ok (.isub, 1) := by decide +kernel
theorem dX9_steps_106 : decode cX9_steps 106 = .ok (.i2l, 1) := by decide +kernel
theorem dX9_steps_107 : decode cX9_steps 107 = .ok (.aload_n 0, 1) := by decide +kernel
theorem dX9_steps_108 : decode cX9_steps 108 = .ok (.getfield 56, 3) := by decide +kernel
theorem dX9_steps_111 : decode cX9_steps 111 = .ok (.iload_n 2, 1) := by decide +kernel
theorem dX9_steps_112 : decode cX9_steps 112 = .ok (.laload, 1) := by decide +kernel
theorem dX9_steps_113 : decode cX9_steps 113 = .ok (.lmul, 1) := by decide +kernel
theorem dX9_steps_114 : decode cX9_steps 114 = .ok (.ladd, 1) := by decide +kernel
theorem dX9_steps_115 : decode cX9_steps 115 = .ok (.lastore, 1) := by decide +kernel
theorem dX9_steps_116 : decode cX9_steps 116 = .ok (.iinc 2 1, 3) := by decide +kernel
theorem dX9_steps_119 : decode cX9_steps 119 = .ok (.goto (-94), 3) := by decide +kernel
theorem dX9_steps_122 : decode cX9_steps 122 = .ok (.iconst 0, 1) := by decide +kernel
theorem dX9_steps_123 : decode cX9_steps 123 = .ok (.istore_n 2, 1) := by decide +kernel
theorem dX9_steps_124 : decode cX9_steps 124 = .ok (.iload_n 2, 1) := by decide +kernel
theorem dX9_steps_125 : decode cX9_steps 125 = .ok (.aload_n 0, 1) := by decide +kernel
theorem dX9_steps_126 : decode cX9_steps 126 = .ok (.getfield 7, 3) := by decide +kernel
theorem dX9_steps_129 : decode cX9_steps 129 = .ok (.if_icmp .ge 21, 3) := by decide +kernel
theorem dX9_steps_132 : decode cX9_steps 132 = .ok (.aload_n 0, 1) := by decide +kernel
theorem dX9_steps_133 : decode cX9_steps 133 = .ok (.getfield 56, 3) := by decide +kernel
theorem dX9_steps_136 : decode cX9_steps 136 = .ok (.iload_n 2, 1) := by decide +kernel
theorem dX9_steps_137 : decode cX9_steps 137 = .ok (.aload_n 0, 1) := by decide +kernel
theorem dX9_steps_138 : decode cX9_steps 138 = .ok (.getfield 60, 3) := by decide +kernel
theorem dX9_steps_141 : decode cX9_steps 141 = .ok (.iload_n 2, 1) := by decide +kernel
theorem dX9_steps_142 : decode cX9_steps 142 = .ok (.laload, 1) := by decide +kernel
theorem dX9_steps_143 : decode cX9_steps 143 = .ok (.lastore, 1) := by decide +kernel
theorem dX9_steps_144 : decode cX9_steps 144 = .ok (.iinc 2 1, 3) := by decide +kernel
theorem dX9_steps_147 : decode cX9_steps 147 = .ok (.goto (-23), 3) := by decide +kernel
theorem dX9_steps_150 : decode cX9_steps 150 = .ok (.aload_n 0, 1) := by decide +kernel
theorem dX9_steps_151 : decode cX9_steps 151 = .ok (.invokevirtual 236, 3) := by decide +kernel
theorem dX9_steps_154 : decode cX9_steps 154 = .ok (.aload_n 0, 1) := by decide +kernel
theorem dX9_steps_155 : decode cX9_steps 155 = .ok (.dup, 1) := by decide +kernel
theorem dX9_steps_156 : decode cX9_steps 156 = .ok (.getfield 136, 3) := by decide +kernel
theorem dX9_steps_159 : decode cX9_steps 159 = .ok (.iconst 1, 1) := by decide +kernel
theorem dX9_steps_160 : decode cX9_steps 160 = .ok (.iadd, 1) := by decide +kernel
theorem dX9_steps_161 : decode cX9_steps 161 = .ok (.putfield 136, 3) := by decide +kernel
theorem dX9_steps_164 : decode cX9_steps 164 = .ok (.aload_n 0, 1) := by decide +kernel
theorem dX9_steps_165 : decode cX9_steps 165 = .ok (.dup, 1) := by decide +kernel
theorem dX9_steps_166 : decode cX9_steps 166 = .ok (.getfield 129, 3) := by decide +kernel
theorem dX9_steps_169 : decode cX9_steps 169 = .ok (.iconst 1, 1) := by decide +kernel
theorem dX9_steps_170 : decode cX9_steps 170 = .ok (.iadd, 1) := by decide +kernel
theorem dX9_steps_171 : decode cX9_steps 171 = .ok (.putfield 129, 3) := by decide +kernel
theorem dX9_steps_174 : decode cX9_steps 174 = .ok (.return_, 1) := by decide +kernel
theorem dX9_canBe_0 : decode cX9_canBe 0 = .ok (.iconst 0, 1) := by decide +kernel
theorem dX9_canBe_1 : decode cX9_canBe 1 = .ok (.istore_n 3, 1) := by decide +kernel
theorem dX9_canBe_2 : decode cX9_canBe 2 = .ok (.iload_n 3, 1) := by decide +kernel
theorem dX9_canBe_3 : decode cX9_canBe 3 = .ok (.aload_n 0, 1) := by decide +kernel
theorem dX9_canBe_4 : decode cX9_canBe 4 = .ok (.getfield 7, 3) := by decide +kernel
theorem dX9_canBe_7 : decode cX9_canBe 7 = .ok (.if_icmp .ge 49, 3) := by decide +kernel
theorem dX9_canBe_10 : decode cX9_canBe 10 = .ok (.aload_n 0, 1) := by decide +kernel
theorem dX9_canBe_11 : decode cX9_canBe 11 = .ok (.iload_n 1, 1) := by decide +kernel
theorem dX9_canBe_12 : decode cX9_canBe 12 = .ok (.iload_n 3, 1) := by decide +kernel
theorem dX9_canBe_13 : decode cX9_canBe 13 = .ok (.invokevirtual 132, 3) := by decide +kernel
theorem dX9_canBe_16 : decode cX9_canBe 16 = .ok (.istore 4, 2) := by decide +kernel
theorem dX9_canBe_18 : decode cX9_canBe 18 = .ok (.aload_n 0, 1) := by decide +kernel
theorem dX9_canBe_19 : decode cX9_canBe 19 = .ok (.getfield 56, 3) := by decide +kernel
theorem dX9_canBe_22 : decode cX9_canBe 22 = .ok (.iload_n 3, 1) := by decide +kernel
theorem dX9_canBe_23 : decode cX9_canBe 23 = .ok (.laload, 1) := by decide +kernel
theorem dX9_canBe_24 : decode cX9_canBe 24 = .ok (.lconst 0, 1) := by decide +kernel
theorem dX9_canBe_25 : decode cX9_canBe 25 = .ok (.lcmp, 1) := by decide +kernel
theorem dX9_canBe_26 : decode cX9_canBe 26 = .ok (.ifCond .le 24, 3) := by decide +kernel
theorem dX9_canBe_29 : decode cX9_canBe 29 = .ok (.iload_n 2, 1) := by decide +kernel
theorem dX9_canBe_30 : decode cX9_canBe 30 = .ok (.ifCond .eq 11, 3) := by decide +kernel
theorem dX9_canBe_33 : decode cX9_canBe 33 = .ok (.iload 4, 2) := by decide +kernel
theorem dX9_canBe_35 : decode cX9_canBe 35 = .ok (.ifCond .le 15, 3) := by decide +kernel
theorem dX9_canBe_38 : decode cX9_canBe 38 = .ok (.goto 10, 3) := by decide +kernel
theorem dX9_canBe_41 : decode cX9_canBe 41 = .ok (.iload 4, 2) := by decide +kernel
theorem dX9_canBe_43 : decode cX9_canBe 43 = .ok (.bipush 10, 2) := by decide +kernel
theorem dX9_canBe_45 : decode cX9_canBe 45 = .ok (.if_icmp .ge 5, 3) := by decide +kernel
theorem dX9_canBe_48 : decode cX9_canBe 48 = .ok (.iconst 1, 1) := by decide +kernel
theorem dX9_canBe_49 : decode cX9_canBe 49 = .ok (.ireturn, 1) := by decide +kernel
theorem dX9_canBe_50 : decode cX9_canBe 50 = .ok (.iinc 3 1, 3) := by decide +kernel
theorem dX9_canBe_53 : decode cX9_canBe 53 = .ok (.goto (-51), 3) := by decide +kernel
theorem dX9_canBe_56 : decode cX9_canBe 56 = .ok (.iconst 0, 1) := by decide +kernel
theorem dX9_canBe_57 : decode cX9_canBe 57 = .ok (.ireturn, 1) := by decide +kernel
theorem dX9_feels_0 : decode cX9_feels 0 = .ok (.iconst 0, 1) := by decide +kernel
theorem dX9_feels_1 : decode cX9_feels 1 = .ok (.istore_n 3, 1) := by decide +kernel
theorem dX9_feels_2 : decode cX9_feels 2 = .ok (.iload_n 3, 1) := by decide +kernel
theorem dX9_feels_3 : decode cX9_feels 3 = .ok (.aload_n 0, 1) := by decide +kernel
theorem dX9_feels_4 : decode cX9_feels 4 = .ok (.getfield 7, 3) := by decide +kernel
theorem dX9_feels_7 : decode cX9_feels 7 = .ok (.if_icmp .ge 42, 3) := by decide +kernel
theorem dX9_feels_10 : decode cX9_feels 10 = .ok (.aload_n 0, 1) := by decide +kernel
theorem dX9_feels_11 : decode cX9_feels 11 = .ok (.iload_n 1, 1) := by decide +kernel
theorem dX9_feels_12 : decode cX9_feels 12 = .ok (.iload_n 3, 1) := by decide +kernel
theorem dX9_feels_13 : decode cX9_feels 13 = .ok (.invokevirtual 132, 3) := by decide +kernel
theorem dX9_feels_16 : decode cX9_feels 16 = .ok (.istore 4, 2) := by decide +kernel
theorem dX9_feels_18 : decode cX9_feels 18 = .ok (.aload_n 0, 1) := by decide +kernel
theorem dX9_feels_19 : decode cX9_feels 19 = .ok (.getfield 56, 3) := by decide +kernel
theorem dX9_feels_22 : decode cX9_feels 22 = .ok (.iload_n 3, 1) := by decide +kernel
theorem dX9_feels_23 : decode cX9_feels 23 = .ok (.dup2, 1) := by decide +kernel
theorem dX9_feels_24 : decode cX9_feels 24 = .ok (.laload, 1) := by decide +kernel
theorem dX9_feels_25 : decode cX9_feels 25 = .ok (.iload_n 2, 1) := by decide +kernel
theorem dX9_feels_26 : decode cX9_feels 26 = .ok (.ifCond .eq 9, 3) := by decide +kernel
theorem dX9_feels_29 : decode cX9_feels 29 = .ok (.iload 4, 2) := by decide +kernel
theorem dX9_feels_31 : decode cX9_feels 31 = .ok (.i2l, 1) := by decide +kernel
theorem dX9_feels_32 : decode cX9_feels 32 = .ok (.goto 9, 3) := by decide +kernel
theorem dX9_feels_35 : decode cX9_feels 35 = .ok (.bipush 10, 2) := by decide +kernel
theorem dX9_feels_37 : decode cX9_feels 37 = .ok (.iload 4, 2) := by decide +kernel
theorem dX9_feels_39 : decode cX9_feels 39 = .ok (.isub, 1) := by decide +kernel
theorem dX9_feels_40 : decode cX9_feels 40 = .ok (.i2l, 1) := by decide +kernel
theorem dX9_feels_41 : decode cX9_feels 41 = .ok (.lmul, 1) := by decide +kernel
theorem dX9_feels_42 : decode cX9_feels 42 = .ok (.lastore, 1) := by decide +kernel
theorem dX9_feels_43 : decode cX9_feels 43 = .ok (.iinc 3 1, 3) := by decide +kernel
theorem dX9_feels_46 : decode cX9_feels 46 = .ok (.goto (-44), 3) := by decide +kernel
theorem dX9_feels_49 : decode cX9_feels 49 = .ok (.aload_n 0, 1) := by decide +kernel
theorem dX9_feels_50 : decode cX9_feels 50 = .ok (.invokevirtual 236, 3) := by decide +kernel
theorem dX9_feels_53 : decode cX9_feels 53 = .ok (.aload_n 0, 1) := by decide +kernel
theorem dX9_feels_54 : decode cX9_feels 54 = .ok (.dup, 1) := by decide +kernel
theorem dX9_feels_55 : decode cX9_feels 55 = .ok (.getfield 136, 3) := by decide +kernel
theorem dX9_feels_58 : decode cX9_feels 58 = .ok (.iconst 1, 1) := by decide +kernel
theorem dX9_feels_59 : decode cX9_feels 59 = .ok (.iadd, 1) := by decide +kernel
theorem dX9_feels_60 : decode cX9_feels 60 = .ok (.putfield 136, 3) := by decide +kernel
theorem dX9_feels_63 : decode cX9_feels 63 = .ok (.return_, 1) := by decide +kernel
theorem dX9_step_0 : decode cX9_step 0 = .ok (.aload_n 0, 1) := by decide +kernel
theorem dX9_step_1 : decode cX9_step 1 = .ok (.getfield 136, 3) := by decide +kernel
theorem dX9_step_4 : decode cX9_step 4 = .ok (.bipush 16, 2) := by decide +kernel
theorem dX9_step_6 : decode cX9_step 6 = .ok (.if_icmp .ne 10, 3) := by decide +kernel
theorem dX9_step_9 : decode cX9_step 9 = .ok (.aload_n 0, 1) := by decide +kernel
theorem dX9_step_10 : decode cX9_step 10 = .ok (.bipush (-7), 2) := by decide +kernel
theorem dX9_step_12 : decode cX9_step 12 = .ok (.invokevirtual 122, 3) := by decide +kernel
theorem dX9_step_15 : decode cX9_step 15 = .ok (.ireturn, 1) := by decide +kernel
theorem dX9_step_16 : decode cX9_step 16 = .ok (.aload_n 0, 1) := by decide +kernel
theorem dX9_step_17 : decode cX9_step 17 = .ok (.iload_n 1, 1) := by decide +kernel
theorem dX9_step_18 : decode cX9_step 18 = .ok (.invokevirtual 239, 3) := by decide +kernel
theorem dX9_step_21 : decode cX9_step 21 = .ok (.aload_n 0, 1) := by decide +kernel
theorem dX9_step_22 : decode cX9_step 22 = .ok (.getfield 136, 3) := by decide +kernel
theorem dX9_step_25 : decode cX9_step 25 = .ok (.ireturn, 1) := by decide +kernel
theorem dX9_feel_0 : decode cX9_feel 0 = .ok (.aload_n 0, 1) := by decide +kernel
theorem dX9_feel_1 : decode cX9_feel 1 = .ok (.iload_n 1, 1) := by decide +kernel
theorem dX9_feel_2 : decode cX9_feel 2 = .ok (.invokevirtual 126, 3) := by decide +kernel
theorem dX9_feel_5 : decode cX9_feel 5 = .ok (.ifCond .ne 9, 3) := by decide +kernel
theorem dX9_feel_8 : decode cX9_feel 8 = .ok (.aload_n 0, 1) := by decide +kernel
theorem dX9_feel_9 : decode cX9_feel 9 = .ok (.iconst (-1), 1) := by decide +kernel
theorem dX9_feel_10 : decode cX9_feel 10 = .ok (.invokevirtual 122, 3) := by decide +kernel
theorem dX9_feel_13 : decode cX9_feel 13 = .ok (.ireturn, 1) := by decide +kernel
theorem dX9_feel_14 : decode cX9_feel 14 = .ok (.aload_n 0, 1) := by decide +kernel
theorem dX9_feel_15 : decode cX9_feel 15 = .ok (.iload_n 1, 1) := by decide +kernel
theorem dX9_feel_16 : decode cX9_feel 16 = .ok (.iload_n 2, 1) := by decide +kernel
theorem dX9_feel_17 : decode cX9_feel 17 = .ok (.invokevirtual 242, 3) := by decide +kernel
theorem dX9_feel_20 : decode cX9_feel 20 = .ok (.ifCond .ne 10, 3) := by decide +kernel
theorem dX9_feel_23 : decode cX9_feel 23 = .ok (.aload_n 0, 1) := by decide +kernel
theorem dX9_feel_24 : decode cX9_feel 24 = .ok (.bipush (-6), 2) := by decide +kernel
theorem dX9_feel_26 : decode cX9_feel 26 = .ok (.invokevirtual 122, 3) := by decide +kernel
theorem dX9_feel_29 : decode cX9_feel 29 = .ok (.ireturn, 1) := by decide +kernel
theorem dX9_feel_30 : decode cX9_feel 30 = .ok (.aload_n 0, 1) := by decide +kernel
theorem dX9_feel_31 : decode cX9_feel 31 = .ok (.getfield 136, 3) := by decide +kernel
theorem dX9_feel_34 : decode cX9_feel 34 = .ok (.bipush 16, 2) := by decide +kernel
theorem dX9_feel_36 : decode cX9_feel 36 = .ok (.if_icmp .ne 10, 3) := by decide +kernel
theorem dX9_feel_39 : decode cX9_feel 39 = .ok (.aload_n 0, 1) := by decide +kernel
theorem dX9_feel_40 : decode cX9_feel 40 = .ok (.bipush (-7), 2) := by decide +kernel
theorem dX9_feel_42 : decode cX9_feel 42 = .ok (.invokevirtual 122, 3) := by decide +kernel
theorem dX9_feel_45 : decode cX9_feel 45 = .ok (.ireturn, 1) := by decide +kernel
theorem dX9_feel_46 : decode cX9_feel 46 = .ok (.aload_n 0, 1) := by decide +kernel
theorem dX9_feel_47 : decode cX9_feel 47 = .ok (.iload_n 1, 1) := by decide +kernel
theorem dX9_feel_48 : decode cX9_feel 48 = .ok (.iload_n 2, 1) := by decide +kernel
theorem dX9_feel_49 : decode cX9_feel 49 = .ok (.invokevirtual 246, 3) := by decide +kernel
theorem dX9_feel_52 : decode cX9_feel 52 = .ok (.aload_n 0, 1) := by decide +kernel
theorem dX9_feel_53 : decode cX9_feel 53 = .ok (.getfield 136, 3) := by decide +kernel
theorem dX9_feel_56 : decode cX9_feel 56 = .ok (.ireturn, 1) := by decide +kernel
theorem dX9_sure_0 : decode cX9_sure 0 = .ok (.iconst 0, 1) := by decide +kernel
theorem dX9_sure_1 : decode cX9_sure 1 = .ok (.istore_n 1, 1) := by decide +kernel
theorem dX9_sure_2 : decode cX9_sure 2 = .ok (.iconst 1, 1) := by decide +kernel
theorem dX9_sure_3 : decode cX9_sure 3 = .ok (.istore_n 2, 1) := by decide +kernel
theorem dX9_sure_4 : decode cX9_sure 4 = .ok (.iload_n 2, 1) := by decide +kernel
theorem dX9_sure_5 : decode cX9_sure 5 = .ok (.aload_n 0, 1) := by decide +kernel
theorem dX9_sure_6 : decode cX9_sure 6 = .ok (.getfield 7, 3) := by decide +kernel
theorem dX9_sure_9 : decode cX9_sure 9 = .ok (.if_icmp .ge 27, 3) := by decide +kernel
theorem dX9_sure_12 : decode cX9_sure 12 = .ok (.aload_n 0, 1) := by decide +kernel
theorem dX9_sure_13 : decode cX9_sure 13 = .ok (.getfield 56, 3) := by decide +kernel
theorem dX9_sure_16 : decode cX9_sure 16 = .ok (.iload_n 2, 1) := by decide +kernel
theorem dX9_sure_17 : decode cX9_sure 17 = .ok (.laload, 1) := by decide +kernel
theorem dX9_sure_18 : decode cX9_sure 18 = .ok (.aload_n 0, 1) := by decide +kernel
theorem dX9_sure_19 : decode cX9_sure 19 = .ok (.getfield 56, 3) := by decide +kernel
theorem dX9_sure_22 : decode cX9_sure 22 = .ok (.iload_n 1, 1) := by decide +kernel
theorem dX9_sure_23 : decode cX9_sure 23 = .ok (.laload, 1) := by decide +kernel
theorem dX9_sure_24 : decode cX9_sure 24 = .ok (.lcmp, 1) := by decide +kernel
theorem dX9_sure_25 : decode cX9_sure 25 = .ok (.ifCond .le 5, 3) := by decide +kernel
theorem dX9_sure_28 : decode cX9_sure 28 = .ok (.iload_n 2, 1) := by decide +kernel
theorem dX9_sure_29 : decode cX9_sure 29 = .ok (.istore_n 1, 1) := by decide +kernel
theorem dX9_sure_30 : decode cX9_sure 30 = .ok (.iinc 2 1, 3) := by decide +kernel
theorem dX9_sure_33 : decode cX9_sure 33 = .ok (.goto (-29), 3) := by decide +kernel
theorem dX9_sure_36 : decode cX9_sure 36 = .ok (.iload_n 1, 1) := by decide +kernel
theorem dX9_sure_37 : decode cX9_sure 37 = .ok (.ireturn, 1) := by decide +kernel
theorem dX9_where_0 : decode cX9_where 0 = .ok (.aload_n 0, 1) := by decide +kernel
theorem dX9_where_1 : decode cX9_where 1 = .ok (.invokevirtual 250, 3) := by decide +kernel
theorem dX9_where_4 : decode cX9_where 4 = .ok (.ireturn, 1) := by decide +kernel
theorem dX9_isLost_0 : decode cX9_isLost 0 = .ok (.ldc2_w 230, 3) := by decide +kernel
theorem dX9_isLost_3 : decode cX9_isLost 3 = .ok (.aload_n 0, 1) := by decide +kernel
theorem dX9_isLost_4 : decode cX9_isLost 4 = .ok (.getfield 56, 3) := by decide +kernel
theorem dX9_isLost_7 : decode cX9_isLost 7 = .ok (.aload_n 0, 1) := by decide +kernel
theorem dX9_isLost_8 : decode cX9_isLost 8 = .ok (.invokevirtual 250, 3) := by decide +kernel
theorem dX9_isLost_11 : decode cX9_isLost 11 = .ok (.laload, 1) := by decide +kernel
theorem dX9_isLost_12 : decode cX9_isLost 12 = .ok (.lmul, 1) := by decide +kernel
theorem dX9_isLost_13 : decode cX9_isLost 13 = .ok (.aload_n 0, 1) := by decide +kernel
theorem dX9_isLost_14 : decode cX9_isLost 14 = .ok (.invokevirtual 226, 3) := by decide +kernel
theorem dX9_isLost_17 : decode cX9_isLost 17 = .ok (.lcmp, 1) := by decide +kernel
theorem dX9_isLost_18 : decode cX9_isLost 18 = .ok (.ifCond .ge 7, 3) := by decide +kernel
theorem dX9_isLost_21 : decode cX9_isLost 21 = .ok (.iconst 1, 1) := by decide +kernel
theorem dX9_isLost_22 : decode cX9_isLost 22 = .ok (.goto 4, 3) := by decide +kernel
theorem dX9_isLost_25 : decode cX9_isLost 25 = .ok (.iconst 0, 1) := by decide +kernel
theorem dX9_isLost_26 : decode cX9_isLost 26 = .ok (.ireturn, 1) := by decide +kernel
theorem dX9_played_0 : decode cX9_played 0 = .ok (.aload_n 0, 1) := by decide +kernel
theorem dX9_played_1 : decode cX9_played 1 = .ok (.iload_n 1, 1) := by decide +kernel
theorem dX9_played_2 : decode cX9_played 2 = .ok (.invokevirtual 161, 3) := by decide +kernel
theorem dX9_played_5 : decode cX9_played 5 = .ok (.istore_n 3, 1) := by decide +kernel
theorem dX9_played_6 : decode cX9_played 6 = .ok (.iload_n 3, 1) := by decide +kernel
theorem dX9_played_7 : decode cX9_played 7 = .ok (.ifCond .eq 5, 3) := by decide +kernel
theorem dX9_played_10 : decode cX9_played 10 = .ok (.iload_n 3, 1) := by decide +kernel
theorem dX9_played_11 : decode cX9_played 11 = .ok (.ireturn, 1) := by decide +kernel
theorem dX9_played_12 : decode cX9_played 12 = .ok (.iload_n 2, 1) := by decide +kernel
theorem dX9_played_13 : decode cX9_played 13 = .ok (.ifCond .ge 6, 3) := by decide +kernel
theorem dX9_played_16 : decode cX9_played 16 = .ok (.bipush (-4), 2) := by decide +kernel
theorem dX9_played_18 : decode cX9_played 18 = .ok (.ireturn, 1) := by decide +kernel
theorem dX9_played_19 : decode cX9_played 19 = .ok (.iload_n 2, 1) := by decide +kernel
theorem dX9_played_20 : decode cX9_played 20 = .ok (.aload_n 0, 1) := by decide +kernel
theorem dX9_played_21 : decode cX9_played 21 = .ok (.getfield 69, 3) := by decide +kernel
theorem dX9_played_24 : decode cX9_played 24 = .ok (.iload_n 1, 1) := by decide +kernel
theorem dX9_played_25 : decode cX9_played 25 = .ok (.iaload, 1) := by decide +kernel
theorem dX9_played_26 : decode cX9_played 26 = .ok (.if_icmp .le 6, 3) := by decide +kernel
theorem dX9_played_29 : decode cX9_played 29 = .ok (.bipush (-5), 2) := by decide +kernel
theorem dX9_played_31 : decode cX9_played 31 = .ok (.ireturn, 1) := by decide +kernel
theorem dX9_played_32 : decode cX9_played 32 = .ok (.iload_n 2, 1) := by decide +kernel
theorem dX9_played_33 : decode cX9_played 33 = .ok (.bipush 16, 2) := by decide +kernel
theorem dX9_played_35 : decode cX9_played 35 = .ok (.if_icmp .le 6, 3) := by decide +kernel
theorem dX9_played_38 : decode cX9_played 38 = .ok (.bipush (-6), 2) := by decide +kernel
theorem dX9_played_40 : decode cX9_played 40 = .ok (.ireturn, 1) := by decide +kernel
theorem dX9_played_41 : decode cX9_played 41 = .ok (.aload_n 0, 1) := by decide +kernel
theorem dX9_played_42 : decode cX9_played 42 = .ok (.getfield 136, 3) := by decide +kernel
theorem dX9_played_45 : decode cX9_played 45 = .ok (.istore 4, 2) := by decide +kernel
theorem dX9_played_47 : decode cX9_played 47 = .ok (.aload_n 0, 1) := by decide +kernel
theorem dX9_played_48 : decode cX9_played 48 = .ok (.getfield 129, 3) := by decide +kernel
theorem dX9_played_51 : decode cX9_played 51 = .ok (.istore 5, 2) := by decide +kernel
theorem dX9_played_53 : decode cX9_played 53 = .ok (.iconst 0, 1) := by decide +kernel
theorem dX9_played_54 : decode cX9_played 54 = .ok (.istore 6, 2) := by decide +kernel
theorem dX9_played_56 : decode cX9_played 56 = .ok (.iload 6, 2) := by decide +kernel
theorem dX9_played_58 : decode cX9_played 58 = .ok (.bipush 24, 2) := by decide +kernel
theorem dX9_played_60 : decode cX9_played 60 = .ok (.if_icmp .ge 23, 3) := by decide +kernel
theorem dX9_played_63 : decode cX9_played 63 = .ok (.aload_n 0, 1) := by decide +kernel
theorem dX9_played_64 : decode cX9_played 64 = .ok (.getfield 99, 3) := by decide +kernel
theorem dX9_played_67 : decode cX9_played 67 = .ok (.iload 6, 2) := by decide +kernel
theorem dX9_played_69 : decode cX9_played 69 = .ok (.aload_n 0, 1) := by decide +kernel
theorem dX9_played_70 : decode cX9_played 70 = .ok (.getfield 56, 3) := by decide +kernel
theorem dX9_played_73 : decode cX9_played 73 = .ok (.iload 6, 2) := by decide +kernel
theorem dX9_played_75 : decode cX9_played 75 = .ok (.laload, 1) := by decide +kernel
theorem dX9_played_76 : decode cX9_played 76 = .ok (.lastore, 1) := by decide +kernel
theorem dX9_played_77 : decode cX9_played 77 = .ok (.iinc 6 1, 3) := by decide +kernel
theorem dX9_played_80 : decode cX9_played 80 = .ok (.goto (-24), 3) := by decide +kernel
theorem dX9_played_83 : decode cX9_played 83 = .ok (.aload_n 0, 1) := by decide +kernel
theorem dX9_played_84 : decode cX9_played 84 = .ok (.iconst (-1), 1) := by decide +kernel
theorem dX9_played_85 : decode cX9_played 85 = .ok (.putfield 253, 3) := by decide +kernel
theorem dX9_played_88 : decode cX9_played 88 = .ok (.iconst 0, 1) := by decide +kernel
theorem dX9_played_89 : decode cX9_played 89 = .ok (.istore 6, 2) := by decide +kernel
theorem dX9_played_91 : decode cX9_played 91 = .ok (.iload 6, 2) := by decide +kernel
theorem dX9_played_93 : decode cX9_played 93 = .ok (.iload_n 2, 1) := by decide +kernel
theorem dX9_played_94 : decode cX9_played 94 = .ok (.if_icmp .ge 179, 3) := by decide +kernel
theorem dX9_played_97 : decode cX9_played 97 = .ok (.aload_n 0, 1) := by decide +kernel
theorem dX9_played_98 : decode cX9_played 98 = .ok (.getfield 253, 3) := by decide +kernel
theorem dX9_played_101 : decode cX9_played 101 = .ok (.iconst (-1), 1) := by decide +kernel
theorem dX9_played_102 : decode cX9_played 102 = .ok (.if_icmp .ne 171, 3) := by decide +kernel
theorem dX9_played_105 : decode cX9_played 105 = .ok (.aload_n 0, 1) := by decide +kernel
theorem dX9_played_106 : decode cX9_played 106 = .ok (.iload_n 1, 1) := by decide +kernel
theorem dX9_played_107 : decode cX9_played 107 = .ok (.iload 6, 2) := by decide +kernel
theorem dX9_played_109 : decode cX9_played 109 = .ok (.invokevirtual 164, 3) := by decide +kernel
theorem dX9_played_112 : decode cX9_played 112 = .ok (.istore 7, 2) := by decide +kernel
theorem dX9_played_114 : decode cX9_played 114 = .ok (.iload 7, 2) := by decide +kernel
theorem dX9_played_116 : decode cX9_played 116 = .ok (.bipush 20, 2) := by decide +kernel
theorem dX9_played_118 : decode cX9_played 118 = .ok (.if_icmp .lt 11, 3) := by decide +kernel
theorem dX9_played_121 : decode cX9_played 121 = .ok (.iload 7, 2) := by decide +kernel
theorem dX9_played_123 : decode cX9_played 123 = .ok (.bipush 20, 2) := by decide +kernel
theorem dX9_played_125 : decode cX9_played 125 = .ok (.isub, 1) := by decide +kernel
theorem dX9_played_126 : decode cX9_played 126 = .ok (.goto 8, 3) := by decide +kernel
theorem dX9_played_129 : decode cX9_played 129 = .ok (.iload 7, 2) := by decide +kernel
theorem dX9_played_131 : decode cX9_played 131 = .ok (.bipush 10, 2) := by decide +kernel
theorem dX9_played_133 : decode cX9_played 133 = .ok (.isub, 1) := by decide +kernel
theorem dX9_played_134 : decode cX9_played 134 = .ok (.istore 8, 2) := by decide +kernel
theorem dX9_played_136 : decode cX9_played 136 = .ok (.iload 7, 2) := by decide +kernel
theorem dX9_played_138 : decode cX9_played 138 = .ok (.ifCond .eq 9, 3) := by decide +kernel
theorem dX9_played_141 : decode cX9_played 141 = .ok (.iload 7, 2) := by decide +kernel
theorem dX9_played_143 : decode cX9_played 143 = .ok (.iconst 1, 1) := by decide +kernel
theorem dX9_played_144 : decode cX9_played 144 = .ok (.if_icmp .ne 7, 3) := by decide +kernel
theorem dX9_played_147 : decode cX9_played 147 = .ok (.iconst 1, 1) := by decide +kernel
theorem dX9_played_148 : decode cX9_played 148 = .ok (.goto 4, 3) := by decide +kernel
theorem dX9_played_151 : decode cX9_played 151 = .ok (.iconst 0, 1) := by decide +kernel
theorem dX9_played_152 : decode cX9_played 152 = .ok (.istore 9, 2) := by decide +kernel
theorem dX9_played_154 : decode cX9_played 154 = .ok (.aload_n 0, 1) := by decide +kernel
theorem dX9_played_155 : decode cX9_played 155 = .ok (.getfield 136, 3) := by decide +kernel
theorem dX9_played_158 : decode cX9_played 158 = .ok (.bipush 16, 2) := by decide +kernel
theorem dX9_played_160 : decode cX9_played 160 = .ok (.if_icmp .ge 49, 3) := by decide +kernel
theorem dX9_played_163 : decode cX9_played 163 = .ok (.iload 9, 2) := by decide +kernel
theorem dX9_played_165 : decode cX9_played 165 = .ok (.ifCond .ne 40, 3) := by decide +kernel
theorem dX9_played_168 : decode cX9_played 168 = .ok (.iload 7, 2) := by decide +kernel
theorem dX9_played_170 : decode cX9_played 170 = .ok (.bipush 10, 2) := by decide +kernel
theorem dX9_played_172 : decode cX9_played 172 = .ok (.if_icmp .lt 37, 3) := by decide +kernel
theorem dX9_played_175 : decode cX9_played 175 = .ok (.aload_n 0, 1) := by decide +kernel
theorem dX9_played_176 : decode cX9_played 176 = .ok (.iload 8, 2) := by decide +kernel
theorem dX9_played_178 : decode cX9_played 178 = .ok (.invokevirtual 126, 3) := by decide +kernel
theorem dX9_played_181 : decode cX9_played 181 = .ok (.ifCond .eq 28, 3) := by decide +kernel
theorem dX9_played_184 : decode cX9_played 184 = .ok (.aload_n 0, 1) := by decide +kernel
theorem dX9_played_185 : decode cX9_played 185 = .ok (.iload 8, 2) := by decide +kernel
theorem dX9_played_187 : decode cX9_played 187 = .ok (.iload 7, 2) := by decide +kernel
theorem dX9_played_189 : decode cX9_played 189 = .ok (.bipush 20, 2) := by decide +kernel
theorem dX9_played_191 : decode cX9_played 191 = .ok (.if_icmp .ge 7, 3) := by decide +kernel
theorem dX9_played_194 : decode cX9_played 194 = .ok (.iconst 1, 1) := by decide +kernel
theorem dX9_played_195 : decode cX9_played 195 = .ok (.goto 4, 3) := by decide +kernel
theorem dX9_played_198 : decode cX9_played 198 = .ok (.iconst 0, 1) := by decide +kernel
theorem dX9_played_199 : decode cX9_played 199 = .ok (.invokevirtual 242, 3) := by decide +kernel
theorem dX9_played_202 : decode cX9_played 202 = .ok (.ifCond .eq 7, 3) := by decide +kernel
theorem dX9_played_205 : decode cX9_played 205 = .ok (.iconst 1, 1) := by decide +kernel
theorem dX9_played_206 : decode cX9_played 206 = .ok (.goto 4, 3) := by decide +kernel
theorem dX9_played_209 : decode cX9_played 209 = .ok (.iconst 0, 1) := by decide +kernel
theorem dX9_played_210 : decode cX9_played 210 = .ok (.istore 10, 2) := by decide +kernel
theorem dX9_played_212 : decode cX9_played 212 = .ok (.iload 10, 2) := by decide +kernel
theorem dX9_played_214 : decode cX9_played 214 = .ok (.ifCond .ne 12, 3) := by decide +kernel
theorem dX9_played_217 : decode cX9_played 217 = .ok (.aload_n 0, 1) := by decide +kernel
theorem dX9_played_218 : decode cX9_played 218 = .ok (.iload 6, 2) := by decide +kernel
theorem dX9_played_220 : decode cX9_played 220 = .ok (.putfield 253, 3) := by decide +kernel
theorem dX9_played_223 : decode cX9_played 223 = .ok (.goto 44, 3) := by decide +kernel
theorem dX9_played_226 : decode cX9_played 226 = .ok (.iload 9, 2) := by decide +kernel
theorem dX9_played_228 : decode cX9_played 228 = .ok (.ifCond .eq 21, 3) := by decide +kernel
theorem dX9_played_231 : decode cX9_played 231 = .ok (.aload_n 0, 1) := by decide +kernel
theorem dX9_played_232 : decode cX9_played 232 = .ok (.iload 7, 2) := by decide +kernel
theorem dX9_played_234 : decode cX9_played 234 = .ok (.iconst 1, 1) := by decide +kernel
theorem dX9_played_235 : decode cX9_played 235 = .ok (.if_icmp .ne 7, 3) := by decide +kernel
theorem dX9_played_238 : decode cX9_played 238 = .ok (.iconst 1, 1) := by decide +kernel
theorem dX9_played_239 : decode cX9_played 239 = .ok (.goto 4, 3) := by decide +kernel
theorem dX9_played_242 : decode cX9_played 242 = .ok (.iconst 0, 1) := by decide +kernel
theorem dX9_played_243 : decode cX9_played 243 = .ok (.invokevirtual 239, 3) := by decide +kernel
theorem dX9_played_246 : decode cX9_played 246 = .ok (.goto 21, 3) := by decide +kernel
theorem dX9_played_249 : decode cX9_played 249 = .ok (.aload_n 0, 1) := by decide +kernel
theorem dX9_played_250 : decode cX9_played 250 = .ok (.iload 8, 2) := by decide +kernel
theorem dX9_played_252 : decode cX9_played 252 = .ok (.iload 7, 2) := by decide +kernel
theorem dX9_played_254 : decode cX9_played 254 = .ok (.bipush 20, 2) := by decide +kernel
theorem dX9_played_256 : decode cX9_played 256 = .ok (.if_icmp .ge 7, 3) := by decide +kernel
theorem dX9_played_259 : decode cX9_played 259 = .ok (.iconst 1, 1) := by decide +kernel
theorem dX9_played_260 : decode cX9_played 260 = .ok (.goto 4, 3) := by decide +kernel
theorem dX9_played_263 : decode cX9_played 263 = .ok (.iconst 0, 1) := by decide +kernel
theorem dX9_played_264 : decode cX9_played 264 = .ok (.invokevirtual 246, 3) := by decide +kernel
theorem dX9_played_267 : decode cX9_played 267 = .ok (.iinc 6 1, 3) := by decide +kernel
theorem dX9_played_270 : decode cX9_played 270 = .ok (.goto (-179), 3) := by decide +kernel
theorem dX9_played_273 : decode cX9_played 273 = .ok (.aload_n 0, 1) := by decide +kernel
theorem dX9_played_274 : decode cX9_played 274 = .ok (.aload_n 0, 1) := by decide +kernel
theorem dX9_played_275 : decode cX9_played 275 = .ok (.invokevirtual 250, 3) := by decide +kernel
theorem dX9_played_278 : decode cX9_played 278 = .ok (.putfield 256, 3) := by decide +kernel
theorem dX9_played_281 : decode cX9_played 281 = .ok (.aload_n 0, 1) := by decide +kernel
theorem dX9_played_282 : decode cX9_played 282 = .ok (.iload 4, 2) := by decide +kernel
theorem dX9_played_284 : decode cX9_played 284 = .ok (.putfield 136, 3) := by decide +kernel
theorem dX9_played_287 : decode cX9_played 287 = .ok (.aload_n 0, 1) := by decide +kernel
theorem dX9_played_288 : decode cX9_played 288 = .ok (.iload 5, 2) := by decide +kernel
theorem dX9_played_290 : decode cX9_played 290 = .ok (.putfield 129, 3) := by decide +kernel
theorem dX9_played_293 : decode cX9_played 293 = .ok (.iconst 0, 1) := by decide +kernel
theorem dX9_played_294 : decode cX9_played 294 = .ok (.istore 6, 2) := by decide +kernel
theorem dX9_played_296 : decode cX9_played 296 = .ok (.iload 6, 2) := by decide +kernel
theorem dX9_played_298 : decode cX9_played 298 = .ok (.bipush 24, 2) := by decide +kernel
theorem dX9_played_300 : decode cX9_played 300 = .ok (.if_icmp .ge 23, 3) := by decide +kernel
theorem dX9_played_303 : decode cX9_played 303 = .ok (.aload_n 0, 1) := by decide +kernel
theorem dX9_played_304 : decode cX9_played 304 = .ok (.getfield 56, 3) := by decide +kernel
theorem dX9_played_307 : decode cX9_played 307 = .ok (.iload 6, 2) := by decide +kernel
theorem dX9_played_309 : decode cX9_played 309 = .ok (.aload_n 0, 1) := by decide +kernel
theorem dX9_played_310 : decode cX9_played 310 = .ok (.getfield 99, 3) := by decide +kernel
theorem dX9_played_313 : decode cX9_played 313 = .ok (.iload 6, 2) := by decide +kernel
theorem dX9_played_315 : decode cX9_played 315 = .ok (.laload, 1) := by decide +kernel
theorem dX9_played_316 : decode cX9_played 316 = .ok (.lastore, 1) := by decide +kernel
theorem dX9_played_317 : decode cX9_played 317 = .ok (.iinc 6 1, 3) := by decide +kernel
theorem dX9_played_320 : decode cX9_played 320 = .ok (.goto (-24), 3) := by decide +kernel
theorem dX9_played_323 : decode cX9_played 323 = .ok (.iconst 0, 1) := by decide +kernel
theorem dX9_played_324 : decode cX9_played 324 = .ok (.ireturn, 1) := by decide +kernel
theorem dX9_judge_0 : decode cX9_judge 0 = .ok (.aload_n 0, 1) := by decide +kernel
theorem dX9_judge_1 : decode cX9_judge 1 = .ok (.iload_n 1, 1) := by decide +kernel
theorem dX9_judge_2 : decode cX9_judge 2 = .ok (.iload_n 2, 1) := by decide +kernel
theorem dX9_judge_3 : decode cX9_judge 3 = .ok (.invokevirtual 259, 3) := by decide +kernel
theorem dX9_judge_6 : decode cX9_judge 6 = .ok (.istore_n 3, 1) := by decide +kernel
theorem dX9_judge_7 : decode cX9_judge 7 = .ok (.iload_n 3, 1) := by decide +kernel
theorem dX9_judge_8 : decode cX9_judge 8 = .ok (.ifCond .eq 11, 3) := by decide +kernel
theorem dX9_judge_11 : decode cX9_judge 11 = .ok (.aload_n 0, 1) := by decide +kernel
theorem dX9_judge_12 : decode cX9_judge 12 = .ok (.iload_n 3, 1) := by decide +kernel
theorem dX9_judge_13 : decode cX9_judge 13 = .ok (.invokevirtual 122, 3) := by decide +kernel
theorem dX9_judge_16 : decode cX9_judge 16 = .ok (.goto 7, 3) := by decide +kernel
theorem dX9_judge_19 : decode cX9_judge 19 = .ok (.aload_n 0, 1) := by decide +kernel
theorem dX9_judge_20 : decode cX9_judge 20 = .ok (.getfield 253, 3) := by decide +kernel
theorem dX9_judge_23 : decode cX9_judge 23 = .ok (.ireturn, 1) := by decide +kernel
theorem dX9_told_0 : decode cX9_told 0 = .ok (.aload_n 0, 1) := by decide +kernel
theorem dX9_told_1 : decode cX9_told 1 = .ok (.iload_n 1, 1) := by decide +kernel
theorem dX9_told_2 : decode cX9_told 2 = .ok (.iload_n 2, 1) := by decide +kernel
theorem dX9_told_3 : decode cX9_told 3 = .ok (.invokevirtual 259, 3) := by decide +kernel
theorem dX9_told_6 : decode cX9_told 6 = .ok (.istore_n 3, 1) := by decide +kernel
theorem dX9_told_7 : decode cX9_told 7 = .ok (.iload_n 3, 1) := by decide +kernel
theorem dX9_told_8 : decode cX9_told 8 = .ok (.ifCond .ne 14, 3) := by decide +kernel
theorem dX9_told_11 : decode cX9_told 11 = .ok (.aload_n 0, 1) := by decide +kernel
theorem dX9_told_12 : decode cX9_told 12 = .ok (.getfield 253, 3) := by decide +kernel
theorem dX9_told_15 : decode cX9_told 15 = .ok (.iconst (-1), 1) := by decide +kernel
theorem dX9_told_16 : decode cX9_told 16 = .ok (.if_icmp .eq 6, 3) := by decide +kernel
theorem dX9_told_19 : decode cX9_told 19 = .ok (.bipush (-6), 2) := by decide +kernel
theorem dX9_told_21 : decode cX9_told 21 = .ok (.istore_n 3, 1) := by decide +kernel
theorem dX9_told_22 : decode cX9_told 22 = .ok (.iload_n 3, 1) := by decide +kernel
theorem dX9_told_23 : decode cX9_told 23 = .ok (.ifCond .eq 11, 3) := by decide +kernel
theorem dX9_told_26 : decode cX9_told 26 = .ok (.aload_n 0, 1) := by decide +kernel
theorem dX9_told_27 : decode cX9_told 27 = .ok (.iload_n 3, 1) := by decide +kernel
theorem dX9_told_28 : decode cX9_told 28 = .ok (.invokevirtual 122, 3) := by decide +kernel
theorem dX9_told_31 : decode cX9_told 31 = .ok (.goto 7, 3) := by decide +kernel
theorem dX9_told_34 : decode cX9_told 34 = .ok (.aload_n 0, 1) := by decide +kernel
theorem dX9_told_35 : decode cX9_told 35 = .ok (.getfield 256, 3) := by decide +kernel
theorem dX9_told_38 : decode cX9_told 38 = .ok (.ireturn, 1) := by decide +kernel
theorem dX9_count_0 : decode cX9_count 0 = .ok (.iconst 0, 1) := by decide +kernel
theorem dX9_count_1 : decode cX9_count 1 = .ok (.istore_n 2, 1) := by decide +kernel
theorem dX9_count_2 : decode cX9_count 2 = .ok (.iload_n 1, 1) := by decide +kernel
theorem dX9_count_3 : decode cX9_count 3 = .ok (.istore_n 3, 1) := by decide +kernel
theorem dX9_count_4 : decode cX9_count 4 = .ok (.iload_n 3, 1) := by decide +kernel
theorem dX9_count_5 : decode cX9_count 5 = .ok (.ifCond .eq 15, 3) := by decide +kernel
theorem dX9_count_8 : decode cX9_count 8 = .ok (.iinc 2 1, 3) := by decide +kernel
theorem dX9_count_11 : decode cX9_count 11 = .ok (.iload_n 3, 1) := by decide +kernel
theorem dX9_count_12 : decode cX9_count 12 = .ok (.iload_n 3, 1) := by decide +kernel
theorem dX9_count_13 : decode cX9_count 13 = .ok (.iconst 1, 1) := by decide +kernel
theorem dX9_count_14 : decode cX9_count 14 = .ok (.isub, 1) := by decide +kernel
theorem dX9_count_15 : decode cX9_count 15 = .ok (.iand, 1) := by decide +kernel
theorem dX9_count_16 : decode cX9_count 16 = .ok (.istore_n 3, 1) := by decide +kernel
theorem dX9_count_17 : decode cX9_count 17 = .ok (.goto (-13), 3) := by decide +kernel
theorem dX9_count_20 : decode cX9_count 20 = .ok (.iload_n 2, 1) := by decide +kernel
theorem dX9_count_21 : decode cX9_count 21 = .ok (.ireturn, 1) := by decide +kernel
theorem dX9_worthOf_0 : decode cX9_worthOf 0 = .ok (.lconst 0, 1) := by decide +kernel
theorem dX9_worthOf_1 : decode cX9_worthOf 1 = .ok (.lstore_n 2, 1) := by decide +kernel
theorem dX9_worthOf_2 : decode cX9_worthOf 2 = .ok (.iload_n 1, 1) := by decide +kernel
theorem dX9_worthOf_3 : decode cX9_worthOf 3 = .ok (.istore 4, 2) := by decide +kernel
theorem dX9_worthOf_5 : decode cX9_worthOf 5 = .ok (.lconst 0, 1) := by decide +kernel
theorem dX9_worthOf_6 : decode cX9_worthOf 6 = .ok (.lstore 5, 2) := by decide +kernel
theorem dX9_worthOf_8 : decode cX9_worthOf 8 = .ok (.iconst 0, 1) := by decide +kernel
theorem dX9_worthOf_9 : decode cX9_worthOf 9 = .ok (.istore 7, 2) := by decide +kernel
theorem dX9_worthOf_11 : decode cX9_worthOf 11 = .ok (.iload 7, 2) := by decide +kernel
theorem dX9_worthOf_13 : decode cX9_worthOf 13 = .ok (.aload_n 0, 1) := by decide +kernel
theorem dX9_worthOf_14 : decode cX9_worthOf 14 = .ok (.getfield 7, 3) := by decide +kernel
theorem dX9_worthOf_17 : decode cX9_worthOf 17 = .ok (.if_icmp .ge 110, 3) := by decide +kernel
theorem dX9_worthOf_20 : decode cX9_worthOf 20 = .ok (.aload_n 0, 1) := by decide +kernel
theorem dX9_worthOf_21 : decode cX9_worthOf 21 = .ok (.getfield 56, 3) := by decide +kernel
theorem dX9_worthOf_24 : decode cX9_worthOf 24 = .ok (.iload 7, 2) := by decide +kernel
theorem dX9_worthOf_26 : decode cX9_worthOf 26 = .ok (.laload, 1) := by decide +kernel
theorem dX9_worthOf_27 : decode cX9_worthOf 27 = .ok (.lstore 8, 2) := by decide +kernel
theorem dX9_worthOf_29 : decode cX9_worthOf 29 = .ok (.iconst 0, 1) := by decide +kernel
theorem dX9_worthOf_30 : decode cX9_worthOf 30 = .ok (.istore 10, 2) := by decide +kernel
theorem dX9_worthOf_32 : decode cX9_worthOf 32 = .ok (.iload 10, 2) := by decide +kernel
theorem dX9_worthOf_34 : decode cX9_worthOf 34 = .ok (.aload_n 0, 1) := by decide +kernel
theorem dX9_worthOf_35 : decode cX9_worthOf 35 = .ok (.getfield 115, 3) := by decide +kernel
theorem dX9_worthOf_38 : decode cX9_worthOf 38 = .ok (.if_icmp .ge 66, 3) := by decide +kernel
theorem dX9_worthOf_41 : decode cX9_worthOf 41 = .ok (.lload 8, 2) := by decide +kernel
theorem dX9_worthOf_43 : decode cX9_worthOf 43 = .ok (.lconst 0, 1) := by decide +kernel
theorem dX9_worthOf_44 : decode cX9_worthOf 44 = .ok (.lcmp, 1) := by decide +kernel
theorem dX9_worthOf_45 : decode cX9_worthOf 45 = .ok (.ifCond .le 59, 3) := by decide +kernel
theorem dX9_worthOf_48 : decode cX9_worthOf 48 = .ok (.iload_n 1, 1) := by decide +kernel
theorem dX9_worthOf_49 : decode cX9_worthOf 49 = .ok (.iload 10, 2) := by decide +kernel
theorem dX9_worthOf_51 : decode cX9_worthOf 51 = .ok (.ishr, 1) := by decide +kernel
theorem dX9_worthOf_52 : decode cX9_worthOf 52 = .ok (.iconst 1, 1) := by decide +kernel
theorem dX9_worthOf_53 : decode cX9_worthOf 53 = .ok (.iand, 1) := by decide +kernel
theorem dX9_worthOf_54 : decode cX9_worthOf 54 = .ok (.ifCond .ne 6, 3) := by decide +kernel
theorem dX9_worthOf_57 : decode cX9_worthOf 57 = .ok (.goto 41, 3) := by decide +kernel
theorem dX9_worthOf_60 : decode cX9_worthOf 60 = .ok (.aload_n 0, 1) := by decide +kernel
theorem dX9_worthOf_61 : decode cX9_worthOf 61 = .ok (.iload 10, 2) := by decide +kernel
theorem dX9_worthOf_63 : decode cX9_worthOf 63 = .ok (.iload 7, 2) := by decide +kernel
theorem dX9_worthOf_65 : decode cX9_worthOf 65 = .ok (.invokevirtual 132, 3) := by decide +kernel
theorem dX9_worthOf_68 : decode cX9_worthOf 68 = .ok (.istore 11, 2) := by decide +kernel
theorem dX9_worthOf_70 : decode cX9_worthOf 70 = .ok (.lload 8, 2) := by decide +kernel
theorem dX9_worthOf_72 : decode cX9_worthOf 72 = .ok (.iload 4, 2) := by decide +kernel
theorem dX9_worthOf_74 : decode cX9_worthOf 74 = .ok (.iload 10, 2) := by decide +kernel
theorem dX9_worthOf_76 : decode cX9_worthOf 76 = .ok (.ishr, 1) := by decide +kernel
theorem dX9_worthOf_77 : decode cX9_worthOf 77 = .ok (.iconst 1, 1) := by decide +kernel
theorem dX9_worthOf_78 : decode cX9_worthOf 78 = .ok (.iand, 1) := by decide +kernel
theorem dX9_worthOf_79 : decode cX9_worthOf 79 = .ok (.iconst 1, 1) := by decide +kernel
theorem dX9_worthOf_80 : decode cX9_worthOf 80 = .ok (.if_icmp .ne 9, 3) := by decide +kernel
theorem dX9_worthOf_83 : decode cX9_worthOf 83 = .ok (.iload 11, 2) := by decide +kernel
theorem dX9_worthOf_85 : decode cX9_worthOf 85 = .ok (.i2l, 1) := by decide +kernel
theorem dX9_worthOf_86 : decode cX9_worthOf 86 = .ok (.goto 9, 3) := by decide +kernel
theorem dX9_worthOf_89 : decode cX9_worthOf 89 = .ok (.bipush 10, 2) := by decide +kernel
theorem dX9_worthOf_91 : decode cX9_worthOf 91 = .ok (.iload 11, 2) := by decide +kernel
theorem dX9_worthOf_93 : decode cX9_worthOf 93 = .ok (.isub, 1) := by decide +kernel
theorem dX9_worthOf_94 : decode cX9_worthOf 94 = .ok (.i2l, 1) := by decide +kernel
theorem dX9_worthOf_95 : decode cX9_worthOf 95 = .ok (.lmul, 1) := by decide +kernel
theorem dX9_worthOf_96 : decode cX9_worthOf 96 = .ok (.lstore 8, 2) := by decide +kernel
theorem dX9_worthOf_98 : decode cX9_worthOf 98 = .ok (.iinc 10 1, 3) := by decide +kernel
theorem dX9_worthOf_101 : decode cX9_worthOf 101 = .ok (.goto (-69), 3) := by decide +kernel
theorem dX9_worthOf_104 : decode cX9_worthOf 104 = .ok (.lload 8, 2) := by decide +kernel
theorem dX9_worthOf_106 : decode cX9_worthOf 106 = .ok (.lload 5, 2) := by decide +kernel
theorem dX9_worthOf_108 : decode cX9_worthOf 108 = .ok (.lcmp, 1) := by decide +kernel
theorem dX9_worthOf_109 : decode cX9_worthOf 109 = .ok (.ifCond .le 8, 3) := by decide +kernel
theorem dX9_worthOf_112 : decode cX9_worthOf 112 = .ok (.lload 8, 2) := by decide +kernel
theorem dX9_worthOf_114 : decode cX9_worthOf 114 = .ok (.goto 5, 3) := by decide +kernel
theorem dX9_worthOf_117 : decode cX9_worthOf 117 = .ok (.lload 5, 2) := by decide +kernel
theorem dX9_worthOf_119 : decode cX9_worthOf 119 = .ok (.lstore 5, 2) := by decide +kernel
theorem dX9_worthOf_121 : decode cX9_worthOf 121 = .ok (.iinc 7 1, 3) := by decide +kernel
theorem dX9_worthOf_124 : decode cX9_worthOf 124 = .ok (.goto (-113), 3) := by decide +kernel
theorem dX9_worthOf_127 : decode cX9_worthOf 127 = .ok (.lload_n 2, 1) := by decide +kernel
theorem dX9_worthOf_128 : decode cX9_worthOf 128 = .ok (.lload 5, 2) := by decide +kernel
theorem dX9_worthOf_130 : decode cX9_worthOf 130 = .ok (.ladd, 1) := by decide +kernel
theorem dX9_worthOf_131 : decode cX9_worthOf 131 = .ok (.lstore_n 2, 1) := by decide +kernel
theorem dX9_worthOf_132 : decode cX9_worthOf 132 = .ok (.iload 4, 2) := by decide +kernel
theorem dX9_worthOf_134 : decode cX9_worthOf 134 = .ok (.ifCond .ne 5, 3) := by decide +kernel
theorem dX9_worthOf_137 : decode cX9_worthOf 137 = .ok (.lload_n 2, 1) := by decide +kernel
theorem dX9_worthOf_138 : decode cX9_worthOf 138 = .ok (.lreturn, 1) := by decide +kernel
theorem dX9_worthOf_139 : decode cX9_worthOf 139 = .ok (.iload 4, 2) := by decide +kernel
theorem dX9_worthOf_141 : decode cX9_worthOf 141 = .ok (.iconst 1, 1) := by decide +kernel
theorem dX9_worthOf_142 : decode cX9_worthOf 142 = .ok (.isub, 1) := by decide +kernel
theorem dX9_worthOf_143 : decode cX9_worthOf 143 = .ok (.iload_n 1, 1) := by decide +kernel
theorem dX9_worthOf_144 : decode cX9_worthOf 144 = .ok (.iand, 1) := by decide +kernel
theorem dX9_worthOf_145 : decode cX9_worthOf 145 = .ok (.istore 4, 2) := by decide +kernel
theorem dX9_worthOf_147 : decode cX9_worthOf 147 = .ok (.goto (-142), 3) := by decide +kernel
theorem dX9_worth_0 : decode cX9_worth 0 = .ok (.iload_n 1, 1) := by decide +kernel
theorem dX9_worth_1 : decode cX9_worth 1 = .ok (.ifCond .lt 13, 3) := by decide +kernel
theorem dX9_worth_4 : decode cX9_worth 4 = .ok (.iload_n 1, 1) := by decide +kernel
theorem dX9_worth_5 : decode cX9_worth 5 = .ok (.iconst 1, 1) := by decide +kernel
theorem dX9_worth_6 : decode cX9_worth 6 = .ok (.aload_n 0, 1) := by decide +kernel
theorem dX9_worth_7 : decode cX9_worth 7 = .ok (.getfield 115, 3) := by decide +kernel
theorem dX9_worth_10 : decode cX9_worth 10 = .ok (.ishl, 1) := by decide +kernel
theorem dX9_worth_11 : decode cX9_worth 11 = .ok (.if_icmp .lt 10, 3) := by decide +kernel
theorem dX9_worth_14 : decode cX9_worth 14 = .ok (.aload_n 0, 1) := by decide +kernel
theorem dX9_worth_15 : decode cX9_worth 15 = .ok (.iconst (-1), 1) := by decide +kernel
theorem dX9_worth_16 : decode cX9_worth 16 = .ok (.invokevirtual 122, 3) := by decide +kernel
theorem dX9_worth_19 : decode cX9_worth 19 = .ok (.i2l, 1) := by decide +kernel
theorem dX9_worth_20 : decode cX9_worth 20 = .ok (.lreturn, 1) := by decide +kernel
theorem dX9_worth_21 : decode cX9_worth 21 = .ok (.aload_n 0, 1) := by decide +kernel
theorem dX9_worth_22 : decode cX9_worth 22 = .ok (.getfield 136, 3) := by decide +kernel
theorem dX9_worth_25 : decode cX9_worth 25 = .ok (.aload_n 0, 1) := by decide +kernel
theorem dX9_worth_26 : decode cX9_worth 26 = .ok (.iload_n 1, 1) := by decide +kernel
theorem dX9_worth_27 : decode cX9_worth 27 = .ok (.invokevirtual 262, 3) := by decide +kernel
theorem dX9_worth_30 : decode cX9_worth 30 = .ok (.iadd, 1) := by decide +kernel
theorem dX9_worth_31 : decode cX9_worth 31 = .ok (.bipush 17, 2) := by decide +kernel
theorem dX9_worth_33 : decode cX9_worth 33 = .ok (.if_icmp .le 11, 3) := by decide +kernel
theorem dX9_worth_36 : decode cX9_worth 36 = .ok (.aload_n 0, 1) := by decide +kernel
theorem dX9_worth_37 : decode cX9_worth 37 = .ok (.bipush (-7), 2) := by decide +kernel
theorem dX9_worth_39 : decode cX9_worth 39 = .ok (.invokevirtual 122, 3) := by decide +kernel
theorem dX9_worth_42 : decode cX9_worth 42 = .ok (.i2l, 1) := by decide +kernel
theorem dX9_worth_43 : decode cX9_worth 43 = .ok (.lreturn, 1) := by decide +kernel
theorem dX9_worth_44 : decode cX9_worth 44 = .ok (.aload_n 0, 1) := by decide +kernel
theorem dX9_worth_45 : decode cX9_worth 45 = .ok (.iload_n 1, 1) := by decide +kernel
theorem dX9_worth_46 : decode cX9_worth 46 = .ok (.invokevirtual 265, 3) := by decide +kernel
theorem dX9_worth_49 : decode cX9_worth 49 = .ok (.lreturn, 1) := by decide +kernel
theorem dX9_next_0 : decode cX9_next 0 = .ok (.aload_n 0, 1) := by decide +kernel
theorem dX9_next_1 : decode cX9_next 1 = .ok (.getfield 115, 3) := by decide +kernel
theorem dX9_next_4 : decode cX9_next 4 = .ok (.ifCond .ne 10, 3) := by decide +kernel
theorem dX9_next_7 : decode cX9_next 7 = .ok (.aload_n 0, 1) := by decide +kernel
theorem dX9_next_8 : decode cX9_next 8 = .ok (.bipush (-5), 2) := by decide +kernel
theorem dX9_next_10 : decode cX9_next 10 = .ok (.invokevirtual 122, 3) := by decide +kernel
theorem dX9_next_13 : decode cX9_next 13 = .ok (.ireturn, 1) := by decide +kernel
theorem dX9_next_14 : decode cX9_next 14 = .ok (.iconst (-1), 1) := by decide +kernel
theorem dX9_next_15 : decode cX9_next 15 = .ok (.istore_n 1, 1) := by decide +kernel
theorem dX9_next_16 : decode cX9_next 16 = .ok (.lconst 0, 1) := by decide +kernel
theorem dX9_next_17 : decode cX9_next 17 = .ok (.lstore_n 2, 1) := by decide +kernel
theorem dX9_next_18 : decode cX9_next 18 = .ok (.iconst 0, 1) := by decide +kernel
theorem dX9_next_19 : decode cX9_next 19 = .ok (.istore 4, 2) := by decide +kernel
theorem dX9_next_21 : decode cX9_next 21 = .ok (.iload 4, 2) := by decide +kernel
theorem dX9_next_23 : decode cX9_next 23 = .ok (.aload_n 0, 1) := by decide +kernel
theorem dX9_next_24 : decode cX9_next 24 = .ok (.getfield 115, 3) := by decide +kernel
theorem dX9_next_27 : decode cX9_next 27 = .ok (.if_icmp .ge 40, 3) := by decide +kernel
theorem dX9_next_30 : decode cX9_next 30 = .ok (.aload_n 0, 1) := by decide +kernel
theorem dX9_next_31 : decode cX9_next 31 = .ok (.iconst 1, 1) := by decide +kernel
theorem dX9_next_32 : decode cX9_next 32 = .ok (.iload 4, 2) := by decide +kernel
theorem dX9_next_34 : decode cX9_next 34 = .ok (.ishl, 1) := by decide +kernel
theorem dX9_next_35 : decode cX9_next 35 = .ok (.invokevirtual 265, 3) := by decide +kernel
theorem dX9_next_38 : decode cX9_next 38 = .ok (.lstore 5, 2) := by decide +kernel
theorem dX9_next_40 : decode cX9_next 40 = .ok (.iload_n 1, 1) := by decide +kernel
theorem dX9_next_41 : decode cX9_next 41 = .ok (.iconst (-1), 1) := by decide +kernel
theorem dX9_next_42 : decode cX9_next 42 = .ok (.if_icmp .eq 13, 3) := by decide +kernel
theorem dX9_next_45 : decode cX9_next 45 = .ok (.lload 5, 2) := by decide +kernel
theorem dX9_next_47 : decode cX9_next 47 = .ok (.lload_n 2, 1) := by decide +kernel
theorem dX9_next_48 : decode cX9_next 48 = .ok (.lcmp, 1) := by decide +kernel
theorem dX9_next_49 : decode cX9_next 49 = .ok (.ifCond .gt 6, 3) := by decide +kernel
theorem dX9_next_52 : decode cX9_next 52 = .ok (.goto 9, 3) := by decide +kernel
theorem dX9_next_55 : decode cX9_next 55 = .ok (.iload 4, 2) := by decide +kernel
theorem dX9_next_57 : decode cX9_next 57 = .ok (.istore_n 1, 1) := by decide +kernel
theorem dX9_next_58 : decode cX9_next 58 = .ok (.lload 5, 2) := by decide +kernel
theorem dX9_next_60 : decode cX9_next 60 = .ok (.lstore_n 2, 1) := by decide +kernel
theorem dX9_next_61 : decode cX9_next 61 = .ok (.iinc 4 1, 3) := by decide +kernel
theorem dX9_next_64 : decode cX9_next 64 = .ok (.goto (-43), 3) := by decide +kernel
theorem dX9_next_67 : decode cX9_next 67 = .ok (.iload_n 1, 1) := by decide +kernel
theorem dX9_next_68 : decode cX9_next 68 = .ok (.ireturn, 1) := by decide +kernel
theorem dX9_behind_0 : decode cX9_behind 0 = .ok (.lconst 0, 1) := by decide +kernel
theorem dX9_behind_1 : decode cX9_behind 1 = .ok (.lstore 4, 2) := by decide +kernel
theorem dX9_behind_3 : decode cX9_behind 3 = .ok (.iconst 0, 1) := by decide +kernel
theorem dX9_behind_4 : decode cX9_behind 4 = .ok (.istore 6, 2) := by decide +kernel
theorem dX9_behind_6 : decode cX9_behind 6 = .ok (.iload 6, 2) := by decide +kernel
theorem dX9_behind_8 : decode cX9_behind 8 = .ok (.iconst 2, 1) := by decide +kernel
theorem dX9_behind_9 : decode cX9_behind 9 = .ok (.if_icmp .ge 125, 3) := by decide +kernel
theorem dX9_behind_12 : decode cX9_behind 12 = .ok (.lconst 0, 1) := by decide +kernel
theorem dX9_behind_13 : decode cX9_behind 13 = .ok (.lstore 7, 2) := by decide +kernel
theorem dX9_behind_15 : decode cX9_behind 15 = .ok (.iconst 0, 1) := by decide +kernel
theorem dX9_behind_16 : decode cX9_behind 16 = .ok (.istore 9, 2) := by decide +kernel
theorem dX9_behind_18 : decode cX9_behind 18 = .ok (.iload 9, 2) := by decide +kernel
theorem dX9_behind_20 : decode cX9_behind 20 = .ok (.aload_n 0, 1) := by decide +kernel
theorem dX9_behind_21 : decode cX9_behind 21 = .ok (.getfield 7, 3) := by decide +kernel
theorem dX9_behind_24 : decode cX9_behind 24 = .ok (.if_icmp .ge 97, 3) := by decide +kernel
theorem dX9_behind_27 : decode cX9_behind 27 = .ok (.aload_n 0, 1) := by decide +kernel
theorem dX9_behind_28 : decode cX9_behind 28 = .ok (.iload_n 1, 1) := by decide +kernel
theorem dX9_behind_29 : decode cX9_behind 29 = .ok (.iload 9, 2) := by decide +kernel
theorem dX9_behind_31 : decode cX9_behind 31 = .ok (.invokevirtual 132, 3) := by decide +kernel
theorem dX9_behind_34 : decode cX9_behind 34 = .ok (.istore 10, 2) := by decide +kernel
theorem dX9_behind_36 : decode cX9_behind 36 = .ok (.iload_n 3, 1) := by decide +kernel
theorem dX9_behind_37 : decode cX9_behind 37 = .ok (.iconst (-1), 1) := by decide +kernel
theorem dX9_behind_38 : decode cX9_behind 38 = .ok (.if_icmp .ne 7, 3) := by decide +kernel
theorem dX9_behind_41 : decode cX9_behind 41 = .ok (.iconst 5, 1) := by decide +kernel
theorem dX9_behind_42 : decode cX9_behind 42 = .ok (.goto 10, 3) := by decide +kernel
theorem dX9_behind_45 : decode cX9_behind 45 = .ok (.aload_n 0, 1) := by decide +kernel
theorem dX9_behind_46 : decode cX9_behind 46 = .ok (.iload_n 3, 1) := by decide +kernel
theorem dX9_behind_47 : decode cX9_behind 47 = .ok (.iload 9, 2) := by decide +kernel
theorem dX9_behind_49 : decode cX9_behind 49 = .ok (.invokevirtual 132, 3) := by decide +kernel
theorem dX9_behind_52 : decode cX9_behind 52 = .ok (.istore 11, 2) := by decide +kernel
theorem dX9_behind_54 : decode cX9_behind 54 = .ok (.aload_n 0, 1) := by decide +kernel
theorem dX9_behind_55 : decode cX9_behind 55 = .ok (.getfield 56, 3) := by decide +kernel
theorem dX9_behind_58 : decode cX9_behind 58 = .ok (.iload 9, 2) := by decide +kernel
theorem dX9_behind_60 : decode cX9_behind 60 = .ok (.laload, 1) := by decide +kernel
theorem dX9_behind_61 : decode cX9_behind 61 = .ok (.iload_n 2, 1) := by decide +kernel
theorem dX9_behind_62 : decode cX9_behind 62 = .ok (.iconst 1, 1) := by decide +kernel
theorem dX9_behind_63 : decode cX9_behind 63 = .ok (.if_icmp .ne 8, 3) := by decide +kernel
theorem dX9_behind_66 : decode cX9_behind 66 = .ok (.iload 10, 2) := by decide +kernel
theorem dX9_behind_68 : decode cX9_behind 68 = .ok (.goto 8, 3) := by decide +kernel
theorem dX9_behind_71 : decode cX9_behind 71 = .ok (.bipush 10, 2) := by decide +kernel
theorem dX9_behind_73 : decode cX9_behind 73 = .ok (.iload 10, 2) := by decide +kernel
theorem dX9_behind_75 : decode cX9_behind 75 = .ok (.isub, 1) := by decide +kernel
theorem dX9_behind_76 : decode cX9_behind 76 = .ok (.i2l, 1) := by decide +kernel
theorem dX9_behind_77 : decode cX9_behind 77 = .ok (.lmul, 1) := by decide +kernel
theorem dX9_behind_78 : decode cX9_behind 78 = .ok (.iload 6, 2) := by decide +kernel
theorem dX9_behind_80 : decode cX9_behind 80 = .ok (.iconst 1, 1) := by decide +kernel
theorem dX9_behind_81 : decode cX9_behind 81 = .ok (.if_icmp .ne 8, 3) := by decide +kernel
theorem dX9_behind_84 : decode cX9_behind 84 = .ok (.iload 11, 2) := by decide +kernel
theorem dX9_behind_86 : decode cX9_behind 86 = .ok (.goto 8, 3) := by decide +kernel
theorem dX9_behind_89 : decode cX9_behind 89 = .ok (.bipush 10, 2) := by decide +kernel
theorem dX9_behind_91 : decode cX9_behind 91 = .ok (.iload 11, 2) := by decide +kernel
theorem dX9_behind_93 : decode cX9_behind 93 = .ok (.isub, 1) := by decide +kernel
theorem dX9_behind_94 : decode cX9_behind 94 = .ok (.i2l, 1) := by decide +kernel
theorem dX9_behind_95 : decode cX9_behind 95 = .ok (.lmul, 1) := by decide +kernel
theorem dX9_behind_96 : decode cX9_behind 96 = .ok (.lstore 12, 2) := by decide +kernel
theorem dX9_behind_98 : decode cX9_behind 98 = .ok (.lload 12, 2) := by decide +kernel
theorem dX9_behind_100 : decode cX9_behind 100 = .ok (.lload 7, 2) := by decide +kernel
theorem dX9_behind_102 : decode cX9_behind 102 = .ok (.lcmp, 1) := by decide +kernel
theorem dX9_behind_103 : decode cX9_behind 103 = .ok (.ifCond .le 8, 3) := by decide +kernel
theorem dX9_behind_106 : decode cX9_behind 106 = .ok (.lload 12, 2) := by decide +kernel
theorem dX9_behind_108 : decode cX9_behind 108 = .ok (.goto 5, 3) := by decide +kernel
theorem dX9_behind_111 : decode cX9_behind 111 = .ok (.lload 7, 2) := by decide +kernel
theorem dX9_behind_113 : decode cX9_behind 113 = .ok (.lstore 7, 2) := by decide +kernel
theorem dX9_behind_115 : decode cX9_behind 115 = .ok (.iinc 9 1, 3) := by decide +kernel
theorem dX9_behind_118 : decode cX9_behind 118 = .ok (.goto (-100), 3) := by decide +kernel
theorem dX9_behind_121 : decode cX9_behind 121 = .ok (.lload 4, 2) := by decide +kernel
theorem dX9_behind_123 : decode cX9_behind 123 = .ok (.lload 7, 2) := by decide +kernel
theorem dX9_behind_125 : decode cX9_behind 125 = .ok (.ladd, 1) := by decide +kernel
theorem dX9_behind_126 : decode cX9_behind 126 = .ok (.lstore 4, 2) := by decide +kernel
theorem dX9_behind_128 : decode cX9_behind 128 = .ok (.iinc 6 1, 3) := by decide +kernel
theorem dX9_behind_131 : decode cX9_behind 131 = .ok (.goto (-125), 3) := by decide +kernel
theorem dX9_behind_134 : decode cX9_behind 134 = .ok (.lload 4, 2) := by decide +kernel
theorem dX9_behind_136 : decode cX9_behind 136 = .ok (.lreturn, 1) := by decide +kernel
theorem dX9_ahead_0 : decode cX9_ahead 0 = .ok (.aload_n 0, 1) := by decide +kernel
theorem dX9_ahead_1 : decode cX9_ahead 1 = .ok (.getfield 115, 3) := by decide +kernel
theorem dX9_ahead_4 : decode cX9_ahead 4 = .ok (.ifCond .ne 10, 3) := by decide +kernel
theorem dX9_ahead_7 : decode cX9_ahead 7 = .ok (.aload_n 0, 1) := by decide +kernel
theorem dX9_ahead_8 : decode cX9_ahead 8 = .ok (.bipush (-5), 2) := by decide +kernel
theorem dX9_ahead_10 : decode cX9_ahead 10 = .ok (.invokevirtual 122, 3) := by decide +kernel
theorem dX9_ahead_13 : decode cX9_ahead 13 = .ok (.ireturn, 1) := by decide +kernel
theorem dX9_ahead_14 : decode cX9_ahead 14 = .ok (.aload_n 0, 1) := by decide +kernel
theorem dX9_ahead_15 : decode cX9_ahead 15 = .ok (.getfield 136, 3) := by decide +kernel
theorem dX9_ahead_18 : decode cX9_ahead 18 = .ok (.bipush 15, 2) := by decide +kernel
theorem dX9_ahead_20 : decode cX9_ahead 20 = .ok (.if_icmp .le 10, 3) := by decide +kernel
theorem dX9_ahead_23 : decode cX9_ahead 23 = .ok (.aload_n 0, 1) := by decide +kernel
theorem dX9_ahead_24 : decode cX9_ahead 24 = .ok (.bipush (-7), 2) := by decide +kernel
theorem dX9_ahead_26 : decode cX9_ahead 26 = .ok (.invokevirtual 122, 3) := by decide +kernel
theorem dX9_ahead_29 : decode cX9_ahead 29 = .ok (.ireturn, 1) := by decide +kernel
theorem dX9_ahead_30 : decode cX9_ahead 30 = .ok (.iconst (-1), 1) := by decide +kernel
theorem dX9_ahead_31 : decode cX9_ahead 31 = .ok (.istore_n 1, 1) := by decide +kernel
theorem dX9_ahead_32 : decode cX9_ahead 32 = .ok (.lconst 0, 1) := by decide +kernel
theorem dX9_ahead_33 : decode cX9_ahead 33 = .ok (.lstore_n 2, 1) := by decide +kernel
theorem dX9_ahead_34 : decode cX9_ahead 34 = .ok (.iconst 0, 1) := by decide +kernel
theorem dX9_ahead_35 : decode cX9_ahead 35 = .ok (.istore 4, 2) := by decide +kernel
theorem dX9_ahead_37 : decode cX9_ahead 37 = .ok (.iload 4, 2) := by decide +kernel
theorem dX9_ahead_39 : decode cX9_ahead 39 = .ok (.aload_n 0, 1) := by decide +kernel
theorem dX9_ahead_40 : decode cX9_ahead 40 = .ok (.getfield 115, 3) := by decide +kernel
theorem dX9_ahead_43 : decode cX9_ahead 43 = .ok (.if_icmp .ge 123, 3) := by decide +kernel
theorem dX9_ahead_46 : decode cX9_ahead 46 = .ok (.lconst 0, 1) := by decide +kernel
theorem dX9_ahead_47 : decode cX9_ahead 47 = .ok (.lstore 5, 2) := by decide +kernel
theorem dX9_ahead_49 : decode cX9_ahead 49 = .ok (.iconst 0, 1) := by decide +kernel
theorem dX9_ahead_50 : decode cX9_ahead 50 = .ok (.istore 7, 2) := by decide +kernel
theorem dX9_ahead_52 : decode cX9_ahead 52 = .ok (.iload 7, 2) := by decide +kernel
theorem dX9_ahead_54 : decode cX9_ahead 54 = .ok (.iconst 2, 1) := by decide +kernel
theorem dX9_ahead_55 : decode cX9_ahead 55 = .ok (.if_icmp .ge 84, 3) := by decide +kernel
theorem dX9_ahead_58 : decode cX9_ahead 58 = .ok (.aload_n 0, 1) := by decide +kernel
theorem dX9_ahead_59 : decode cX9_ahead 59 = .ok (.iload 4, 2) := by decide +kernel
theorem dX9_ahead_61 : decode cX9_ahead 61 = .ok (.iload 7, 2) := by decide +kernel
theorem dX9_ahead_63 : decode cX9_ahead 63 = .ok (.iconst (-1), 1) := by decide +kernel
theorem dX9_ahead_64 : decode cX9_ahead 64 = .ok (.invokevirtual 269, 3) := by decide +kernel
theorem dX9_ahead_67 : decode cX9_ahead 67 = .ok (.lstore 8, 2) := by decide +kernel
theorem dX9_ahead_69 : decode cX9_ahead 69 = .ok (.iconst 0, 1) := by decide +kernel
theorem dX9_ahead_70 : decode cX9_ahead 70 = .ok (.istore 10, 2) := by decide +kernel
theorem dX9_ahead_72 : decode cX9_ahead 72 = .ok (.iload 10, 2) := by decide +kernel
theorem dX9_ahead_74 : decode cX9_ahead 74 = .ok (.aload_n 0, 1) := by decide +kernel
theorem dX9_ahead_75 : decode cX9_ahead 75 = .ok (.getfield 115, 3) := by decide +kernel
theorem dX9_ahead_78 : decode cX9_ahead 78 = .ok (.if_icmp .ge 48, 3) := by decide +kernel
theorem dX9_ahead_81 : decode cX9_ahead 81 = .ok (.iload 10, 2) := by decide +kernel
theorem dX9_ahead_83 : decode cX9_ahead 83 = .ok (.iload 4, 2) := by decide +kernel
theorem dX9_ahead_85 : decode cX9_ahead 85 = .ok (.if_icmp .ne 6, 3) := by decide +kernel
theorem dX9_ahead_88 : decode cX9_ahead 88 = .ok (.goto 32, 3) := by decide +kernel
theorem dX9_ahead_91 : decode cX9_ahead 91 = .ok (.aload_n 0, 1) := by decide +kernel
theorem dX9_ahead_92 : decode cX9_ahead 92 = .ok (.iload 4, 2) := by decide +kernel
theorem dX9_ahead_94 : decode cX9_ahead 94 = .ok (.iload 7, 2) := by decide +kernel
theorem dX9_ahead_96 : decode cX9_ahead 96 = .ok (.iload 10, 2) := by decide +kernel
theorem dX9_ahead_98 : decode cX9_ahead 98 = .ok (.invokevirtual 269, 3) := by decide +kernel
theorem dX9_ahead_101 : decode cX9_ahead 101 = .ok (.lstore 11, 2) := by decide +kernel
theorem dX9_ahead_103 : decode cX9_ahead 103 = .ok (.lload 11, 2) := by decide +kernel
theorem dX9_ahead_105 : decode cX9_ahead 105 = .ok (.lload 8, 2) := by decide +kernel
theorem dX9_ahead_107 : decode cX9_ahead 107 = .ok (.lcmp, 1) := by decide +kernel
theorem dX9_ahead_108 : decode cX9_ahead 108 = .ok (.ifCond .le 8, 3) := by decide +kernel
theorem dX9_ahead_111 : decode cX9_ahead 111 = .ok (.lload 11, 2) := by decide +kernel
theorem dX9_ahead_113 : decode cX9_ahead 113 = .ok (.goto 5, 3) := by decide +kernel
theorem dX9_ahead_116 : decode cX9_ahead 116 = .ok (.lload 8, 2) := by decide +kernel
theorem dX9_ahead_118 : decode cX9_ahead 118 = .ok (.lstore 8, 2) := by decide +kernel
theorem dX9_ahead_120 : decode cX9_ahead 120 = .ok (.iinc 10 1, 3) := by decide +kernel
theorem dX9_ahead_123 : decode cX9_ahead 123 = .ok (.goto (-51), 3) := by decide +kernel
theorem dX9_ahead_126 : decode cX9_ahead 126 = .ok (.lload 5, 2) := by decide +kernel
theorem dX9_ahead_128 : decode cX9_ahead 128 = .ok (.lload 8, 2) := by decide +kernel
theorem dX9_ahead_130 : decode cX9_ahead 130 = .ok (.ladd, 1) := by decide +kernel
theorem dX9_ahead_131 : decode cX9_ahead 131 = .ok (.lstore 5, 2) := by decide +kernel
theorem dX9_ahead_133 : decode cX9_ahead 133 = .ok (.iinc 7 1, 3) := by decide +kernel
theorem dX9_ahead_136 : decode cX9_ahead 136 = .ok (.goto (-84), 3) := by decide +kernel
theorem dX9_ahead_139 : decode cX9_ahead 139 = .ok (.iload_n 1, 1) := by decide +kernel
theorem dX9_ahead_140 : decode cX9_ahead 140 = .ok (.iconst (-1), 1) := by decide +kernel
theorem dX9_ahead_141 : decode cX9_ahead 141 = .ok (.if_icmp .eq 13, 3) := by decide +kernel
theorem dX9_ahead_144 : decode cX9_ahead 144 = .ok (.lload 5, 2) := by decide +kernel
theorem dX9_ahead_146 : decode cX9_ahead 146 = .ok (.lload_n 2, 1) := by decide +kernel
theorem dX9_ahead_147 : decode cX9_ahead 147 = .ok (.lcmp, 1) := by decide +kernel
theorem dX9_ahead_148 : decode cX9_ahead 148 = .ok (.ifCond .gt 6, 3) := by decide +kernel
theorem dX9_ahead_151 : decode cX9_ahead 151 = .ok (.goto 9, 3) := by decide +kernel
theorem dX9_ahead_154 : decode cX9_ahead 154 = .ok (.iload 4, 2) := by decide +kernel
theorem dX9_ahead_156 : decode cX9_ahead 156 = .ok (.istore_n 1, 1) := by decide +kernel
theorem dX9_ahead_157 : decode cX9_ahead 157 = .ok (.lload 5, 2) := by decide +kernel
theorem dX9_ahead_159 : decode cX9_ahead 159 = .ok (.lstore_n 2, 1) := by decide +kernel
theorem dX9_ahead_160 : decode cX9_ahead 160 = .ok (.iinc 4 1, 3) := by decide +kernel
theorem dX9_ahead_163 : decode cX9_ahead 163 = .ok (.goto (-126), 3) := by decide +kernel
theorem dX9_ahead_166 : decode cX9_ahead 166 = .ok (.iload_n 1, 1) := by decide +kernel
theorem dX9_ahead_167 : decode cX9_ahead 167 = .ok (.ireturn, 1) := by decide +kernel
theorem dX9_least_0 : decode cX9_least 0 = .ok (.iload_n 1, 1) := by decide +kernel
theorem dX9_least_1 : decode cX9_least 1 = .ok (.ifCond .lt 9, 3) := by decide +kernel
theorem dX9_least_4 : decode cX9_least 4 = .ok (.iload_n 1, 1) := by decide +kernel
theorem dX9_least_5 : decode cX9_least 5 = .ok (.bipush 10, 2) := by decide +kernel
theorem dX9_least_7 : decode cX9_least 7 = .ok (.if_icmp .le 10, 3) := by decide +kernel
theorem dX9_least_10 : decode cX9_least 10 = .ok (.aload_n 0, 1) := by decide +kernel
theorem dX9_least_11 : decode cX9_least 11 = .ok (.bipush (-6), 2) := by decide +kernel
theorem dX9_least_13 : decode cX9_least 13 = .ok (.invokevirtual 273, 3) := by decide +kernel
theorem dX9_least_16 : decode cX9_least 16 = .ok (.ireturn, 1) := by decide +kernel
theorem dX9_least_17 : decode cX9_least 17 = .ok (.aload_n 0, 1) := by decide +kernel
theorem dX9_least_18 : decode cX9_least 18 = .ok (.getfield 136, 3) := by decide +kernel
theorem dX9_least_21 : decode cX9_least 21 = .ok (.bipush 9, 2) := by decide +kernel
theorem dX9_least_23 : decode cX9_least 23 = .ok (.if_icmp .le 10, 3) := by decide +kernel
theorem dX9_least_26 : decode cX9_least 26 = .ok (.aload_n 0, 1) := by decide +kernel
theorem dX9_least_27 : decode cX9_least 27 = .ok (.bipush (-7), 2) := by decide +kernel
theorem dX9_least_29 : decode cX9_least 29 = .ok (.invokevirtual 273, 3) := by decide +kernel
theorem dX9_least_32 : decode cX9_least 32 = .ok (.ireturn, 1) := by decide +kernel
theorem dX9_least_33 : decode cX9_least 33 = .ok (.iconst (-1), 1) := by decide +kernel
theorem dX9_least_34 : decode cX9_least 34 = .ok (.istore_n 2, 1) := by decide +kernel
theorem dX9_least_35 : decode cX9_least 35 = .ok (.aload_n 0, 1) := by decide +kernel
theorem dX9_least_36 : decode cX9_least 36 = .ok (.invokevirtual 226, 3) := by decide +kernel
theorem dX9_least_39 : decode cX9_least 39 = .ok (.lstore_n 3, 1) := by decide +kernel
theorem dX9_least_40 : decode cX9_least 40 = .ok (.iconst 0, 1) := by decide +kernel
theorem dX9_least_41 : decode cX9_least 41 = .ok (.istore 5, 2) := by decide +kernel
theorem dX9_least_43 : decode cX9_least 43 = .ok (.iload 5, 2) := by decide +kernel
theorem dX9_least_45 : decode cX9_least 45 = .ok (.iconst 1, 1) := by decide +kernel
theorem dX9_least_46 : decode cX9_least 46 = .ok (.aload_n 0, 1) := by decide +kernel
theorem dX9_least_47 : decode cX9_least 47 = .ok (.getfield 115, 3) := by decide +kernel
theorem dX9_least_50 : decode cX9_least 50 = .ok (.ishl, 1) := by decide +kernel
theorem dX9_least_51 : decode cX9_least 51 = .ok (.if_icmp .ge 104, 3) := by decide +kernel
theorem dX9_least_54 : decode cX9_least 54 = .ok (.aload_n 0, 1) := by decide +kernel
theorem dX9_least_55 : decode cX9_least 55 = .ok (.iload 5, 2) := by decide +kernel
theorem dX9_least_57 : decode cX9_least 57 = .ok (.invokevirtual 262, 3) := by decide +kernel
theorem dX9_least_60 : decode cX9_least 60 = .ok (.istore 6, 2) := by decide +kernel
theorem dX9_least_62 : decode cX9_least 62 = .ok (.iload_n 2, 1) := by decide +kernel
theorem dX9_least_63 : decode cX9_least 63 = .ok (.iconst (-1), 1) := by decide +kernel
theorem dX9_least_64 : decode cX9_least 64 = .ok (.if_icmp .eq 16, 3) := by decide +kernel
theorem dX9_least_67 : decode cX9_least 67 = .ok (.iload 6, 2) := by decide +kernel
theorem dX9_least_69 : decode cX9_least 69 = .ok (.aload_n 0, 1) := by decide +kernel
theorem dX9_least_70 : decode cX9_least 70 = .ok (.iload_n 2, 1) := by decide +kernel
theorem dX9_least_71 : decode cX9_least 71 = .ok (.invokevirtual 262, 3) := by decide +kernel
theorem dX9_least_74 : decode cX9_least 74 = .ok (.if_icmp .lt 6, 3) := by decide +kernel
theorem dX9_least_77 : decode cX9_least 77 = .ok (.goto 72, 3) := by decide +kernel
theorem dX9_least_80 : decode cX9_least 80 = .ok (.iload_n 1, 1) := by decide +kernel
theorem dX9_least_81 : decode cX9_least 81 = .ok (.i2l, 1) := by decide +kernel
theorem dX9_least_82 : decode cX9_least 82 = .ok (.lload_n 3, 1) := by decide +kernel
theorem dX9_least_83 : decode cX9_least 83 = .ok (.lmul, 1) := by decide +kernel
theorem dX9_least_84 : decode cX9_least 84 = .ok (.lstore 7, 2) := by decide +kernel
theorem dX9_least_86 : decode cX9_least 86 = .ok (.aload_n 0, 1) := by decide +kernel
theorem dX9_least_87 : decode cX9_least 87 = .ok (.iload 5, 2) := by decide +kernel
theorem dX9_least_89 : decode cX9_least 89 = .ok (.invokevirtual 265, 3) := by decide +kernel
theorem dX9_least_92 : decode cX9_least 92 = .ok (.lstore 9, 2) := by decide +kernel
theorem dX9_least_94 : decode cX9_least 94 = .ok (.iconst 1, 1) := by decide +kernel
theorem dX9_least_95 : decode cX9_least 95 = .ok (.istore 11, 2) := by decide +kernel
theorem dX9_least_97 : decode cX9_least 97 = .ok (.iload 11, 2) := by decide +kernel
theorem dX9_least_99 : decode cX9_least 99 = .ok (.iload 6, 2) := by decide +kernel
theorem dX9_least_101 : decode cX9_least 101 = .ok (.if_icmp .ge 17, 3) := by decide +kernel
theorem dX9_least_104 : decode cX9_least 104 = .ok (.lload 7, 2) := by decide +kernel
theorem dX9_least_106 : decode cX9_least 106 = .ok (.ldc2_w 276, 3) := by decide +kernel
theorem dX9_least_109 : decode cX9_least 109 = .ok (.lmul, 1) := by decide +kernel
theorem dX9_least_110 : decode cX9_least 110 = .ok (.lstore 7, 2) := by decide +kernel
theorem dX9_least_112 : decode cX9_least 112 = .ok (.iinc 11 1, 3) := by decide +kernel
theorem dX9_least_115 : decode cX9_least 115 = .ok (.goto (-18), 3) := by decide +kernel
theorem dX9_least_118 : decode cX9_least 118 = .ok (.iload 6, 2) := by decide +kernel
theorem dX9_least_120 : decode cX9_least 120 = .ok (.ifCond .ne 18, 3) := by decide +kernel
theorem dX9_least_123 : decode cX9_least 123 = .ok (.lload 9, 2) := by decide +kernel
theorem dX9_least_125 : decode cX9_least 125 = .ok (.ldc2_w 276, 3) := by decide +kernel
theorem dX9_least_128 : decode cX9_least 128 = .ok (.lmul, 1) := by decide +kernel
theorem dX9_least_129 : decode cX9_least 129 = .ok (.lload 7, 2) := by decide +kernel
theorem dX9_least_131 : decode cX9_least 131 = .ok (.lcmp, 1) := by decide +kernel
theorem dX9_least_132 : decode cX9_least 132 = .ok (.ifCond .lt 17, 3) := by decide +kernel
theorem dX9_least_135 : decode cX9_least 135 = .ok (.goto 11, 3) := by decide +kernel
theorem dX9_least_138 : decode cX9_least 138 = .ok (.lload 9, 2) := by decide +kernel
theorem dX9_least_140 : decode cX9_least 140 = .ok (.lload 7, 2) := by decide +kernel
theorem dX9_least_142 : decode cX9_least 142 = .ok (.lcmp, 1) := by decide +kernel
theorem dX9_least_143 : decode cX9_least 143 = .ok (.ifCond .lt 6, 3) := by decide +kernel
theorem dX9_least_146 : decode cX9_least 146 = .ok (.iload 5, 2) := by decide +kernel
theorem dX9_least_148 : decode cX9_least 148 = .ok (.istore_n 2, 1) := by decide +kernel
theorem dX9_least_149 : decode cX9_least 149 = .ok (.iinc 5 1, 3) := by decide +kernel
theorem dX9_least_152 : decode cX9_least 152 = .ok (.goto (-109), 3) := by decide +kernel
theorem dX9_least_155 : decode cX9_least 155 = .ok (.iload_n 2, 1) := by decide +kernel
theorem dX9_least_156 : decode cX9_least 156 = .ok (.ireturn, 1) := by decide +kernel
theorem dX9_safeOf_0 : decode cX9_safeOf 0 = .ok (.lconst 1, 1) := by decide +kernel
theorem dX9_safeOf_1 : decode cX9_safeOf 1 = .ok (.lstore_n 2, 1) := by decide +kernel
theorem dX9_safeOf_2 : decode cX9_safeOf 2 = .ok (.iconst 0, 1) := by decide +kernel
theorem dX9_safeOf_3 : decode cX9_safeOf 3 = .ok (.istore 4, 2) := by decide +kernel
theorem dX9_safeOf_5 : decode cX9_safeOf 5 = .ok (.iload 4, 2) := by decide +kernel
theorem dX9_safeOf_7 : decode cX9_safeOf 7 = .ok (.aload_n 0, 1) := by decide +kernel
theorem dX9_safeOf_8 : decode cX9_safeOf 8 = .ok (.getfield 143, 3) := by decide +kernel
theorem dX9_safeOf_11 : decode cX9_safeOf 11 = .ok (.if_icmp .ge 59, 3) := by decide +kernel
theorem dX9_safeOf_14 : decode cX9_safeOf 14 = .ok (.iload_n 1, 1) := by decide +kernel
theorem dX9_safeOf_15 : decode cX9_safeOf 15 = .ok (.iload 4, 2) := by decide +kernel
theorem dX9_safeOf_17 : decode cX9_safeOf 17 = .ok (.ishr, 1) := by decide +kernel
theorem dX9_safeOf_18 : decode cX9_safeOf 18 = .ok (.iconst 1, 1) := by decide +kernel
theorem dX9_safeOf_19 : decode cX9_safeOf 19 = .ok (.iand, 1) := by decide +kernel
theorem dX9_safeOf_20 : decode cX9_safeOf 20 = .ok (.ifCond .ne 6, 3) := by decide +kernel
theorem dX9_safeOf_23 : decode cX9_safeOf 23 = .ok (.goto 41, 3) := by decide +kernel
theorem dX9_safeOf_26 : decode cX9_safeOf 26 = .ok (.lload_n 2, 1) := by decide +kernel
theorem dX9_safeOf_27 : decode cX9_safeOf 27 = .ok (.bipush 100, 2) := by decide +kernel
theorem dX9_safeOf_29 : decode cX9_safeOf 29 = .ok (.aload_n 0, 1) := by decide +kernel
theorem dX9_safeOf_30 : decode cX9_safeOf 30 = .ok (.getfield 53, 3) := by decide +kernel
theorem dX9_safeOf_33 : decode cX9_safeOf 33 = .ok (.iload 4, 2) := by decide +kernel
theorem dX9_safeOf_35 : decode cX9_safeOf 35 = .ok (.iaload, 1) := by decide +kernel
theorem dX9_safeOf_36 : decode cX9_safeOf 36 = .ok (.aload_n 0, 1) := by decide +kernel
theorem dX9_safeOf_37 : decode cX9_safeOf 37 = .ok (.getfield 50, 3) := by decide +kernel
theorem dX9_safeOf_40 : decode cX9_safeOf 40 = .ok (.iload 4, 2) := by decide +kernel
theorem dX9_safeOf_42 : decode cX9_safeOf 42 = .ok (.iaload, 1) := by decide +kernel
theorem dX9_safeOf_43 : decode cX9_safeOf 43 = .ok (.iconst 1, 1) := by decide +kernel
theorem dX9_safeOf_44 : decode cX9_safeOf 44 = .ok (.if_icmp .ne 8, 3) := by decide +kernel
theorem dX9_safeOf_47 : decode cX9_safeOf 47 = .ok (.bipush 10, 2) := by decide +kernel
theorem dX9_safeOf_49 : decode cX9_safeOf 49 = .ok (.goto 10, 3) := by decide +kernel
theorem dX9_safeOf_52 : decode cX9_safeOf 52 = .ok (.bipush 10, 2) := by decide +kernel
theorem dX9_safeOf_54 : decode cX9_safeOf 54 = .ok (.aload_n 0, 1) := by decide +kernel
theorem dX9_safeOf_55 : decode cX9_safeOf 55 = .ok (.getfield 19, 3) := by decide +kernel
theorem dX9_safeOf_58 : decode cX9_safeOf 58 = .ok (.isub, 1) := by decide +kernel
theorem dX9_safeOf_59 : decode cX9_safeOf 59 = .ok (.imul, 1) := by decide +kernel
theorem dX9_safeOf_60 : decode cX9_safeOf 60 = .ok (.isub, 1) := by decide +kernel
theorem dX9_safeOf_61 : decode cX9_safeOf 61 = .ok (.i2l, 1) := by decide +kernel
theorem dX9_safeOf_62 : decode cX9_safeOf 62 = .ok (.lmul, 1) := by decide +kernel
theorem dX9_safeOf_63 : decode cX9_safeOf 63 = .ok (.lstore_n 2, 1) := by decide +kernel
theorem dX9_safeOf_64 : decode cX9_safeOf 64 = .ok (.iinc 4 1, 3) := by decide +kernel
theorem dX9_safeOf_67 : decode cX9_safeOf 67 = .ok (.goto (-62), 3) := by decide +kernel
theorem dX9_safeOf_70 : decode cX9_safeOf 70 = .ok (.lload_n 2, 1) := by decide +kernel
theorem dX9_safeOf_71 : decode cX9_safeOf 71 = .ok (.lreturn, 1) := by decide +kernel
theorem dX9_onWalk_0 : decode cX9_onWalk 0 = .ok (.iload_n 1, 1) := by decide +kernel
theorem dX9_onWalk_1 : decode cX9_onWalk 1 = .ok (.iload_n 2, 1) := by decide +kernel
theorem dX9_onWalk_2 : decode cX9_onWalk 2 = .ok (.if_icmp .ge 7, 3) := by decide +kernel
theorem dX9_onWalk_5 : decode cX9_onWalk 5 = .ok (.iload_n 1, 1) := by decide +kernel
theorem dX9_onWalk_6 : decode cX9_onWalk 6 = .ok (.goto 4, 3) := by decide +kernel
theorem dX9_onWalk_9 : decode cX9_onWalk 9 = .ok (.iload_n 2, 1) := by decide +kernel
theorem dX9_onWalk_10 : decode cX9_onWalk 10 = .ok (.istore_n 3, 1) := by decide +kernel
theorem dX9_onWalk_11 : decode cX9_onWalk 11 = .ok (.iload_n 1, 1) := by decide +kernel
theorem dX9_onWalk_12 : decode cX9_onWalk 12 = .ok (.iload_n 2, 1) := by decide +kernel
theorem dX9_onWalk_13 : decode cX9_onWalk 13 = .ok (.if_icmp .ge 7, 3) := by decide +kernel
theorem dX9_onWalk_16 : decode cX9_onWalk 16 = .ok (.iload_n 2, 1) := by decide +kernel
theorem dX9_onWalk_17 : decode cX9_onWalk 17 = .ok (.goto 4, 3) := by decide +kernel
theorem dX9_onWalk_20 : decode cX9_onWalk 20 = .ok (.iload_n 1, 1) := by decide +kernel
theorem dX9_onWalk_21 : decode cX9_onWalk 21 = .ok (.istore 4, 2) := by decide +kernel
theorem dX9_onWalk_23 : decode cX9_onWalk 23 = .ok (.iconst 0, 1) := by decide +kernel
theorem dX9_onWalk_24 : decode cX9_onWalk 24 = .ok (.istore 5, 2) := by decide +kernel
theorem dX9_onWalk_26 : decode cX9_onWalk 26 = .ok (.iconst 0, 1) := by decide +kernel
theorem dX9_onWalk_27 : decode cX9_onWalk 27 = .ok (.istore 6, 2) := by decide +kernel
theorem dX9_onWalk_29 : decode cX9_onWalk 29 = .ok (.iload 6, 2) := by decide +kernel
theorem dX9_onWalk_31 : decode cX9_onWalk 31 = .ok (.aload_n 0, 1) := by decide +kernel
theorem dX9_onWalk_32 : decode cX9_onWalk 32 = .ok (.getfield 143, 3) := by decide +kernel
theorem dX9_onWalk_35 : decode cX9_onWalk 35 = .ok (.if_icmp .ge 41, 3) := by decide +kernel
theorem dX9_onWalk_38 : decode cX9_onWalk 38 = .ok (.aload_n 0, 1) := by decide +kernel
theorem dX9_onWalk_39 : decode cX9_onWalk 39 = .ok (.getfield 47, 3) := by decide +kernel
theorem dX9_onWalk_42 : decode cX9_onWalk 42 = .ok (.iload 6, 2) := by decide +kernel
theorem dX9_onWalk_44 : decode cX9_onWalk 44 = .ok (.iaload, 1) := by decide +kernel
theorem dX9_onWalk_45 : decode cX9_onWalk 45 = .ok (.iload_n 3, 1) := by decide +kernel
theorem dX9_onWalk_46 : decode cX9_onWalk 46 = .ok (.if_icmp .lt 24, 3) := by decide +kernel
theorem dX9_onWalk_49 : decode cX9_onWalk 49 = .ok (.aload_n 0, 1) := by decide +kernel
theorem dX9_onWalk_50 : decode cX9_onWalk 50 = .ok (.getfield 47, 3) := by decide +kernel
theorem dX9_onWalk_53 : decode cX9_onWalk 53 = .ok (.iload 6, 2) := by decide +kernel
theorem dX9_onWalk_55 : decode cX9_onWalk 55 = .ok (.iaload, 1) := by decide +kernel
theorem dX9_onWalk_56 : decode cX9_onWalk 56 = .ok (.iload 4, 2) := by decide +kernel
theorem dX9_onWalk_58 : decode cX9_onWalk 58 = .ok (.if_icmp .gt 12, 3) := by decide +kernel
theorem dX9_onWalk_61 : decode cX9_onWalk 61 = .ok (.iload 5, 2) := by decide +kernel
theorem dX9_onWalk_63 : decode cX9_onWalk 63 = .ok (.iconst 1, 1) := by decide +kernel
theorem dX9_onWalk_64 : decode cX9_onWalk 64 = .ok (.iload 6, 2) := by decide +kernel
theorem dX9_onWalk_66 : decode cX9_onWalk 66 = .ok (.ishl, 1) := by decide +kernel
theorem dX9_onWalk_67 : decode cX9_onWalk 67 = .ok (.ior, 1) := by decide +kernel
theorem dX9_onWalk_68 : decode cX9_onWalk 68 = .ok (.istore 5, 2) := by decide +kernel
theorem dX9_onWalk_70 : decode cX9_onWalk 70 = .ok (.iinc 6 1, 3) := by decide +kernel
theorem dX9_onWalk_73 : decode cX9_onWalk 73 = .ok (.goto (-44), 3) := by decide +kernel
theorem dX9_onWalk_76 : decode cX9_onWalk 76 = .ok (.iload 5, 2) := by decide +kernel
theorem dX9_onWalk_78 : decode cX9_onWalk 78 = .ok (.ireturn, 1) := by decide +kernel
theorem dX9_safe_0 : decode cX9_safe 0 = .ok (.aload_n 0, 1) := by decide +kernel
theorem dX9_safe_1 : decode cX9_safe 1 = .ok (.iload_n 1, 1) := by decide +kernel
theorem dX9_safe_2 : decode cX9_safe 2 = .ok (.invokevirtual 151, 3) := by decide +kernel
theorem dX9_safe_5 : decode cX9_safe 5 = .ok (.ifCond .eq 24, 3) := by decide +kernel
theorem dX9_safe_8 : decode cX9_safe 8 = .ok (.aload_n 0, 1) := by decide +kernel
theorem dX9_safe_9 : decode cX9_safe 9 = .ok (.iload_n 2, 1) := by decide +kernel
theorem dX9_safe_10 : decode cX9_safe 10 = .ok (.invokevirtual 151, 3) := by decide +kernel
theorem dX9_safe_13 : decode cX9_safe 13 = .ok (.ifCond .eq 16, 3) := by decide +kernel
theorem dX9_safe_16 : decode cX9_safe 16 = .ok (.aload_n 0, 1) := by decide +kernel
theorem dX9_safe_17 : decode cX9_safe 17 = .ok (.aload_n 0, 1) := by decide +kernel
theorem dX9_safe_18 : decode cX9_safe 18 = .ok (.iload_n 1, 1) := by decide +kernel
theorem dX9_safe_19 : decode cX9_safe 19 = .ok (.iload_n 2, 1) := by decide +kernel
theorem dX9_safe_20 : decode cX9_safe 20 = .ok (.invokevirtual 278, 3) := by decide +kernel
theorem dX9_safe_23 : decode cX9_safe 23 = .ok (.invokevirtual 281, 3) := by decide +kernel
theorem dX9_safe_26 : decode cX9_safe 26 = .ok (.goto 9, 3) := by decide +kernel
theorem dX9_safe_29 : decode cX9_safe 29 = .ok (.aload_n 0, 1) := by decide +kernel
theorem dX9_safe_30 : decode cX9_safe 30 = .ok (.iconst (-1), 1) := by decide +kernel
theorem dX9_safe_31 : decode cX9_safe 31 = .ok (.invokevirtual 122, 3) := by decide +kernel
theorem dX9_safe_34 : decode cX9_safe 34 = .ok (.i2l, 1) := by decide +kernel
theorem dX9_safe_35 : decode cX9_safe 35 = .ok (.lreturn, 1) := by decide +kernel
theorem dX9_firstOf_0 : decode cX9_firstOf 0 = .ok (.iconst (-1), 1) := by decide +kernel
theorem dX9_firstOf_1 : decode cX9_firstOf 1 = .ok (.istore_n 2, 1) := by decide +kernel
theorem dX9_firstOf_2 : decode cX9_firstOf 2 = .ok (.lconst 0, 1) := by decide +kernel
theorem dX9_firstOf_3 : decode cX9_firstOf 3 = .ok (.lstore_n 3, 1) := by decide +kernel
theorem dX9_firstOf_4 : decode cX9_firstOf 4 = .ok (.iconst 0, 1) := by decide +kernel
theorem dX9_firstOf_5 : decode cX9_firstOf 5 = .ok (.istore 5, 2) := by decide +kernel
theorem dX9_firstOf_7 : decode cX9_firstOf 7 = .ok (.iload 5, 2) := by decide +kernel
theorem dX9_firstOf_9 : decode cX9_firstOf 9 = .ok (.aload_n 0, 1) := by decide +kernel
theorem dX9_firstOf_10 : decode cX9_firstOf 10 = .ok (.getfield 143, 3) := by decide +kernel
theorem dX9_firstOf_13 : decode cX9_firstOf 13 = .ok (.if_icmp .ge 56, 3) := by decide +kernel
theorem dX9_firstOf_16 : decode cX9_firstOf 16 = .ok (.iload_n 1, 1) := by decide +kernel
theorem dX9_firstOf_17 : decode cX9_firstOf 17 = .ok (.iload 5, 2) := by decide +kernel
theorem dX9_firstOf_19 : decode cX9_firstOf 19 = .ok (.ishr, 1) := by decide +kernel
theorem dX9_firstOf_20 : decode cX9_firstOf 20 = .ok (.iconst 1, 1) := by decide +kernel
theorem dX9_firstOf_21 : decode cX9_firstOf 21 = .ok (.iand, 1) := by decide +kernel
theorem dX9_firstOf_22 : decode cX9_firstOf 22 = .ok (.ifCond .ne 6, 3) := by decide +kernel
theorem dX9_firstOf_25 : decode cX9_firstOf 25 = .ok (.goto 38, 3) := by decide +kernel
theorem dX9_firstOf_28 : decode cX9_firstOf 28 = .ok (.aload_n 0, 1) := by decide +kernel
theorem dX9_firstOf_29 : decode cX9_firstOf 29 = .ok (.iload_n 1, 1) := by decide +kernel
theorem dX9_firstOf_30 : decode cX9_firstOf 30 = .ok (.iconst 1, 1) := by decide +kernel
theorem dX9_firstOf_31 : decode cX9_firstOf 31 = .ok (.iload 5, 2) := by decide +kernel
theorem dX9_firstOf_33 : decode cX9_firstOf 33 = .ok (.ishl, 1) := by decide +kernel
theorem dX9_firstOf_34 : decode cX9_firstOf 34 = .ok (.iconst (-1), 1) := by decide +kernel
theorem dX9_firstOf_35 : decode cX9_firstOf 35 = .ok (.ixor, 1) := by decide +kernel
theorem dX9_firstOf_36 : decode cX9_firstOf 36 = .ok (.iand, 1) := by decide +kernel
theorem dX9_firstOf_37 : decode cX9_firstOf 37 = .ok (.invokevirtual 281, 3) := by decide +kernel
theorem dX9_firstOf_40 : decode cX9_firstOf 40 = .ok (.lstore 6, 2) := by decide +kernel
theorem dX9_firstOf_42 : decode cX9_firstOf 42 = .ok (.iload_n 2, 1) := by decide +kernel
theorem dX9_firstOf_43 : decode cX9_firstOf 43 = .ok (.iconst (-1), 1) := by decide +kernel
theorem dX9_firstOf_44 : decode cX9_firstOf 44 = .ok (.if_icmp .eq 13, 3) := by decide +kernel
theorem dX9_firstOf_47 : decode cX9_firstOf 47 = .ok (.lload 6, 2) := by decide +kernel
theorem dX9_firstOf_49 : decode cX9_firstOf 49 = .ok (.lload_n 3, 1) := by decide +kernel
theorem dX9_firstOf_50 : decode cX9_firstOf 50 = .ok (.lcmp, 1) := by decide +kernel
theorem dX9_firstOf_51 : decode cX9_firstOf 51 = .ok (.ifCond .gt 6, 3) := by decide +kernel
theorem dX9_firstOf_54 : decode cX9_firstOf 54 = .ok (.goto 9, 3) := by decide +kernel
theorem dX9_firstOf_57 : decode cX9_firstOf 57 = .ok (.iload 5, 2) := by decide +kernel
theorem dX9_firstOf_59 : decode cX9_firstOf 59 = .ok (.istore_n 2, 1) := by decide +kernel
theorem dX9_firstOf_60 : decode cX9_firstOf 60 = .ok (.lload 6, 2) := by decide +kernel
theorem dX9_firstOf_62 : decode cX9_firstOf 62 = .ok (.lstore_n 3, 1) := by decide +kernel
theorem dX9_firstOf_63 : decode cX9_firstOf 63 = .ok (.iinc 5 1, 3) := by decide +kernel
theorem dX9_firstOf_66 : decode cX9_firstOf 66 = .ok (.goto (-59), 3) := by decide +kernel
theorem dX9_firstOf_69 : decode cX9_firstOf 69 = .ok (.iload_n 2, 1) := by decide +kernel
theorem dX9_firstOf_70 : decode cX9_firstOf 70 = .ok (.ireturn, 1) := by decide +kernel
theorem dX9_first_0 : decode cX9_first 0 = .ok (.aload_n 0, 1) := by decide +kernel
theorem dX9_first_1 : decode cX9_first 1 = .ok (.iload_n 1, 1) := by decide +kernel
theorem dX9_first_2 : decode cX9_first 2 = .ok (.invokevirtual 151, 3) := by decide +kernel
theorem dX9_first_5 : decode cX9_first 5 = .ok (.ifCond .eq 11, 3) := by decide +kernel
theorem dX9_first_8 : decode cX9_first 8 = .ok (.aload_n 0, 1) := by decide +kernel
theorem dX9_first_9 : decode cX9_first 9 = .ok (.iload_n 2, 1) := by decide +kernel
theorem dX9_first_10 : decode cX9_first 10 = .ok (.invokevirtual 151, 3) := by decide +kernel
theorem dX9_first_13 : decode cX9_first 13 = .ok (.ifCond .ne 9, 3) := by decide +kernel
theorem dX9_first_16 : decode cX9_first 16 = .ok (.aload_n 0, 1) := by decide +kernel
theorem dX9_first_17 : decode cX9_first 17 = .ok (.iconst (-1), 1) := by decide +kernel
theorem dX9_first_18 : decode cX9_first 18 = .ok (.invokevirtual 122, 3) := by decide +kernel
theorem dX9_first_21 : decode cX9_first 21 = .ok (.ireturn, 1) := by decide +kernel
theorem dX9_first_22 : decode cX9_first 22 = .ok (.aload_n 0, 1) := by decide +kernel
theorem dX9_first_23 : decode cX9_first 23 = .ok (.aload_n 0, 1) := by decide +kernel
theorem dX9_first_24 : decode cX9_first 24 = .ok (.iload_n 1, 1) := by decide +kernel
theorem dX9_first_25 : decode cX9_first 25 = .ok (.iload_n 2, 1) := by decide +kernel
theorem dX9_first_26 : decode cX9_first 26 = .ok (.invokevirtual 278, 3) := by decide +kernel
theorem dX9_first_29 : decode cX9_first 29 = .ok (.invokevirtual 284, 3) := by decide +kernel
theorem dX9_first_32 : decode cX9_first 32 = .ok (.istore_n 3, 1) := by decide +kernel
theorem dX9_first_33 : decode cX9_first 33 = .ok (.iload_n 3, 1) := by decide +kernel
theorem dX9_first_34 : decode cX9_first 34 = .ok (.iconst (-1), 1) := by decide +kernel
theorem dX9_first_35 : decode cX9_first 35 = .ok (.if_icmp .ne 12, 3) := by decide +kernel
theorem dX9_first_38 : decode cX9_first 38 = .ok (.aload_n 0, 1) := by decide +kernel
theorem dX9_first_39 : decode cX9_first 39 = .ok (.bipush (-5), 2) := by decide +kernel
theorem dX9_first_41 : decode cX9_first 41 = .ok (.invokevirtual 122, 3) := by decide +kernel
theorem dX9_first_44 : decode cX9_first 44 = .ok (.goto 4, 3) := by decide +kernel
theorem dX9_first_47 : decode cX9_first 47 = .ok (.iload_n 3, 1) := by decide +kernel
theorem dX9_first_48 : decode cX9_first 48 = .ok (.ireturn, 1) := by decide +kernel
theorem dX9_order_0 : decode cX9_order 0 = .ok (.aload_n 0, 1) := by decide +kernel
theorem dX9_order_1 : decode cX9_order 1 = .ok (.iload_n 1, 1) := by decide +kernel
theorem dX9_order_2 : decode cX9_order 2 = .ok (.invokevirtual 151, 3) := by decide +kernel
theorem dX9_order_5 : decode cX9_order 5 = .ok (.ifCond .eq 11, 3) := by decide +kernel
theorem dX9_order_8 : decode cX9_order 8 = .ok (.aload_n 0, 1) := by decide +kernel
theorem dX9_order_9 : decode cX9_order 9 = .ok (.iload_n 2, 1) := by decide +kernel
theorem dX9_order_10 : decode cX9_order 10 = .ok (.invokevirtual 151, 3) := by decide +kernel
theorem dX9_order_13 : decode cX9_order 13 = .ok (.ifCond .ne 9, 3) := by decide +kernel
theorem dX9_order_16 : decode cX9_order 16 = .ok (.aload_n 0, 1) := by decide +kernel
theorem dX9_order_17 : decode cX9_order 17 = .ok (.iconst (-1), 1) := by decide +kernel
theorem dX9_order_18 : decode cX9_order 18 = .ok (.invokevirtual 122, 3) := by decide +kernel
theorem dX9_order_21 : decode cX9_order 21 = .ok (.ireturn, 1) := by decide +kernel
theorem dX9_order_22 : decode cX9_order 22 = .ok (.aload_n 0, 1) := by decide +kernel
theorem dX9_order_23 : decode cX9_order 23 = .ok (.iload_n 1, 1) := by decide +kernel
theorem dX9_order_24 : decode cX9_order 24 = .ok (.iload_n 2, 1) := by decide +kernel
theorem dX9_order_25 : decode cX9_order 25 = .ok (.invokevirtual 278, 3) := by decide +kernel
theorem dX9_order_28 : decode cX9_order 28 = .ok (.istore 4, 2) := by decide +kernel
theorem dX9_order_30 : decode cX9_order 30 = .ok (.iload_n 3, 1) := by decide +kernel
theorem dX9_order_31 : decode cX9_order 31 = .ok (.ifCond .lt 13, 3) := by decide +kernel
theorem dX9_order_34 : decode cX9_order 34 = .ok (.iload_n 3, 1) := by decide +kernel
theorem dX9_order_35 : decode cX9_order 35 = .ok (.aload_n 0, 1) := by decide +kernel
theorem dX9_order_36 : decode cX9_order 36 = .ok (.iload 4, 2) := by decide +kernel
theorem dX9_order_38 : decode cX9_order 38 = .ok (.invokevirtual 262, 3) := by decide +kernel
theorem dX9_order_41 : decode cX9_order 41 = .ok (.if_icmp .lt 10, 3) := by decide +kernel
theorem dX9_order_44 : decode cX9_order 44 = .ok (.aload_n 0, 1) := by decide +kernel
theorem dX9_order_45 : decode cX9_order 45 = .ok (.bipush (-5), 2) := by decide +kernel
theorem dX9_order_47 : decode cX9_order 47 = .ok (.invokevirtual 122, 3) := by decide +kernel
theorem dX9_order_50 : decode cX9_order 50 = .ok (.ireturn, 1) := by decide +kernel
theorem dX9_order_51 : decode cX9_order 51 = .ok (.iconst 0, 1) := by decide +kernel
theorem dX9_order_52 : decode cX9_order 52 = .ok (.istore 5, 2) := by decide +kernel
theorem dX9_order_54 : decode cX9_order 54 = .ok (.iload 5, 2) := by decide +kernel
theorem dX9_order_56 : decode cX9_order 56 = .ok (.iload_n 3, 1) := by decide +kernel
theorem dX9_order_57 : decode cX9_order 57 = .ok (.if_icmp .ge 24, 3) := by decide +kernel
theorem dX9_order_60 : decode cX9_order 60 = .ok (.iload 4, 2) := by decide +kernel
theorem dX9_order_62 : decode cX9_order 62 = .ok (.iconst 1, 1) := by decide +kernel
theorem dX9_order_63 : decode cX9_order 63 = .ok (.aload_n 0, 1) := by decide +kernel
theorem dX9_order_64 : decode cX9_order 64 = .ok (.iload 4, 2) := by decide +kernel
theorem dX9_order_66 : decode cX9_order 66 = .ok (.invokevirtual 284, 3) := by decide +kernel
theorem dX9_order_69 : decode cX9_order 69 = .ok (.ishl, 1) := by decide +kernel
theorem dX9_order_70 : decode cX9_order 70 = .ok (.iconst (-1), 1) := by decide +kernel
theorem dX9_order_71 : decode cX9_order 71 = .ok (.ixor, 1) := by decide +kernel
theorem dX9_order_72 : decode cX9_order 72 = .ok (.iand, 1) := by decide +kernel
theorem dX9_order_73 : decode cX9_order 73 = .ok (.istore 4, 2) := by decide +kernel
theorem dX9_order_75 : decode cX9_order 75 = .ok (.iinc 5 1, 3) := by decide +kernel
theorem dX9_order_78 : decode cX9_order 78 = .ok (.goto (-24), 3) := by decide +kernel
theorem dX9_order_81 : decode cX9_order 81 = .ok (.aload_n 0, 1) := by decide +kernel
theorem dX9_order_82 : decode cX9_order 82 = .ok (.iload 4, 2) := by decide +kernel
theorem dX9_order_84 : decode cX9_order 84 = .ok (.invokevirtual 284, 3) := by decide +kernel
theorem dX9_order_87 : decode cX9_order 87 = .ok (.ireturn, 1) := by decide +kernel
theorem dX9_over_0 : decode cX9_over 0 = .ok (.iload_n 1, 1) := by decide +kernel
theorem dX9_over_1 : decode cX9_over 1 = .ok (.iconst 1, 1) := by decide +kernel
theorem dX9_over_2 : decode cX9_over 2 = .ok (.if_icmp .lt 44, 3) := by decide +kernel
theorem dX9_over_5 : decode cX9_over 5 = .ok (.iload_n 1, 1) := by decide +kernel
theorem dX9_over_6 : decode cX9_over 6 = .ok (.bipush 9, 2) := by decide +kernel
theorem dX9_over_8 : decode cX9_over 8 = .ok (.if_icmp .gt 38, 3) := by decide +kernel
theorem dX9_over_11 : decode cX9_over 11 = .ok (.iload_n 2, 1) := by decide +kernel
theorem dX9_over_12 : decode cX9_over 12 = .ok (.ifCond .lt 34, 3) := by decide +kernel
theorem dX9_over_15 : decode cX9_over 15 = .ok (.iload_n 3, 1) := by decide +kernel
theorem dX9_over_16 : decode cX9_over 16 = .ok (.ifCond .lt 30, 3) := by decide +kernel
theorem dX9_over_19 : decode cX9_over 19 = .ok (.iload_n 2, 1) := by decide +kernel
theorem dX9_over_20 : decode cX9_over 20 = .ok (.bipush 10, 2) := by decide +kernel
theorem dX9_over_22 : decode cX9_over 22 = .ok (.if_icmp .gt 24, 3) := by decide +kernel
theorem dX9_over_25 : decode cX9_over 25 = .ok (.iload_n 3, 1) := by decide +kernel
theorem dX9_over_26 : decode cX9_over 26 = .ok (.bipush 10, 2) := by decide +kernel
theorem dX9_over_28 : decode cX9_over 28 = .ok (.iload_n 2, 1) := by decide +kernel
theorem dX9_over_29 : decode cX9_over 29 = .ok (.isub, 1) := by decide +kernel
theorem dX9_over_30 : decode cX9_over 30 = .ok (.if_icmp .gt 16, 3) := by decide +kernel
theorem dX9_over_33 : decode cX9_over 33 = .ok (.iload 4, 2) := by decide +kernel
theorem dX9_over_35 : decode cX9_over 35 = .ok (.iload_n 1, 1) := by decide +kernel
theorem dX9_over_36 : decode cX9_over 36 = .ok (.ineg, 1) := by decide +kernel
theorem dX9_over_37 : decode cX9_over 37 = .ok (.if_icmp .lt 9, 3) := by decide +kernel
theorem dX9_over_40 : decode cX9_over 40 = .ok (.iload 4, 2) := by decide +kernel
theorem dX9_over_42 : decode cX9_over 42 = .ok (.iload_n 1, 1) := by decide +kernel
theorem dX9_over_43 : decode cX9_over 43 = .ok (.if_icmp .le 10, 3) := by decide +kernel
theorem dX9_over_46 : decode cX9_over 46 = .ok (.aload_n 0, 1) := by decide +kernel
theorem dX9_over_47 : decode cX9_over 47 = .ok (.bipush (-6), 2) := by decide +kernel
theorem dX9_over_49 : decode cX9_over 49 = .ok (.invokevirtual 122, 3) := by decide +kernel
theorem dX9_over_52 : decode cX9_over 52 = .ok (.ireturn, 1) := by decide +kernel
theorem dX9_over_53 : decode cX9_over 53 = .ok (.iconst 0, 1) := by decide +kernel
theorem dX9_over_54 : decode cX9_over 54 = .ok (.istore 5, 2) := by decide +kernel
theorem dX9_over_56 : decode cX9_over 56 = .ok (.iload 5, 2) := by decide +kernel
theorem dX9_over_58 : decode cX9_over 58 = .ok (.bipush 21, 2) := by decide +kernel
theorem dX9_over_60 : decode cX9_over 60 = .ok (.if_icmp .ge 28, 3) := by decide +kernel
theorem dX9_over_63 : decode cX9_over 63 = .ok (.aload_n 0, 1) := by decide +kernel
theorem dX9_over_64 : decode cX9_over 64 = .ok (.getfield 102, 3) := by decide +kernel
theorem dX9_over_67 : decode cX9_over 67 = .ok (.iload 5, 2) := by decide +kernel
theorem dX9_over_69 : decode cX9_over 69 = .ok (.iload 5, 2) := by decide +kernel
theorem dX9_over_71 : decode cX9_over 71 = .ok (.bipush 10, 2) := by decide +kernel
theorem dX9_over_73 : decode cX9_over 73 = .ok (.if_icmp .ne 7, 3) := by decide +kernel
theorem dX9_over_76 : decode cX9_over 76 = .ok (.iconst 1, 1) := by decide +kernel
theorem dX9_over_77 : decode cX9_over 77 = .ok (.goto 4, 3) := by decide +kernel
theorem dX9_over_80 : decode cX9_over 80 = .ok (.iconst 0, 1) := by decide +kernel
theorem dX9_over_81 : decode cX9_over 81 = .ok (.iastore, 1) := by decide +kernel
theorem dX9_over_82 : decode cX9_over 82 = .ok (.iinc 5 1, 3) := by decide +kernel
theorem dX9_over_85 : decode cX9_over 85 = .ok (.goto (-29), 3) := by decide +kernel
theorem dX9_over_88 : decode cX9_over 88 = .ok (.iconst 0, 1) := by decide +kernel
theorem dX9_over_89 : decode cX9_over 89 = .ok (.istore 5, 2) := by decide +kernel
theorem dX9_over_91 : decode cX9_over 91 = .ok (.iload 5, 2) := by decide +kernel
theorem dX9_over_93 : decode cX9_over 93 = .ok (.iload_n 1, 1) := by decide +kernel
theorem dX9_over_94 : decode cX9_over 94 = .ok (.if_icmp .ge 100, 3) := by decide +kernel
theorem dX9_over_97 : decode cX9_over 97 = .ok (.iconst 1, 1) := by decide +kernel
theorem dX9_over_98 : decode cX9_over 98 = .ok (.istore 6, 2) := by decide +kernel
theorem dX9_over_100 : decode cX9_over 100 = .ok (.iload 6, 2) := by decide +kernel
theorem dX9_over_102 : decode cX9_over 102 = .ok (.bipush 20, 2) := by decide +kernel
theorem dX9_over_104 : decode cX9_over 104 = .ok (.if_icmp .ge 54, 3) := by decide +kernel
theorem dX9_over_107 : decode cX9_over 107 = .ok (.aload_n 0, 1) := by decide +kernel
theorem dX9_over_108 : decode cX9_over 108 = .ok (.getfield 105, 3) := by decide +kernel
theorem dX9_over_111 : decode cX9_over 111 = .ok (.iload 6, 2) := by decide +kernel
theorem dX9_over_113 : decode cX9_over 113 = .ok (.aload_n 0, 1) := by decide +kernel
theorem dX9_over_114 : decode cX9_over 114 = .ok (.getfield 102, 3) := by decide +kernel
theorem dX9_over_117 : decode cX9_over 117 = .ok (.iload 6, 2) := by decide +kernel
theorem dX9_over_119 : decode cX9_over 119 = .ok (.iaload, 1) := by decide +kernel
theorem dX9_over_120 : decode cX9_over 120 = .ok (.bipush 10, 2) := by decide +kernel
theorem dX9_over_122 : decode cX9_over 122 = .ok (.iload_n 2, 1) := by decide +kernel
theorem dX9_over_123 : decode cX9_over 123 = .ok (.isub, 1) := by decide +kernel
theorem dX9_over_124 : decode cX9_over 124 = .ok (.iload_n 3, 1) := by decide +kernel
theorem dX9_over_125 : decode cX9_over 125 = .ok (.isub, 1) := by decide +kernel
theorem dX9_over_126 : decode cX9_over 126 = .ok (.imul, 1) := by decide +kernel
theorem dX9_over_127 : decode cX9_over 127 = .ok (.aload_n 0, 1) := by decide +kernel
theorem dX9_over_128 : decode cX9_over 128 = .ok (.getfield 102, 3) := by decide +kernel
theorem dX9_over_131 : decode cX9_over 131 = .ok (.iload 6, 2) := by decide +kernel
theorem dX9_over_133 : decode cX9_over 133 = .ok (.iconst 1, 1) := by decide +kernel
theorem dX9_over_134 : decode cX9_over 134 = .ok (.iadd, 1) := by decide +kernel
theorem dX9_over_135 : decode cX9_over 135 = .ok (.iaload, 1) := by decide +kernel
theorem dX9_over_136 : decode cX9_over 136 = .ok (.iload_n 2, 1) := by decide +kernel
theorem dX9_over_137 : decode cX9_over 137 = .ok (.imul, 1) := by decide +kernel
theorem dX9_over_138 : decode cX9_over 138 = .ok (.iadd, 1) := by decide +kernel
theorem dX9_over_139 : decode cX9_over 139 = .ok (.aload_n 0, 1) := by decide +kernel
theorem dX9_over_140 : decode cX9_over 140 = .ok (.getfield 102, 3) := by decide +kernel
theorem dX9_over_143 : decode cX9_over 143 = .ok (.iload 6, 2) := by decide +kernel
theorem dX9_over_145 : decode cX9_over 145 = .ok (.iconst 1, 1) := by decide +kernel
theorem dX9_over_146 : decode cX9_over 146 = .ok (.isub, 1) := by decide +kernel
theorem dX9_over_147 : decode cX9_over 147 = .ok (.iaload, 1) := by decide +kernel
theorem dX9_over_148 : decode cX9_over 148 = .ok (.iload_n 3, 1) := by decide +kernel
theorem dX9_over_149 : decode cX9_over 149 = .ok (.imul, 1) := by decide +kernel
theorem dX9_over_150 : decode cX9_over 150 = .ok (.iadd, 1) := by decide +kernel
theorem dX9_over_151 : decode cX9_over 151 = .ok (.iastore, 1) := by decide +kernel
theorem dX9_over_152 : decode cX9_over 152 = .ok (.iinc 6 1, 3) := by decide +kernel
theorem dX9_over_155 : decode cX9_over 155 = .ok (.goto (-55), 3) := by decide +kernel
theorem dX9_over_158 : decode cX9_over 158 = .ok (.iconst 1, 1) := by decide +kernel
theorem dX9_over_159 : decode cX9_over 159 = .ok (.istore 6, 2) := by decide +kernel
theorem dX9_over_161 : decode cX9_over 161 = .ok (.iload 6, 2) := by decide +kernel
theorem dX9_over_163 : decode cX9_over 163 = .ok (.bipush 20, 2) := by decide +kernel
theorem dX9_over_165 : decode cX9_over 165 = .ok (.if_icmp .ge 23, 3) := by decide +kernel
theorem dX9_over_168 : decode cX9_over 168 = .ok (.aload_n 0, 1) := by decide +kernel
theorem dX9_over_169 : decode cX9_over 169 = .ok (.getfield 102, 3) := by decide +kernel
theorem dX9_over_172 : decode cX9_over 172 = .ok (.iload 6, 2) := by decide +kernel
theorem dX9_over_174 : decode cX9_over 174 = .ok (.aload_n 0, 1) := by decide +kernel
theorem dX9_over_175 : decode cX9_over 175 = .ok (.getfield 105, 3) := by decide +kernel
theorem dX9_over_178 : decode cX9_over 178 = .ok (.iload 6, 2) := by decide +kernel
theorem dX9_over_180 : decode cX9_over 180 = .ok (.iaload, 1) := by decide +kernel
theorem dX9_over_181 : decode cX9_over 181 = .ok (.iastore, 1) := by decide +kernel
theorem dX9_over_182 : decode cX9_over 182 = .ok (.iinc 6 1, 3) := by decide +kernel
theorem dX9_over_185 : decode cX9_over 185 = .ok (.goto (-24), 3) := by decide +kernel
theorem dX9_over_188 : decode cX9_over 188 = .ok (.iinc 5 1, 3) := by decide +kernel
theorem dX9_over_191 : decode cX9_over 191 = .ok (.goto (-100), 3) := by decide +kernel
theorem dX9_over_194 : decode cX9_over 194 = .ok (.aload_n 0, 1) := by decide +kernel
theorem dX9_over_195 : decode cX9_over 195 = .ok (.getfield 102, 3) := by decide +kernel
theorem dX9_over_198 : decode cX9_over 198 = .ok (.bipush 10, 2) := by decide +kernel
theorem dX9_over_200 : decode cX9_over 200 = .ok (.iload 4, 2) := by decide +kernel
theorem dX9_over_202 : decode cX9_over 202 = .ok (.iadd, 1) := by decide +kernel
theorem dX9_over_203 : decode cX9_over 203 = .ok (.iaload, 1) := by decide +kernel
theorem dX9_over_204 : decode cX9_over 204 = .ok (.ireturn, 1) := by decide +kernel
theorem dX9_learntBy_0 : decode cX9_learntBy 0 = .ok (.bipush 100, 2) := by decide +kernel
theorem dX9_learntBy_2 : decode cX9_learntBy 2 = .ok (.istore_n 3, 1) := by decide +kernel
theorem dX9_learntBy_3 : decode cX9_learntBy 3 = .ok (.iconst 0, 1) := by decide +kernel
theorem dX9_learntBy_4 : decode cX9_learntBy 4 = .ok (.istore 4, 2) := by decide +kernel
theorem dX9_learntBy_6 : decode cX9_learntBy 6 = .ok (.iload 4, 2) := by decide +kernel
theorem dX9_learntBy_8 : decode cX9_learntBy 8 = .ok (.iload_n 1, 1) := by decide +kernel
theorem dX9_learntBy_9 : decode cX9_learntBy 9 = .ok (.if_icmp .ge 15, 3) := by decide +kernel
theorem dX9_learntBy_12 : decode cX9_learntBy 12 = .ok (.iload_n 3, 1) := by decide +kernel
theorem dX9_learntBy_13 : decode cX9_learntBy 13 = .ok (.iconst 3, 1) := by decide +kernel
theorem dX9_learntBy_14 : decode cX9_learntBy 14 = .ok (.imul, 1) := by decide +kernel
theorem dX9_learntBy_15 : decode cX9_learntBy 15 = .ok (.iconst 4, 1) := by decide +kernel
theorem dX9_learntBy_16 : decode cX9_learntBy 16 = .ok (.idiv, 1) := by decide +kernel
theorem dX9_learntBy_17 : decode cX9_learntBy 17 = .ok (.istore_n 3, 1) := by decide +kernel
theorem dX9_learntBy_18 : decode cX9_learntBy 18 = .ok (.iinc 4 1, 3) := by decide +kernel
theorem dX9_learntBy_21 : decode cX9_learntBy 21 = .ok (.goto (-15), 3) := by decide +kernel
theorem dX9_learntBy_24 : decode cX9_learntBy 24 = .ok (.bipush 100, 2) := by decide +kernel
theorem dX9_learntBy_26 : decode cX9_learntBy 26 = .ok (.iload_n 3, 1) := by decide +kernel
theorem dX9_learntBy_27 : decode cX9_learntBy 27 = .ok (.isub, 1) := by decide +kernel
theorem dX9_learntBy_28 : decode cX9_learntBy 28 = .ok (.istore 4, 2) := by decide +kernel
theorem dX9_learntBy_30 : decode cX9_learntBy 30 = .ok (.iconst 0, 1) := by decide +kernel
theorem dX9_learntBy_31 : decode cX9_learntBy 31 = .ok (.istore 5, 2) := by decide +kernel
theorem dX9_learntBy_33 : decode cX9_learntBy 33 = .ok (.iload 5, 2) := by decide +kernel
theorem dX9_learntBy_35 : decode cX9_learntBy 35 = .ok (.iload_n 2, 1) := by decide +kernel
theorem dX9_learntBy_36 : decode cX9_learntBy 36 = .ok (.if_icmp .ge 22, 3) := by decide +kernel
theorem dX9_learntBy_39 : decode cX9_learntBy 39 = .ok (.iload 4, 2) := by decide +kernel
theorem dX9_learntBy_41 : decode cX9_learntBy 41 = .ok (.iload 4, 2) := by decide +kernel
theorem dX9_learntBy_43 : decode cX9_learntBy 43 = .ok (.bipush 9, 2) := by decide +kernel
theorem dX9_learntBy_45 : decode cX9_learntBy 45 = .ok (.iadd, 1) := by decide +kernel
theorem dX9_learntBy_46 : decode cX9_learntBy 46 = .ok (.bipush 10, 2) := by decide +kernel
theorem dX9_learntBy_48 : decode cX9_learntBy 48 = .ok (.idiv, 1) := by decide +kernel
theorem dX9_learntBy_49 : decode cX9_learntBy 49 = .ok (.isub, 1) := by decide +kernel
theorem dX9_learntBy_50 : decode cX9_learntBy 50 = .ok (.istore 4, 2) := by decide +kernel
theorem dX9_learntBy_52 : decode cX9_learntBy 52 = .ok (.iinc 5 1, 3) := by decide +kernel
theorem dX9_learntBy_55 : decode cX9_learntBy 55 = .ok (.goto (-22), 3) := by decide +kernel
theorem dX9_learntBy_58 : decode cX9_learntBy 58 = .ok (.iload 4, 2) := by decide +kernel
theorem dX9_learntBy_60 : decode cX9_learntBy 60 = .ok (.ireturn, 1) := by decide +kernel
theorem dX9_learnt_0 : decode cX9_learnt 0 = .ok (.iload_n 1, 1) := by decide +kernel
theorem dX9_learnt_1 : decode cX9_learnt 1 = .ok (.ifCond .lt 19, 3) := by decide +kernel
theorem dX9_learnt_4 : decode cX9_learnt 4 = .ok (.iload_n 1, 1) := by decide +kernel
theorem dX9_learnt_5 : decode cX9_learnt 5 = .ok (.bipush 99, 2) := by decide +kernel
theorem dX9_learnt_7 : decode cX9_learnt 7 = .ok (.if_icmp .gt 13, 3) := by decide +kernel
theorem dX9_learnt_10 : decode cX9_learnt 10 = .ok (.iload_n 2, 1) := by decide +kernel
theorem dX9_learnt_11 : decode cX9_learnt 11 = .ok (.ifCond .lt 9, 3) := by decide +kernel
theorem dX9_learnt_14 : decode cX9_learnt 14 = .ok (.iload_n 2, 1) := by decide +kernel
theorem dX9_learnt_15 : decode cX9_learnt 15 = .ok (.bipush 99, 2) := by decide +kernel
theorem dX9_learnt_17 : decode cX9_learnt 17 = .ok (.if_icmp .le 10, 3) := by decide +kernel
theorem dX9_learnt_20 : decode cX9_learnt 20 = .ok (.aload_n 0, 1) := by decide +kernel
theorem dX9_learnt_21 : decode cX9_learnt 21 = .ok (.bipush (-6), 2) := by decide +kernel
theorem dX9_learnt_23 : decode cX9_learnt 23 = .ok (.invokevirtual 122, 3) := by decide +kernel
theorem dX9_learnt_26 : decode cX9_learnt 26 = .ok (.ireturn, 1) := by decide +kernel
theorem dX9_learnt_27 : decode cX9_learnt 27 = .ok (.aload_n 0, 1) := by decide +kernel
theorem dX9_learnt_28 : decode cX9_learnt 28 = .ok (.iload_n 1, 1) := by decide +kernel
theorem dX9_learnt_29 : decode cX9_learnt 29 = .ok (.iload_n 2, 1) := by decide +kernel
theorem dX9_learnt_30 : decode cX9_learnt 30 = .ok (.invokevirtual 287, 3) := by decide +kernel
theorem dX9_learnt_33 : decode cX9_learnt 33 = .ok (.ireturn, 1) := by decide +kernel
theorem dX9_goings_0 : decode cX9_goings 0 = .ok (.iload_n 1, 1) := by decide +kernel
theorem dX9_goings_1 : decode cX9_goings 1 = .ok (.ifCond .lt 19, 3) := by decide +kernel
theorem dX9_goings_4 : decode cX9_goings 4 = .ok (.iload_n 1, 1) := by decide +kernel
theorem dX9_goings_5 : decode cX9_goings 5 = .ok (.bipush 100, 2) := by decide +kernel
theorem dX9_goings_7 : decode cX9_goings 7 = .ok (.if_icmp .gt 13, 3) := by decide +kernel
theorem dX9_goings_10 : decode cX9_goings 10 = .ok (.iload_n 2, 1) := by decide +kernel
theorem dX9_goings_11 : decode cX9_goings 11 = .ok (.ifCond .lt 9, 3) := by decide +kernel
theorem dX9_goings_14 : decode cX9_goings 14 = .ok (.iload_n 2, 1) := by decide +kernel
theorem dX9_goings_15 : decode cX9_goings 15 = .ok (.bipush 99, 2) := by decide +kernel
theorem dX9_goings_17 : decode cX9_goings 17 = .ok (.if_icmp .le 10, 3) := by decide +kernel
theorem dX9_goings_20 : decode cX9_goings 20 = .ok (.aload_n 0, 1) := by decide +kernel
theorem dX9_goings_21 : decode cX9_goings 21 = .ok (.bipush (-6), 2) := by decide +kernel
theorem dX9_goings_23 : decode cX9_goings 23 = .ok (.invokevirtual 273, 3) := by decide +kernel
theorem dX9_goings_26 : decode cX9_goings 26 = .ok (.ireturn, 1) := by decide +kernel
theorem dX9_goings_27 : decode cX9_goings 27 = .ok (.iconst 0, 1) := by decide +kernel
theorem dX9_goings_28 : decode cX9_goings 28 = .ok (.istore_n 3, 1) := by decide +kernel
theorem dX9_goings_29 : decode cX9_goings 29 = .ok (.iload_n 3, 1) := by decide +kernel
theorem dX9_goings_30 : decode cX9_goings 30 = .ok (.bipush 100, 2) := by decide +kernel
theorem dX9_goings_32 : decode cX9_goings 32 = .ok (.if_icmp .ge 21, 3) := by decide +kernel
theorem dX9_goings_35 : decode cX9_goings 35 = .ok (.aload_n 0, 1) := by decide +kernel
theorem dX9_goings_36 : decode cX9_goings 36 = .ok (.iload_n 3, 1) := by decide +kernel
theorem dX9_goings_37 : decode cX9_goings 37 = .ok (.iload_n 2, 1) := by decide +kernel
theorem dX9_goings_38 : decode cX9_goings 38 = .ok (.invokevirtual 287, 3) := by decide +kernel
theorem dX9_goings_41 : decode cX9_goings 41 = .ok (.iload_n 1, 1) := by decide +kernel
theorem dX9_goings_42 : decode cX9_goings 42 = .ok (.if_icmp .lt 5, 3) := by decide +kernel
theorem dX9_goings_45 : decode cX9_goings 45 = .ok (.iload_n 3, 1) := by decide +kernel
theorem dX9_goings_46 : decode cX9_goings 46 = .ok (.ireturn, 1) := by decide +kernel
theorem dX9_goings_47 : decode cX9_goings 47 = .ok (.iinc 3 1, 3) := by decide +kernel
theorem dX9_goings_50 : decode cX9_goings 50 = .ok (.goto (-21), 3) := by decide +kernel
theorem dX9_goings_53 : decode cX9_goings 53 = .ok (.iconst (-1), 1) := by decide +kernel
theorem dX9_goings_54 : decode cX9_goings 54 = .ok (.ireturn, 1) := by decide +kernel
theorem dX9_draw_0 : decode cX9_draw 0 = .ok (.aload_n 0, 1) := by decide +kernel
theorem dX9_draw_1 : decode cX9_draw 1 = .ok (.aload_n 0, 1) := by decide +kernel
theorem dX9_draw_2 : decode cX9_draw 2 = .ok (.getfield 25, 3) := by decide +kernel
theorem dX9_draw_5 : decode cX9_draw 5 = .ok (.ldc_w 290, 3) := by decide +kernel
theorem dX9_draw_8 : decode cX9_draw 8 = .ok (.imul, 1) := by decide +kernel
theorem dX9_draw_9 : decode cX9_draw 9 = .ok (.sipush 12345, 3) := by decide +kernel
theorem dX9_draw_12 : decode cX9_draw 12 = .ok (.iadd, 1) := by decide +kernel
theorem dX9_draw_13 : decode cX9_draw 13 = .ok (.putfield 25, 3) := by decide +kernel
theorem dX9_draw_16 : decode cX9_draw 16 = .ok (.aload_n 0, 1) := by decide +kernel
theorem dX9_draw_17 : decode cX9_draw 17 = .ok (.getfield 25, 3) := by decide +kernel
theorem dX9_draw_20 : decode cX9_draw 20 = .ok (.bipush 16, 2) := by decide +kernel
theorem dX9_draw_22 : decode cX9_draw 22 = .ok (.iushr, 1) := by decide +kernel
theorem dX9_draw_23 : decode cX9_draw 23 = .ok (.iload_n 1, 1) := by decide +kernel
theorem dX9_draw_24 : decode cX9_draw 24 = .ok (.irem, 1) := by decide +kernel
theorem dX9_draw_25 : decode cX9_draw 25 = .ok (.ireturn, 1) := by decide +kernel
theorem dX9_begin_0 : decode cX9_begin 0 = .ok (.aload_n 0, 1) := by decide +kernel
theorem dX9_begin_1 : decode cX9_begin 1 = .ok (.iload_n 1, 1) := by decide +kernel
theorem dX9_begin_2 : decode cX9_begin 2 = .ok (.invokevirtual 151, 3) := by decide +kernel
theorem dX9_begin_5 : decode cX9_begin 5 = .ok (.ifCond .ne 9, 3) := by decide +kernel
theorem dX9_begin_8 : decode cX9_begin 8 = .ok (.aload_n 0, 1) := by decide +kernel
theorem dX9_begin_9 : decode cX9_begin 9 = .ok (.iconst (-1), 1) := by decide +kernel
theorem dX9_begin_10 : decode cX9_begin 10 = .ok (.invokevirtual 122, 3) := by decide +kernel
theorem dX9_begin_13 : decode cX9_begin 13 = .ok (.ireturn, 1) := by decide +kernel
theorem dX9_begin_14 : decode cX9_begin 14 = .ok (.aload_n 0, 1) := by decide +kernel
theorem dX9_begin_15 : decode cX9_begin 15 = .ok (.getfield 22, 3) := by decide +kernel
theorem dX9_begin_18 : decode cX9_begin 18 = .ok (.istore_n 2, 1) := by decide +kernel
theorem dX9_begin_19 : decode cX9_begin 19 = .ok (.aload_n 0, 1) := by decide +kernel
theorem dX9_begin_20 : decode cX9_begin 20 = .ok (.iload_n 1, 1) := by decide +kernel
theorem dX9_begin_21 : decode cX9_begin 21 = .ok (.putfield 22, 3) := by decide +kernel
theorem dX9_begin_24 : decode cX9_begin 24 = .ok (.iload_n 2, 1) := by decide +kernel
theorem dX9_begin_25 : decode cX9_begin 25 = .ok (.ireturn, 1) := by decide +kernel
theorem dX9_goes_0 : decode cX9_goes 0 = .ok (.aload_n 0, 1) := by decide +kernel
theorem dX9_goes_1 : decode cX9_goes 1 = .ok (.getfield 22, 3) := by decide +kernel
theorem dX9_goes_4 : decode cX9_goes 4 = .ok (.iconst (-1), 1) := by decide +kernel
theorem dX9_goes_5 : decode cX9_goes 5 = .ok (.if_icmp .ne 10, 3) := by decide +kernel
theorem dX9_goes_8 : decode cX9_goes 8 = .ok (.aload_n 0, 1) := by decide +kernel
theorem dX9_goes_9 : decode cX9_goes 9 = .ok (.bipush (-6), 2) := by decide +kernel
theorem dX9_goes_11 : decode cX9_goes 11 = .ok (.invokevirtual 122, 3) := by decide +kernel
theorem dX9_goes_14 : decode cX9_goes 14 = .ok (.ireturn, 1) := by decide +kernel
theorem dX9_goes_15 : decode cX9_goes 15 = .ok (.aload_n 0, 1) := by decide +kernel
theorem dX9_goes_16 : decode cX9_goes 16 = .ok (.getfield 136, 3) := by decide +kernel
theorem dX9_goes_19 : decode cX9_goes 19 = .ok (.bipush 16, 2) := by decide +kernel
theorem dX9_goes_21 : decode cX9_goes 21 = .ok (.if_icmp .ne 10, 3) := by decide +kernel
theorem dX9_goes_24 : decode cX9_goes 24 = .ok (.aload_n 0, 1) := by decide +kernel
theorem dX9_goes_25 : decode cX9_goes 25 = .ok (.bipush (-7), 2) := by decide +kernel
theorem dX9_goes_27 : decode cX9_goes 27 = .ok (.invokevirtual 122, 3) := by decide +kernel
theorem dX9_goes_30 : decode cX9_goes 30 = .ok (.ireturn, 1) := by decide +kernel
theorem dX9_goes_31 : decode cX9_goes 31 = .ok (.aload_n 0, 1) := by decide +kernel
theorem dX9_goes_32 : decode cX9_goes 32 = .ok (.bipush 10, 2) := by decide +kernel
theorem dX9_goes_34 : decode cX9_goes 34 = .ok (.invokevirtual 291, 3) := by decide +kernel
theorem dX9_goes_37 : decode cX9_goes 37 = .ok (.istore_n 2, 1) := by decide +kernel
theorem dX9_goes_38 : decode cX9_goes 38 = .ok (.iload_n 2, 1) := by decide +kernel
theorem dX9_goes_39 : decode cX9_goes 39 = .ok (.aload_n 0, 1) := by decide +kernel
theorem dX9_goes_40 : decode cX9_goes 40 = .ok (.getfield 13, 3) := by decide +kernel
theorem dX9_goes_43 : decode cX9_goes 43 = .ok (.if_icmp .ge 7, 3) := by decide +kernel
theorem dX9_goes_46 : decode cX9_goes 46 = .ok (.iconst 0, 1) := by decide +kernel
theorem dX9_goes_47 : decode cX9_goes 47 = .ok (.goto 21, 3) := by decide +kernel
theorem dX9_goes_50 : decode cX9_goes 50 = .ok (.iload_n 2, 1) := by decide +kernel
theorem dX9_goes_51 : decode cX9_goes 51 = .ok (.aload_n 0, 1) := by decide +kernel
theorem dX9_goes_52 : decode cX9_goes 52 = .ok (.getfield 13, 3) := by decide +kernel
theorem dX9_goes_55 : decode cX9_goes 55 = .ok (.aload_n 0, 1) := by decide +kernel
theorem dX9_goes_56 : decode cX9_goes 56 = .ok (.getfield 16, 3) := by decide +kernel
theorem dX9_goes_59 : decode cX9_goes 59 = .ok (.iadd, 1) := by decide +kernel
theorem dX9_goes_60 : decode cX9_goes 60 = .ok (.if_icmp .ge 7, 3) := by decide +kernel
theorem dX9_goes_63 : decode cX9_goes 63 = .ok (.iconst 2, 1) := by decide +kernel
theorem dX9_goes_64 : decode cX9_goes 64 = .ok (.goto 4, 3) := by decide +kernel
theorem dX9_goes_67 : decode cX9_goes 67 = .ok (.iconst 1, 1) := by decide +kernel
theorem dX9_goes_68 : decode cX9_goes 68 = .ok (.istore_n 3, 1) := by decide +kernel
theorem dX9_goes_69 : decode cX9_goes 69 = .ok (.aload_n 0, 1) := by decide +kernel
theorem dX9_goes_70 : decode cX9_goes 70 = .ok (.aload_n 0, 1) := by decide +kernel
theorem dX9_goes_71 : decode cX9_goes 71 = .ok (.aload_n 0, 1) := by decide +kernel
theorem dX9_goes_72 : decode cX9_goes 72 = .ok (.getfield 22, 3) := by decide +kernel
theorem dX9_goes_75 : decode cX9_goes 75 = .ok (.iload_n 3, 1) := by decide +kernel
theorem dX9_goes_76 : decode cX9_goes 76 = .ok (.iload_n 1, 1) := by decide +kernel
theorem dX9_goes_77 : decode cX9_goes 77 = .ok (.invokevirtual 232, 3) := by decide +kernel
theorem dX9_goes_80 : decode cX9_goes 80 = .ok (.putfield 22, 3) := by decide +kernel
theorem dX9_goes_83 : decode cX9_goes 83 = .ok (.aload_n 0, 1) := by decide +kernel
theorem dX9_goes_84 : decode cX9_goes 84 = .ok (.iload_n 1, 1) := by decide +kernel
theorem dX9_goes_85 : decode cX9_goes 85 = .ok (.invokevirtual 239, 3) := by decide +kernel
theorem dX9_goes_88 : decode cX9_goes 88 = .ok (.iload_n 3, 1) := by decide +kernel
theorem dX9_goes_89 : decode cX9_goes 89 = .ok (.ireturn, 1) := by decide +kernel
theorem dX9_looks_0 : decode cX9_looks 0 = .ok (.aload_n 0, 1) := by decide +kernel
theorem dX9_looks_1 : decode cX9_looks 1 = .ok (.iload_n 1, 1) := by decide +kernel
theorem dX9_looks_2 : decode cX9_looks 2 = .ok (.invokevirtual 126, 3) := by decide +kernel
theorem dX9_looks_5 : decode cX9_looks 5 = .ok (.ifCond .ne 9, 3) := by decide +kernel
theorem dX9_looks_8 : decode cX9_looks 8 = .ok (.aload_n 0, 1) := by decide +kernel
theorem dX9_looks_9 : decode cX9_looks 9 = .ok (.iconst (-1), 1) := by decide +kernel
theorem dX9_looks_10 : decode cX9_looks 10 = .ok (.invokevirtual 122, 3) := by decide +kernel
theorem dX9_looks_13 : decode cX9_looks 13 = .ok (.ireturn, 1) := by decide +kernel
theorem dX9_looks_14 : decode cX9_looks 14 = .ok (.aload_n 0, 1) := by decide +kernel
theorem dX9_looks_15 : decode cX9_looks 15 = .ok (.getfield 22, 3) := by decide +kernel
theorem dX9_looks_18 : decode cX9_looks 18 = .ok (.iconst (-1), 1) := by decide +kernel
theorem dX9_looks_19 : decode cX9_looks 19 = .ok (.if_icmp .ne 10, 3) := by decide +kernel
theorem dX9_looks_22 : decode cX9_looks 22 = .ok (.aload_n 0, 1) := by decide +kernel
theorem dX9_looks_23 : decode cX9_looks 23 = .ok (.bipush (-6), 2) := by decide +kernel
theorem dX9_looks_25 : decode cX9_looks 25 = .ok (.invokevirtual 122, 3) := by decide +kernel
theorem dX9_looks_28 : decode cX9_looks 28 = .ok (.ireturn, 1) := by decide +kernel
theorem dX9_looks_29 : decode cX9_looks 29 = .ok (.aload_n 0, 1) := by decide +kernel
theorem dX9_looks_30 : decode cX9_looks 30 = .ok (.getfield 25, 3) := by decide +kernel
theorem dX9_looks_33 : decode cX9_looks 33 = .ok (.istore_n 2, 1) := by decide +kernel
theorem dX9_looks_34 : decode cX9_looks 34 = .ok (.aload_n 0, 1) := by decide +kernel
theorem dX9_looks_35 : decode cX9_looks 35 = .ok (.bipush 10, 2) := by decide +kernel
theorem dX9_looks_37 : decode cX9_looks 37 = .ok (.invokevirtual 291, 3) := by decide +kernel
theorem dX9_looks_40 : decode cX9_looks 40 = .ok (.aload_n 0, 1) := by decide +kernel
theorem dX9_looks_41 : decode cX9_looks 41 = .ok (.iload_n 1, 1) := by decide +kernel
theorem dX9_looks_42 : decode cX9_looks 42 = .ok (.aload_n 0, 1) := by decide +kernel
theorem dX9_looks_43 : decode cX9_looks 43 = .ok (.getfield 22, 3) := by decide +kernel
theorem dX9_looks_46 : decode cX9_looks 46 = .ok (.invokevirtual 132, 3) := by decide +kernel
theorem dX9_looks_49 : decode cX9_looks 49 = .ok (.if_icmp .ge 7, 3) := by decide +kernel
theorem dX9_looks_52 : decode cX9_looks 52 = .ok (.iconst 1, 1) := by decide +kernel
theorem dX9_looks_53 : decode cX9_looks 53 = .ok (.goto 4, 3) := by decide +kernel
theorem dX9_looks_56 : decode cX9_looks 56 = .ok (.iconst 0, 1) := by decide +kernel
theorem dX9_looks_57 : decode cX9_looks 57 = .ok (.istore_n 3, 1) := by decide +kernel
theorem dX9_looks_58 : decode cX9_looks 58 = .ok (.aload_n 0, 1) := by decide +kernel
theorem dX9_looks_59 : decode cX9_looks 59 = .ok (.iload_n 1, 1) := by decide +kernel
theorem dX9_looks_60 : decode cX9_looks 60 = .ok (.iload_n 3, 1) := by decide +kernel
theorem dX9_looks_61 : decode cX9_looks 61 = .ok (.invokevirtual 242, 3) := by decide +kernel
theorem dX9_looks_64 : decode cX9_looks 64 = .ok (.ifCond .ne 8, 3) := by decide +kernel
theorem dX9_looks_67 : decode cX9_looks 67 = .ok (.bipush (-6), 2) := by decide +kernel
theorem dX9_looks_69 : decode cX9_looks 69 = .ok (.goto 18, 3) := by decide +kernel
theorem dX9_looks_72 : decode cX9_looks 72 = .ok (.aload_n 0, 1) := by decide +kernel
theorem dX9_looks_73 : decode cX9_looks 73 = .ok (.getfield 136, 3) := by decide +kernel
theorem dX9_looks_76 : decode cX9_looks 76 = .ok (.bipush 16, 2) := by decide +kernel
theorem dX9_looks_78 : decode cX9_looks 78 = .ok (.if_icmp .ne 8, 3) := by decide +kernel
theorem dX9_looks_81 : decode cX9_looks 81 = .ok (.bipush (-7), 2) := by decide +kernel
theorem dX9_looks_83 : decode cX9_looks 83 = .ok (.goto 4, 3) := by decide +kernel
theorem dX9_looks_86 : decode cX9_looks 86 = .ok (.iconst 0, 1) := by decide +kernel
theorem dX9_looks_87 : decode cX9_looks 87 = .ok (.istore 4, 2) := by decide +kernel
theorem dX9_looks_89 : decode cX9_looks 89 = .ok (.iload 4, 2) := by decide +kernel
theorem dX9_looks_91 : decode cX9_looks 91 = .ok (.ifCond .eq 15, 3) := by decide +kernel
theorem dX9_looks_94 : decode cX9_looks 94 = .ok (.aload_n 0, 1) := by decide +kernel
theorem dX9_looks_95 : decode cX9_looks 95 = .ok (.iload_n 2, 1) := by decide +kernel
theorem dX9_looks_96 : decode cX9_looks 96 = .ok (.putfield 25, 3) := by decide +kernel
theorem dX9_looks_99 : decode cX9_looks 99 = .ok (.aload_n 0, 1) := by decide +kernel
theorem dX9_looks_100 : decode cX9_looks 100 = .ok (.iload 4, 2) := by decide +kernel
theorem dX9_looks_102 : decode cX9_looks 102 = .ok (.invokevirtual 122, 3) := by decide +kernel
theorem dX9_looks_105 : decode cX9_looks 105 = .ok (.ireturn, 1) := by decide +kernel
theorem dX9_looks_106 : decode cX9_looks 106 = .ok (.aload_n 0, 1) := by decide +kernel
theorem dX9_looks_107 : decode cX9_looks 107 = .ok (.iload_n 1, 1) := by decide +kernel
theorem dX9_looks_108 : decode cX9_looks 108 = .ok (.iload_n 3, 1) := by decide +kernel
theorem dX9_looks_109 : decode cX9_looks 109 = .ok (.invokevirtual 246, 3) := by decide +kernel
theorem dX9_looks_112 : decode cX9_looks 112 = .ok (.iload_n 3, 1) := by decide +kernel
theorem dX9_looks_113 : decode cX9_looks 113 = .ok (.ifCond .eq 7, 3) := by decide +kernel
theorem dX9_looks_116 : decode cX9_looks 116 = .ok (.iconst 1, 1) := by decide +kernel
theorem dX9_looks_117 : decode cX9_looks 117 = .ok (.goto 4, 3) := by decide +kernel
theorem dX9_looks_120 : decode cX9_looks 120 = .ok (.iconst 0, 1) := by decide +kernel
theorem dX9_looks_121 : decode cX9_looks 121 = .ok (.ireturn, 1) := by decide +kernel
theorem dX9_right_0 : decode cX9_right 0 = .ok (.aload_n 0, 1) := by decide +kernel
theorem dX9_right_1 : decode cX9_right 1 = .ok (.getfield 22, 3) := by decide +kernel
theorem dX9_right_4 : decode cX9_right 4 = .ok (.iconst (-1), 1) := by decide +kernel
theorem dX9_right_5 : decode cX9_right 5 = .ok (.if_icmp .ne 10, 3) := by decide +kernel
theorem dX9_right_8 : decode cX9_right 8 = .ok (.aload_n 0, 1) := by decide +kernel
theorem dX9_right_9 : decode cX9_right 9 = .ok (.bipush (-6), 2) := by decide +kernel
theorem dX9_right_11 : decode cX9_right 11 = .ok (.invokevirtual 122, 3) := by decide +kernel
theorem dX9_right_14 : decode cX9_right 14 = .ok (.ireturn, 1) := by decide +kernel
theorem dX9_right_15 : decode cX9_right 15 = .ok (.aload_n 0, 1) := by decide +kernel
theorem dX9_right_16 : decode cX9_right 16 = .ok (.getfield 22, 3) := by decide +kernel
theorem dX9_right_19 : decode cX9_right 19 = .ok (.aload_n 0, 1) := by decide +kernel
theorem dX9_right_20 : decode cX9_right 20 = .ok (.invokevirtual 250, 3) := by decide +kernel
theorem dX9_right_23 : decode cX9_right 23 = .ok (.if_icmp .ne 7, 3) := by decide +kernel
theorem dX9_right_26 : decode cX9_right 26 = .ok (.iconst 1, 1) := by decide +kernel
theorem dX9_right_27 : decode cX9_right 27 = .ok (.goto 4, 3) := by decide +kernel
theorem dX9_right_30 : decode cX9_right 30 = .ok (.iconst 0, 1) := by decide +kernel
theorem dX9_right_31 : decode cX9_right 31 = .ok (.ireturn, 1) := by decide +kernel
theorem dX9_seed_0 : decode cX9_seed 0 = .ok (.aload_n 0, 1) := by decide +kernel
theorem dX9_seed_1 : decode cX9_seed 1 = .ok (.getfield 25, 3) := by decide +kernel
theorem dX9_seed_4 : decode cX9_seed 4 = .ok (.istore_n 2, 1) := by decide +kernel
theorem dX9_seed_5 : decode cX9_seed 5 = .ok (.aload_n 0, 1) := by decide +kernel
theorem dX9_seed_6 : decode cX9_seed 6 = .ok (.iload_n 1, 1) := by decide +kernel
theorem dX9_seed_7 : decode cX9_seed 7 = .ok (.putfield 25, 3) := by decide +kernel
theorem dX9_seed_10 : decode cX9_seed 10 = .ok (.iload_n 2, 1) := by decide +kernel
theorem dX9_seed_11 : decode cX9_seed 11 = .ok (.ireturn, 1) := by decide +kernel
theorem dX9_body_0 : decode cX9_body 0 = .ok (.aload_n 0, 1) := by decide +kernel
theorem dX9_body_1 : decode cX9_body 1 = .ok (.getfield 294, 3) := by decide +kernel
theorem dX9_body_4 : decode cX9_body 4 = .ok (.bipush 20, 2) := by decide +kernel
theorem dX9_body_6 : decode cX9_body 6 = .ok (.if_icmp .ge 13, 3) := by decide +kernel
theorem dX9_body_9 : decode cX9_body 9 = .ok (.aload_n 0, 1) := by decide +kernel
theorem dX9_body_10 : decode cX9_body 10 = .ok (.getfield 108, 3) := by decide +kernel
theorem dX9_body_13 : decode cX9_body 13 = .ok (.aload_n 0, 1) := by decide +kernel
theorem dX9_body_14 : decode cX9_body 14 = .ok (.getfield 294, 3) := by decide +kernel
theorem dX9_body_17 : decode cX9_body 17 = .ok (.iload_n 1, 1) := by decide +kernel
theorem dX9_body_18 : decode cX9_body 18 = .ok (.iastore, 1) := by decide +kernel
theorem dX9_body_19 : decode cX9_body 19 = .ok (.aload_n 0, 1) := by decide +kernel
theorem dX9_body_20 : decode cX9_body 20 = .ok (.dup, 1) := by decide +kernel
theorem dX9_body_21 : decode cX9_body 21 = .ok (.getfield 294, 3) := by decide +kernel
theorem dX9_body_24 : decode cX9_body 24 = .ok (.iconst 1, 1) := by decide +kernel
theorem dX9_body_25 : decode cX9_body 25 = .ok (.iadd, 1) := by decide +kernel
theorem dX9_body_26 : decode cX9_body 26 = .ok (.putfield 294, 3) := by decide +kernel
theorem dX9_body_29 : decode cX9_body 29 = .ok (.return_, 1) := by decide +kernel
theorem dX9_feeling_0 : decode cX9_feeling 0 = .ok (.aload_n 0, 1) := by decide +kernel
theorem dX9_feeling_1 : decode cX9_feeling 1 = .ok (.getfield 35, 3) := by decide +kernel
theorem dX9_feeling_4 : decode cX9_feeling 4 = .ok (.iload_n 1, 1) := by decide +kernel
theorem dX9_feeling_5 : decode cX9_feeling 5 = .ok (.iaload, 1) := by decide +kernel
theorem dX9_feeling_6 : decode cX9_feeling 6 = .ok (.istore_n 3, 1) := by decide +kernel
theorem dX9_feeling_7 : decode cX9_feeling 7 = .ok (.iload_n 3, 1) := by decide +kernel
theorem dX9_feeling_8 : decode cX9_feeling 8 = .ok (.iconst 1, 1) := by decide +kernel
theorem dX9_feeling_9 : decode cX9_feeling 9 = .ok (.if_icmp .eq 14, 3) := by decide +kernel
theorem dX9_feeling_12 : decode cX9_feeling 12 = .ok (.iload_n 3, 1) := by decide +kernel
theorem dX9_feeling_13 : decode cX9_feeling 13 = .ok (.iconst 4, 1) := by decide +kernel
theorem dX9_feeling_14 : decode cX9_feeling 14 = .ok (.if_icmp .eq 9, 3) := by decide +kernel
theorem dX9_feeling_17 : decode cX9_feeling 17 = .ok (.iload_n 3, 1) := by decide +kernel
theorem dX9_feeling_18 : decode cX9_feeling 18 = .ok (.bipush 6, 2) := by decide +kernel
theorem dX9_feeling_20 : decode cX9_feeling 20 = .ok (.if_icmp .ne 7, 3) := by decide +kernel
theorem dX9_feeling_23 : decode cX9_feeling 23 = .ok (.iconst 1, 1) := by decide +kernel
theorem dX9_feeling_24 : decode cX9_feeling 24 = .ok (.goto 4, 3) := by decide +kernel
theorem dX9_feeling_27 : decode cX9_feeling 27 = .ok (.iconst 0, 1) := by decide +kernel
theorem dX9_feeling_28 : decode cX9_feeling 28 = .ok (.istore 4, 2) := by decide +kernel
theorem dX9_feeling_30 : decode cX9_feeling 30 = .ok (.iload 4, 2) := by decide +kernel
theorem dX9_feeling_32 : decode cX9_feeling 32 = .ok (.ifCond .eq 9, 3) := by decide +kernel
theorem dX9_feeling_35 : decode cX9_feeling 35 = .ok (.aload_n 0, 1) := by decide +kernel
theorem dX9_feeling_36 : decode cX9_feeling 36 = .ok (.bipush 20, 2) := by decide +kernel
theorem dX9_feeling_38 : decode cX9_feeling 38 = .ok (.invokevirtual 297, 3) := by decide +kernel
theorem dX9_feeling_41 : decode cX9_feeling 41 = .ok (.iload_n 3, 1) := by decide +kernel
theorem dX9_feeling_42 : decode cX9_feeling 42 = .ok (.iconst 5, 1) := by decide +kernel
theorem dX9_feeling_43 : decode cX9_feeling 43 = .ok (.if_icmp .ne 9, 3) := by decide +kernel
theorem dX9_feeling_46 : decode cX9_feeling 46 = .ok (.aload_n 0, 1) := by decide +kernel
theorem dX9_feeling_47 : decode cX9_feeling 47 = .ok (.bipush 70, 2) := by decide +kernel
theorem dX9_feeling_49 : decode cX9_feeling 49 = .ok (.invokevirtual 297, 3) := by decide +kernel
theorem dX9_feeling_52 : decode cX9_feeling 52 = .ok (.aload_n 0, 1) := by decide +kernel
theorem dX9_feeling_53 : decode cX9_feeling 53 = .ok (.bipush 10, 2) := by decide +kernel
theorem dX9_feeling_55 : decode cX9_feeling 55 = .ok (.invokevirtual 297, 3) := by decide +kernel
theorem dX9_feeling_58 : decode cX9_feeling 58 = .ok (.iload_n 2, 1) := by decide +kernel
theorem dX9_feeling_59 : decode cX9_feeling 59 = .ok (.iload_n 1, 1) := by decide +kernel
theorem dX9_feeling_60 : decode cX9_feeling 60 = .ok (.iadd, 1) := by decide +kernel
theorem dX9_feeling_61 : decode cX9_feeling 61 = .ok (.istore 5, 2) := by decide +kernel
theorem dX9_feeling_63 : decode cX9_feeling 63 = .ok (.iload 4, 2) := by decide +kernel
theorem dX9_feeling_65 : decode cX9_feeling 65 = .ok (.ifCond .eq 15, 3) := by decide +kernel
theorem dX9_feeling_68 : decode cX9_feeling 68 = .ok (.iload 5, 2) := by decide +kernel
theorem dX9_feeling_70 : decode cX9_feeling 70 = .ok (.aload_n 0, 1) := by decide +kernel
theorem dX9_feeling_71 : decode cX9_feeling 71 = .ok (.getfield 44, 3) := by decide +kernel
theorem dX9_feeling_74 : decode cX9_feeling 74 = .ok (.iload_n 1, 1) := by decide +kernel
theorem dX9_feeling_75 : decode cX9_feeling 75 = .ok (.iaload, 1) := by decide +kernel
theorem dX9_feeling_76 : decode cX9_feeling 76 = .ok (.iadd, 1) := by decide +kernel
theorem dX9_feeling_77 : decode cX9_feeling 77 = .ok (.goto 17, 3) := by decide +kernel
theorem dX9_feeling_80 : decode cX9_feeling 80 = .ok (.iload_n 3, 1) := by decide +kernel
theorem dX9_feeling_81 : decode cX9_feeling 81 = .ok (.iconst 5, 1) := by decide +kernel
theorem dX9_feeling_82 : decode cX9_feeling 82 = .ok (.if_icmp .ne 10, 3) := by decide +kernel
theorem dX9_feeling_85 : decode cX9_feeling 85 = .ok (.iload 5, 2) := by decide +kernel
theorem dX9_feeling_87 : decode cX9_feeling 87 = .ok (.iconst 2, 1) := by decide +kernel
theorem dX9_feeling_88 : decode cX9_feeling 88 = .ok (.imul, 1) := by decide +kernel
theorem dX9_feeling_89 : decode cX9_feeling 89 = .ok (.goto 5, 3) := by decide +kernel
theorem dX9_feeling_92 : decode cX9_feeling 92 = .ok (.iload 5, 2) := by decide +kernel
theorem dX9_feeling_94 : decode cX9_feeling 94 = .ok (.ireturn, 1) := by decide +kernel
theorem dX9_teaching_0 : decode cX9_teaching 0 = .ok (.aload_n 0, 1) := by decide +kernel
theorem dX9_teaching_1 : decode cX9_teaching 1 = .ok (.getfield 35, 3) := by decide +kernel
theorem dX9_teaching_4 : decode cX9_teaching 4 = .ok (.iload_n 1, 1) := by decide +kernel
theorem dX9_teaching_5 : decode cX9_teaching 5 = .ok (.iaload, 1) := by decide +kernel
theorem dX9_teaching_6 : decode cX9_teaching 6 = .ok (.istore_n 3, 1) := by decide +kernel
theorem dX9_teaching_7 : decode cX9_teaching 7 = .ok (.iload_n 2, 1) := by decide +kernel
theorem dX9_teaching_8 : decode cX9_teaching 8 = .ok (.istore 4, 2) := by decide +kernel
theorem dX9_teaching_10 : decode cX9_teaching 10 = .ok (.iload_n 3, 1) := by decide +kernel
theorem dX9_teaching_11 : decode cX9_teaching 11 = .ok (.iconst 4, 1) := by decide +kernel
theorem dX9_teaching_12 : decode cX9_teaching 12 = .ok (.if_icmp .ne 9, 3) := by decide +kernel
theorem dX9_teaching_15 : decode cX9_teaching 15 = .ok (.aload_n 0, 1) := by decide +kernel
theorem dX9_teaching_16 : decode cX9_teaching 16 = .ok (.bipush 30, 2) := by decide +kernel
theorem dX9_teaching_18 : decode cX9_teaching 18 = .ok (.invokevirtual 297, 3) := by decide +kernel
theorem dX9_teaching_21 : decode cX9_teaching 21 = .ok (.iload_n 3, 1) := by decide +kernel
theorem dX9_teaching_22 : decode cX9_teaching 22 = .ok (.bipush 6, 2) := by decide +kernel
theorem dX9_teaching_24 : decode cX9_teaching 24 = .ok (.if_icmp .ne 14, 3) := by decide +kernel
theorem dX9_teaching_27 : decode cX9_teaching 27 = .ok (.aload_n 0, 1) := by decide +kernel
theorem dX9_teaching_28 : decode cX9_teaching 28 = .ok (.bipush 40, 2) := by decide +kernel
theorem dX9_teaching_30 : decode cX9_teaching 30 = .ok (.invokevirtual 297, 3) := by decide +kernel
theorem dX9_teaching_33 : decode cX9_teaching 33 = .ok (.iload_n 2, 1) := by decide +kernel
theorem dX9_teaching_34 : decode cX9_teaching 34 = .ok (.iconst 1, 1) := by decide +kernel
theorem dX9_teaching_35 : decode cX9_teaching 35 = .ok (.iadd, 1) := by decide +kernel
theorem dX9_teaching_36 : decode cX9_teaching 36 = .ok (.istore 4, 2) := by decide +kernel
theorem dX9_teaching_38 : decode cX9_teaching 38 = .ok (.iload_n 3, 1) := by decide +kernel
theorem dX9_teaching_39 : decode cX9_teaching 39 = .ok (.iconst 5, 1) := by decide +kernel
theorem dX9_teaching_40 : decode cX9_teaching 40 = .ok (.if_icmp .ne 19, 3) := by decide +kernel
theorem dX9_teaching_43 : decode cX9_teaching 43 = .ok (.aload_n 0, 1) := by decide +kernel
theorem dX9_teaching_44 : decode cX9_teaching 44 = .ok (.bipush 71, 2) := by decide +kernel
theorem dX9_teaching_46 : decode cX9_teaching 46 = .ok (.invokevirtual 297, 3) := by decide +kernel
theorem dX9_teaching_49 : decode cX9_teaching 49 = .ok (.iload_n 2, 1) := by decide +kernel
theorem dX9_teaching_50 : decode cX9_teaching 50 = .ok (.aload_n 0, 1) := by decide +kernel
theorem dX9_teaching_51 : decode cX9_teaching 51 = .ok (.getfield 44, 3) := by decide +kernel
theorem dX9_teaching_54 : decode cX9_teaching 54 = .ok (.iload_n 1, 1) := by decide +kernel
theorem dX9_teaching_55 : decode cX9_teaching 55 = .ok (.iaload, 1) := by decide +kernel
theorem dX9_teaching_56 : decode cX9_teaching 56 = .ok (.isub, 1) := by decide +kernel
theorem dX9_teaching_57 : decode cX9_teaching 57 = .ok (.istore 4, 2) := by decide +kernel
theorem dX9_teaching_59 : decode cX9_teaching 59 = .ok (.aload_n 0, 1) := by decide +kernel
theorem dX9_teaching_60 : decode cX9_teaching 60 = .ok (.bipush 11, 2) := by decide +kernel
theorem dX9_teaching_62 : decode cX9_teaching 62 = .ok (.invokevirtual 297, 3) := by decide +kernel
theorem dX9_teaching_65 : decode cX9_teaching 65 = .ok (.aload_n 0, 1) := by decide +kernel
theorem dX9_teaching_66 : decode cX9_teaching 66 = .ok (.iload_n 1, 1) := by decide +kernel
theorem dX9_teaching_67 : decode cX9_teaching 67 = .ok (.iload 4, 2) := by decide +kernel
theorem dX9_teaching_69 : decode cX9_teaching 69 = .ok (.invokevirtual 300, 3) := by decide +kernel
theorem dX9_teaching_72 : decode cX9_teaching 72 = .ok (.iconst 2, 1) := by decide +kernel
theorem dX9_teaching_73 : decode cX9_teaching 73 = .ok (.imul, 1) := by decide +kernel
theorem dX9_teaching_74 : decode cX9_teaching 74 = .ok (.istore 5, 2) := by decide +kernel
theorem dX9_teaching_76 : decode cX9_teaching 76 = .ok (.iload_n 3, 1) := by decide +kernel
theorem dX9_teaching_77 : decode cX9_teaching 77 = .ok (.iconst 4, 1) := by decide +kernel
theorem dX9_teaching_78 : decode cX9_teaching 78 = .ok (.if_icmp .ne 10, 3) := by decide +kernel
theorem dX9_teaching_81 : decode cX9_teaching 81 = .ok (.iload 5, 2) := by decide +kernel
theorem dX9_teaching_83 : decode cX9_teaching 83 = .ok (.iconst 3, 1) := by decide +kernel
theorem dX9_teaching_84 : decode cX9_teaching 84 = .ok (.imul, 1) := by decide +kernel
theorem dX9_teaching_85 : decode cX9_teaching 85 = .ok (.goto 5, 3) := by decide +kernel
theorem dX9_teaching_88 : decode cX9_teaching 88 = .ok (.iload 5, 2) := by decide +kernel
theorem dX9_teaching_90 : decode cX9_teaching 90 = .ok (.ireturn, 1) := by decide +kernel
theorem dX9_fading_0 : decode cX9_fading 0 = .ok (.aload_n 0, 1) := by decide +kernel
theorem dX9_fading_1 : decode cX9_fading 1 = .ok (.getfield 35, 3) := by decide +kernel
theorem dX9_fading_4 : decode cX9_fading 4 = .ok (.iload_n 1, 1) := by decide +kernel
theorem dX9_fading_5 : decode cX9_fading 5 = .ok (.iaload, 1) := by decide +kernel
theorem dX9_fading_6 : decode cX9_fading 6 = .ok (.istore_n 3, 1) := by decide +kernel
theorem dX9_fading_7 : decode cX9_fading 7 = .ok (.iload_n 3, 1) := by decide +kernel
theorem dX9_fading_8 : decode cX9_fading 8 = .ok (.bipush 6, 2) := by decide +kernel
theorem dX9_fading_10 : decode cX9_fading 10 = .ok (.if_icmp .ne 9, 3) := by decide +kernel
theorem dX9_fading_13 : decode cX9_fading 13 = .ok (.aload_n 0, 1) := by decide +kernel
theorem dX9_fading_14 : decode cX9_fading 14 = .ok (.bipush 41, 2) := by decide +kernel
theorem dX9_fading_16 : decode cX9_fading 16 = .ok (.invokevirtual 297, 3) := by decide +kernel
theorem dX9_fading_19 : decode cX9_fading 19 = .ok (.iload_n 3, 1) := by decide +kernel
theorem dX9_fading_20 : decode cX9_fading 20 = .ok (.iconst 3, 1) := by decide +kernel
theorem dX9_fading_21 : decode cX9_fading 21 = .ok (.if_icmp .ne 9, 3) := by decide +kernel
theorem dX9_fading_24 : decode cX9_fading 24 = .ok (.aload_n 0, 1) := by decide +kernel
theorem dX9_fading_25 : decode cX9_fading 25 = .ok (.bipush 60, 2) := by decide +kernel
theorem dX9_fading_27 : decode cX9_fading 27 = .ok (.invokevirtual 297, 3) := by decide +kernel
theorem dX9_fading_30 : decode cX9_fading 30 = .ok (.iload_n 3, 1) := by decide +kernel
theorem dX9_fading_31 : decode cX9_fading 31 = .ok (.iconst 2, 1) := by decide +kernel
theorem dX9_fading_32 : decode cX9_fading 32 = .ok (.if_icmp .eq 8, 3) := by decide +kernel
theorem dX9_fading_35 : decode cX9_fading 35 = .ok (.iload_n 3, 1) := by decide +kernel
theorem dX9_fading_36 : decode cX9_fading 36 = .ok (.iconst 3, 1) := by decide +kernel
theorem dX9_fading_37 : decode cX9_fading 37 = .ok (.if_icmp .ne 9, 3) := by decide +kernel
theorem dX9_fading_40 : decode cX9_fading 40 = .ok (.aload_n 0, 1) := by decide +kernel
theorem dX9_fading_41 : decode cX9_fading 41 = .ok (.bipush 50, 2) := by decide +kernel
theorem dX9_fading_43 : decode cX9_fading 43 = .ok (.invokevirtual 297, 3) := by decide +kernel
theorem dX9_fading_46 : decode cX9_fading 46 = .ok (.aload_n 0, 1) := by decide +kernel
theorem dX9_fading_47 : decode cX9_fading 47 = .ok (.bipush 12, 2) := by decide +kernel
theorem dX9_fading_49 : decode cX9_fading 49 = .ok (.invokevirtual 297, 3) := by decide +kernel
theorem dX9_fading_52 : decode cX9_fading 52 = .ok (.aload_n 0, 1) := by decide +kernel
theorem dX9_fading_53 : decode cX9_fading 53 = .ok (.iload_n 1, 1) := by decide +kernel
theorem dX9_fading_54 : decode cX9_fading 54 = .ok (.iload_n 2, 1) := by decide +kernel
theorem dX9_fading_55 : decode cX9_fading 55 = .ok (.invokevirtual 303, 3) := by decide +kernel
theorem dX9_fading_58 : decode cX9_fading 58 = .ok (.istore 4, 2) := by decide +kernel
theorem dX9_fading_60 : decode cX9_fading 60 = .ok (.iload 4, 2) := by decide +kernel
theorem dX9_fading_62 : decode cX9_fading 62 = .ok (.aload_n 0, 1) := by decide +kernel
theorem dX9_fading_63 : decode cX9_fading 63 = .ok (.iload_n 1, 1) := by decide +kernel
theorem dX9_fading_64 : decode cX9_fading 64 = .ok (.iload_n 2, 1) := by decide +kernel
theorem dX9_fading_65 : decode cX9_fading 65 = .ok (.aload_n 0, 1) := by decide +kernel
theorem dX9_fading_66 : decode cX9_fading 66 = .ok (.getfield 44, 3) := by decide +kernel
theorem dX9_fading_69 : decode cX9_fading 69 = .ok (.iload_n 1, 1) := by decide +kernel
theorem dX9_fading_70 : decode cX9_fading 70 = .ok (.iaload, 1) := by decide +kernel
theorem dX9_fading_71 : decode cX9_fading 71 = .ok (.isub, 1) := by decide +kernel
theorem dX9_fading_72 : decode cX9_fading 72 = .ok (.invokevirtual 300, 3) := by decide +kernel
theorem dX9_fading_75 : decode cX9_fading 75 = .ok (.ixor, 1) := by decide +kernel
theorem dX9_fading_76 : decode cX9_fading 76 = .ok (.istore 4, 2) := by decide +kernel
theorem dX9_fading_78 : decode cX9_fading 78 = .ok (.iload_n 3, 1) := by decide +kernel
theorem dX9_fading_79 : decode cX9_fading 79 = .ok (.bipush 6, 2) := by decide +kernel
theorem dX9_fading_81 : decode cX9_fading 81 = .ok (.if_icmp .ne 10, 3) := by decide +kernel
theorem dX9_fading_84 : decode cX9_fading 84 = .ok (.iload 4, 2) := by decide +kernel
theorem dX9_fading_86 : decode cX9_fading 86 = .ok (.iload_n 1, 1) := by decide +kernel
theorem dX9_fading_87 : decode cX9_fading 87 = .ok (.isub, 1) := by decide +kernel
theorem dX9_fading_88 : decode cX9_fading 88 = .ok (.goto 29, 3) := by decide +kernel
theorem dX9_fading_91 : decode cX9_fading 91 = .ok (.iload_n 3, 1) := by decide +kernel
theorem dX9_fading_92 : decode cX9_fading 92 = .ok (.iconst 2, 1) := by decide +kernel
theorem dX9_fading_93 : decode cX9_fading 93 = .ok (.if_icmp .ne 9, 3) := by decide +kernel
theorem dX9_fading_96 : decode cX9_fading 96 = .ok (.iload 4, 2) := by decide +kernel
theorem dX9_fading_98 : decode cX9_fading 98 = .ok (.ineg, 1) := by decide +kernel
theorem dX9_fading_99 : decode cX9_fading 99 = .ok (.goto 18, 3) := by decide +kernel
theorem dX9_fading_102 : decode cX9_fading 102 = .ok (.iload_n 3, 1) := by decide +kernel
theorem dX9_fading_103 : decode cX9_fading 103 = .ok (.iconst 3, 1) := by decide +kernel
theorem dX9_fading_104 : decode cX9_fading 104 = .ok (.if_icmp .ne 11, 3) := by decide +kernel
theorem dX9_fading_107 : decode cX9_fading 107 = .ok (.iload 4, 2) := by decide +kernel
theorem dX9_fading_109 : decode cX9_fading 109 = .ok (.ineg, 1) := by decide +kernel
theorem dX9_fading_110 : decode cX9_fading 110 = .ok (.iconst 5, 1) := by decide +kernel
theorem dX9_fading_111 : decode cX9_fading 111 = .ok (.ixor, 1) := by decide +kernel
theorem dX9_fading_112 : decode cX9_fading 112 = .ok (.goto 5, 3) := by decide +kernel
theorem dX9_fading_115 : decode cX9_fading 115 = .ok (.iload 4, 2) := by decide +kernel
theorem dX9_fading_117 : decode cX9_fading 117 = .ok (.ireturn, 1) := by decide +kernel
theorem dX9_act_0 : decode cX9_act 0 = .ok (.aload_n 0, 1) := by decide +kernel
theorem dX9_act_1 : decode cX9_act 1 = .ok (.iconst 0, 1) := by decide +kernel
theorem dX9_act_2 : decode cX9_act 2 = .ok (.putfield 294, 3) := by decide +kernel
theorem dX9_act_5 : decode cX9_act 5 = .ok (.aload_n 0, 1) := by decide +kernel
theorem dX9_act_6 : decode cX9_act 6 = .ok (.iload_n 1, 1) := by decide +kernel
theorem dX9_act_7 : decode cX9_act 7 = .ok (.invokevirtual 126, 3) := by decide +kernel
theorem dX9_act_10 : decode cX9_act 10 = .ok (.ifCond .eq 12, 3) := by decide +kernel
theorem dX9_act_13 : decode cX9_act 13 = .ok (.iload_n 2, 1) := by decide +kernel
theorem dX9_act_14 : decode cX9_act 14 = .ok (.ifCond .lt 8, 3) := by decide +kernel
theorem dX9_act_17 : decode cX9_act 17 = .ok (.iload_n 2, 1) := by decide +kernel
theorem dX9_act_18 : decode cX9_act 18 = .ok (.iconst 2, 1) := by decide +kernel
theorem dX9_act_19 : decode cX9_act 19 = .ok (.if_icmp .le 5, 3) := by decide +kernel
theorem dX9_act_22 : decode cX9_act 22 = .ok (.iconst 0, 1) := by decide +kernel
theorem dX9_act_23 : decode cX9_act 23 = .ok (.ireturn, 1) := by decide +kernel
theorem dX9_act_24 : decode cX9_act 24 = .ok (.iload_n 2, 1) := by decide +kernel
theorem dX9_act_25 : decode cX9_act 25 = .ok (.ifCond .ne 12, 3) := by decide +kernel
theorem dX9_act_28 : decode cX9_act 28 = .ok (.aload_n 0, 1) := by decide +kernel
theorem dX9_act_29 : decode cX9_act 29 = .ok (.iload_n 1, 1) := by decide +kernel
theorem dX9_act_30 : decode cX9_act 30 = .ok (.iload_n 3, 1) := by decide +kernel
theorem dX9_act_31 : decode cX9_act 31 = .ok (.invokevirtual 300, 3) := by decide +kernel
theorem dX9_act_34 : decode cX9_act 34 = .ok (.goto 23, 3) := by decide +kernel
theorem dX9_act_37 : decode cX9_act 37 = .ok (.iload_n 2, 1) := by decide +kernel
theorem dX9_act_38 : decode cX9_act 38 = .ok (.iconst 1, 1) := by decide +kernel
theorem dX9_act_39 : decode cX9_act 39 = .ok (.if_icmp .ne 12, 3) := by decide +kernel
theorem dX9_act_42 : decode cX9_act 42 = .ok (.aload_n 0, 1) := by decide +kernel
theorem dX9_act_43 : decode cX9_act 43 = .ok (.iload_n 1, 1) := by decide +kernel
theorem dX9_act_44 : decode cX9_act 44 = .ok (.iload_n 3, 1) := by decide +kernel
theorem dX9_act_45 : decode cX9_act 45 = .ok (.invokevirtual 303, 3) := by decide +kernel
theorem dX9_act_48 : decode cX9_act 48 = .ok (.goto 9, 3) := by decide +kernel
theorem dX9_act_51 : decode cX9_act 51 = .ok (.aload_n 0, 1) := by decide +kernel
theorem dX9_act_52 : decode cX9_act 52 = .ok (.iload_n 1, 1) := by decide +kernel
theorem dX9_act_53 : decode cX9_act 53 = .ok (.iload_n 3, 1) := by decide +kernel
theorem dX9_act_54 : decode cX9_act 54 = .ok (.invokevirtual 306, 3) := by decide +kernel
theorem dX9_act_57 : decode cX9_act 57 = .ok (.ireturn, 1) := by decide +kernel
theorem dX9_trace_0 : decode cX9_trace 0 = .ok (.iload_n 1, 1) := by decide +kernel
theorem dX9_trace_1 : decode cX9_trace 1 = .ok (.ifCond .lt 26, 3) := by decide +kernel
theorem dX9_trace_4 : decode cX9_trace 4 = .ok (.iload_n 1, 1) := by decide +kernel
theorem dX9_trace_5 : decode cX9_trace 5 = .ok (.bipush 20, 2) := by decide +kernel
theorem dX9_trace_7 : decode cX9_trace 7 = .ok (.if_icmp .ge 20, 3) := by decide +kernel
theorem dX9_trace_10 : decode cX9_trace 10 = .ok (.iload_n 1, 1) := by decide +kernel
theorem dX9_trace_11 : decode cX9_trace 11 = .ok (.aload_n 0, 1) := by decide +kernel
theorem dX9_trace_12 : decode cX9_trace 12 = .ok (.getfield 294, 3) := by decide +kernel
theorem dX9_trace_15 : decode cX9_trace 15 = .ok (.if_icmp .ge 12, 3) := by decide +kernel
theorem dX9_trace_18 : decode cX9_trace 18 = .ok (.aload_n 0, 1) := by decide +kernel
theorem dX9_trace_19 : decode cX9_trace 19 = .ok (.getfield 108, 3) := by decide +kernel
theorem dX9_trace_22 : decode cX9_trace 22 = .ok (.iload_n 1, 1) := by decide +kernel
theorem dX9_trace_23 : decode cX9_trace 23 = .ok (.iaload, 1) := by decide +kernel
theorem dX9_trace_24 : decode cX9_trace 24 = .ok (.goto 4, 3) := by decide +kernel
theorem dX9_trace_27 : decode cX9_trace 27 = .ok (.iconst (-1), 1) := by decide +kernel
theorem dX9_trace_28 : decode cX9_trace 28 = .ok (.ireturn, 1) := by decide +kernel
theorem dX9_image_0 : decode cX9_image 0 = .ok (.aload_n 0, 1) := by decide +kernel
theorem dX9_image_1 : decode cX9_image 1 = .ok (.iconst 1, 1) := by decide +kernel
theorem dX9_image_2 : decode cX9_image 2 = .ok (.putfield 309, 3) := by decide +kernel
theorem dX9_image_5 : decode cX9_image 5 = .ok (.aload_n 0, 1) := by decide +kernel
theorem dX9_image_6 : decode cX9_image 6 = .ok (.aload_n 0, 1) := by decide +kernel
theorem dX9_image_7 : decode cX9_image 7 = .ok (.getfield 90, 3) := by decide +kernel
theorem dX9_image_10 : decode cX9_image 10 = .ok (.aload_n 0, 1) := by decide +kernel
theorem dX9_image_11 : decode cX9_image 11 = .ok (.getfield 96, 3) := by decide +kernel
theorem dX9_image_14 : decode cX9_image 14 = .ok (.iconst 0, 1) := by decide +kernel
theorem dX9_image_15 : decode cX9_image 15 = .ok (.invokevirtual 219, 3) := by decide +kernel
theorem dX9_image_18 : decode cX9_image 18 = .ok (.aload_n 0, 1) := by decide +kernel
theorem dX9_image_19 : decode cX9_image 19 = .ok (.getfield 115, 3) := by decide +kernel
theorem dX9_image_22 : decode cX9_image 22 = .ok (.ireturn, 1) := by decide +kernel
theorem dX9_restore_0 : decode cX9_restore 0 = .ok (.aload_n 0, 1) := by decide +kernel
theorem dX9_restore_1 : decode cX9_restore 1 = .ok (.getfield 309, 3) := by decide +kernel
theorem dX9_restore_4 : decode cX9_restore 4 = .ok (.ifCond .ne 10, 3) := by decide +kernel
theorem dX9_restore_7 : decode cX9_restore 7 = .ok (.aload_n 0, 1) := by decide +kernel
theorem dX9_restore_8 : decode cX9_restore 8 = .ok (.bipush (-6), 2) := by decide +kernel
theorem dX9_restore_10 : decode cX9_restore 10 = .ok (.invokevirtual 122, 3) := by decide +kernel
theorem dX9_restore_13 : decode cX9_restore 13 = .ok (.ireturn, 1) := by decide +kernel
theorem dX9_restore_14 : decode cX9_restore 14 = .ok (.aload_n 0, 1) := by decide +kernel
theorem dX9_restore_15 : decode cX9_restore 15 = .ok (.aload_n 0, 1) := by decide +kernel
theorem dX9_restore_16 : decode cX9_restore 16 = .ok (.getfield 90, 3) := by decide +kernel
theorem dX9_restore_19 : decode cX9_restore 19 = .ok (.aload_n 0, 1) := by decide +kernel
theorem dX9_restore_20 : decode cX9_restore 20 = .ok (.getfield 96, 3) := by decide +kernel
theorem dX9_restore_23 : decode cX9_restore 23 = .ok (.iconst 1, 1) := by decide +kernel
theorem dX9_restore_24 : decode cX9_restore 24 = .ok (.invokevirtual 219, 3) := by decide +kernel
theorem dX9_restore_27 : decode cX9_restore 27 = .ok (.iconst 0, 1) := by decide +kernel
theorem dX9_restore_28 : decode cX9_restore 28 = .ok (.istore_n 1, 1) := by decide +kernel
theorem dX9_restore_29 : decode cX9_restore 29 = .ok (.iload_n 1, 1) := by decide +kernel
theorem dX9_restore_30 : decode cX9_restore 30 = .ok (.bipush 8, 2) := by decide +kernel
theorem dX9_restore_32 : decode cX9_restore 32 = .ok (.if_icmp .ge 39, 3) := by decide +kernel
theorem dX9_restore_35 : decode cX9_restore 35 = .ok (.aload_n 0, 1) := by decide +kernel
theorem dX9_restore_36 : decode cX9_restore 36 = .ok (.getfield 63, 3) := by decide +kernel
theorem dX9_restore_39 : decode cX9_restore 39 = .ok (.iload_n 1, 1) := by decide +kernel
theorem dX9_restore_40 : decode cX9_restore 40 = .ok (.iaload, 1) := by decide +kernel
theorem dX9_restore_41 : decode cX9_restore 41 = .ok (.iconst 2, 1) := by decide +kernel
theorem dX9_restore_42 : decode cX9_restore 42 = .ok (.if_icmp .ne 23, 3) := by decide +kernel
theorem dX9_restore_45 : decode cX9_restore 45 = .ok (.aload_n 0, 1) := by decide +kernel
theorem dX9_restore_46 : decode cX9_restore 46 = .ok (.getfield 72, 3) := by decide +kernel
theorem dX9_restore_49 : decode cX9_restore 49 = .ok (.iload_n 1, 1) := by decide +kernel
theorem dX9_restore_50 : decode cX9_restore 50 = .ok (.iaload, 1) := by decide +kernel
theorem dX9_restore_51 : decode cX9_restore 51 = .ok (.aload_n 0, 1) := by decide +kernel
theorem dX9_restore_52 : decode cX9_restore 52 = .ok (.getfield 115, 3) := by decide +kernel
theorem dX9_restore_55 : decode cX9_restore 55 = .ok (.if_icmp .lt 10, 3) := by decide +kernel
theorem dX9_restore_58 : decode cX9_restore 58 = .ok (.aload_n 0, 1) := by decide +kernel
theorem dX9_restore_59 : decode cX9_restore 59 = .ok (.getfield 63, 3) := by decide +kernel
theorem dX9_restore_62 : decode cX9_restore 62 = .ok (.iload_n 1, 1) := by decide +kernel
theorem dX9_restore_63 : decode cX9_restore 63 = .ok (.iconst 0, 1) := by decide +kernel
theorem dX9_restore_64 : decode cX9_restore 64 = .ok (.iastore, 1) := by decide +kernel
theorem dX9_restore_65 : decode cX9_restore 65 = .ok (.iinc 1 1, 3) := by decide +kernel
theorem dX9_restore_68 : decode cX9_restore 68 = .ok (.goto (-39), 3) := by decide +kernel
theorem dX9_restore_71 : decode cX9_restore 71 = .ok (.aload_n 0, 1) := by decide +kernel
theorem dX9_restore_72 : decode cX9_restore 72 = .ok (.getfield 115, 3) := by decide +kernel
theorem dX9_restore_75 : decode cX9_restore 75 = .ok (.ireturn, 1) := by decide +kernel
theorem dX9_status_0 : decode cX9_status 0 = .ok (.iload_n 1, 1) := by decide +kernel
theorem dX9_status_1 : decode cX9_status 1 = .ok (.bipush 11, 2) := by decide +kernel
theorem dX9_status_3 : decode cX9_status 3 = .ok (.if_icmp .lt 19, 3) := by decide +kernel
theorem dX9_status_6 : decode cX9_status 6 = .ok (.iload_n 1, 1) := by decide +kernel
theorem dX9_status_7 : decode cX9_status 7 = .ok (.bipush 17, 2) := by decide +kernel
theorem dX9_status_9 : decode cX9_status 9 = .ok (.if_icmp .gt 13, 3) := by decide +kernel
theorem dX9_status_12 : decode cX9_status 12 = .ok (.aload_n 0, 1) := by decide +kernel
theorem dX9_status_13 : decode cX9_status 13 = .ok (.getfield 31, 3) := by decide +kernel
theorem dX9_status_16 : decode cX9_status 16 = .ok (.iload_n 1, 1) := by decide +kernel
theorem dX9_status_17 : decode cX9_status 17 = .ok (.bipush 10, 2) := by decide +kernel
theorem dX9_status_19 : decode cX9_status 19 = .ok (.isub, 1) := by decide +kernel
theorem dX9_status_20 : decode cX9_status 20 = .ok (.iaload, 1) := by decide +kernel
theorem dX9_status_21 : decode cX9_status 21 = .ok (.ireturn, 1) := by decide +kernel
theorem dX9_status_22 : decode cX9_status 22 = .ok (.iload_n 1, 1) := by decide +kernel
theorem dX9_status_23 : decode cX9_status 23 = .ok (.tableswitch 103 0 9 #[53, 58, 63, 68, 73, 78, 83, 88, 93, 98], 53) := by decide +kernel
theorem dX9_status_76 : decode cX9_status 76 = .ok (.aload_n 0, 1) := by decide +kernel
theorem dX9_status_77 : decode cX9_status 77 = .ok (.getfield 7, 3) := by decide +kernel
theorem dX9_status_80 : decode cX9_status 80 = .ok (.ireturn, 1) := by decide +kernel
theorem dX9_status_81 : decode cX9_status 81 = .ok (.aload_n 0, 1) := by decide +kernel
theorem dX9_status_82 : decode cX9_status 82 = .ok (.getfield 115, 3) := by decide +kernel
theorem dX9_status_85 : decode cX9_status 85 = .ok (.ireturn, 1) := by decide +kernel
theorem dX9_status_86 : decode cX9_status 86 = .ok (.aload_n 0, 1) := by decide +kernel
theorem dX9_status_87 : decode cX9_status 87 = .ok (.getfield 143, 3) := by decide +kernel
theorem dX9_status_90 : decode cX9_status 90 = .ok (.ireturn, 1) := by decide +kernel
theorem dX9_status_91 : decode cX9_status 91 = .ok (.aload_n 0, 1) := by decide +kernel
theorem dX9_status_92 : decode cX9_status 92 = .ok (.getfield 136, 3) := by decide +kernel
theorem dX9_status_95 : decode cX9_status 95 = .ok (.ireturn, 1) := by decide +kernel
theorem dX9_status_96 : decode cX9_status 96 = .ok (.aload_n 0, 1) := by decide +kernel
theorem dX9_status_97 : decode cX9_status 97 = .ok (.getfield 129, 3) := by decide +kernel
theorem dX9_status_100 : decode cX9_status 100 = .ok (.ireturn, 1) := by decide +kernel
theorem dX9_status_101 : decode cX9_status 101 = .ok (.aload_n 0, 1) := by decide +kernel
theorem dX9_status_102 : decode cX9_status 102 = .ok (.getfield 167, 3) := by decide +kernel
theorem dX9_status_105 : decode cX9_status 105 = .ok (.ireturn, 1) := by decide +kernel
theorem dX9_status_106 : decode cX9_status 106 = .ok (.aload_n 0, 1) := by decide +kernel
theorem dX9_status_107 : decode cX9_status 107 = .ok (.getfield 170, 3) := by decide +kernel
theorem dX9_status_110 : decode cX9_status 110 = .ok (.ireturn, 1) := by decide +kernel
theorem dX9_status_111 : decode cX9_status 111 = .ok (.aload_n 0, 1) := by decide +kernel
theorem dX9_status_112 : decode cX9_status 112 = .ok (.getfield 19, 3) := by decide +kernel
theorem dX9_status_115 : decode cX9_status 115 = .ok (.ireturn, 1) := by decide +kernel
theorem dX9_status_116 : decode cX9_status 116 = .ok (.aload_n 0, 1) := by decide +kernel
theorem dX9_status_117 : decode cX9_status 117 = .ok (.getfield 294, 3) := by decide +kernel
theorem dX9_status_120 : decode cX9_status 120 = .ok (.ireturn, 1) := by decide +kernel
theorem dX9_status_121 : decode cX9_status 121 = .ok (.aload_n 0, 1) := by decide +kernel
theorem dX9_status_122 : decode cX9_status 122 = .ok (.getfield 25, 3) := by decide +kernel
theorem dX9_status_125 : decode cX9_status 125 = .ok (.ireturn, 1) := by decide +kernel
theorem dX9_status_126 : decode cX9_status 126 = .ok (.iconst (-1), 1) := by decide +kernel
theorem dX9_status_127 : decode cX9_status 127 = .ok (.ireturn, 1) := by decide +kernel
