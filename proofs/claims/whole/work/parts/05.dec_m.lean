theorem dX12_init_0 : decode cX12_init 0 = .ok (.aload_n 0, 1) := by decide +kernel
theorem dX12_init_1 : decode cX12_init 1 = .ok (.invokespecial 1, 3) := by decide +kernel
theorem dX12_init_4 : decode cX12_init 4 = .ok (.aload_n 0, 1) := by decide +kernel
theorem dX12_init_5 : decode cX12_init 5 = .ok (.sipush 1600, 3) := by decide +kernel
theorem dX12_init_8 : decode cX12_init 8 = .ok (.newarray .int, 2) := by decide +kernel
theorem dX12_init_10 : decode cX12_init 10 = .ok (.putfield 7, 3) := by decide +kernel
theorem dX12_init_13 : decode cX12_init 13 = .ok (.aload_n 0, 1) := by decide +kernel
theorem dX12_init_14 : decode cX12_init 14 = .ok (.iconst (-1), 1) := by decide +kernel
theorem dX12_init_15 : decode cX12_init 15 = .ok (.putfield 13, 3) := by decide +kernel
theorem dX12_init_18 : decode cX12_init 18 = .ok (.aload_n 0, 1) := by decide +kernel
theorem dX12_init_19 : decode cX12_init 19 = .ok (.bipush 11, 2) := by decide +kernel
theorem dX12_init_21 : decode cX12_init 21 = .ok (.newarray .long, 2) := by decide +kernel
theorem dX12_init_23 : decode cX12_init 23 = .ok (.putfield 17, 3) := by decide +kernel
theorem dX12_init_26 : decode cX12_init 26 = .ok (.aload_n 0, 1) := by decide +kernel
theorem dX12_init_27 : decode cX12_init 27 = .ok (.sipush 640, 3) := by decide +kernel
theorem dX12_init_30 : decode cX12_init 30 = .ok (.newarray .int, 2) := by decide +kernel
theorem dX12_init_32 : decode cX12_init 32 = .ok (.putfield 21, 3) := by decide +kernel
theorem dX12_init_35 : decode cX12_init 35 = .ok (.aload_n 0, 1) := by decide +kernel
theorem dX12_init_36 : decode cX12_init 36 = .ok (.sipush 640, 3) := by decide +kernel
theorem dX12_init_39 : decode cX12_init 39 = .ok (.newarray .int, 2) := by decide +kernel
theorem dX12_init_41 : decode cX12_init 41 = .ok (.putfield 24, 3) := by decide +kernel
theorem dX12_init_44 : decode cX12_init 44 = .ok (.aload_n 0, 1) := by decide +kernel
theorem dX12_init_45 : decode cX12_init 45 = .ok (.iconst 2, 1) := by decide +kernel
theorem dX12_init_46 : decode cX12_init 46 = .ok (.newarray .int, 2) := by decide +kernel
theorem dX12_init_48 : decode cX12_init 48 = .ok (.putfield 27, 3) := by decide +kernel
theorem dX12_init_51 : decode cX12_init 51 = .ok (.aload_n 0, 1) := by decide +kernel
theorem dX12_init_52 : decode cX12_init 52 = .ok (.sipush 640, 3) := by decide +kernel
theorem dX12_init_55 : decode cX12_init 55 = .ok (.newarray .int, 2) := by decide +kernel
theorem dX12_init_57 : decode cX12_init 57 = .ok (.putfield 30, 3) := by decide +kernel
theorem dX12_init_60 : decode cX12_init 60 = .ok (.aload_n 0, 1) := by decide +kernel
theorem dX12_init_61 : decode cX12_init 61 = .ok (.sipush 640, 3) := by decide +kernel
theorem dX12_init_64 : decode cX12_init 64 = .ok (.newarray .int, 2) := by decide +kernel
theorem dX12_init_66 : decode cX12_init 66 = .ok (.putfield 33, 3) := by decide +kernel
theorem dX12_init_69 : decode cX12_init 69 = .ok (.aload_n 0, 1) := by decide +kernel
theorem dX12_init_70 : decode cX12_init 70 = .ok (.iconst 2, 1) := by decide +kernel
theorem dX12_init_71 : decode cX12_init 71 = .ok (.newarray .int, 2) := by decide +kernel
theorem dX12_init_73 : decode cX12_init 73 = .ok (.putfield 36, 3) := by decide +kernel
theorem dX12_init_76 : decode cX12_init 76 = .ok (.aload_n 0, 1) := by decide +kernel
theorem dX12_init_77 : decode cX12_init 77 = .ok (.sipush 160, 3) := by decide +kernel
theorem dX12_init_80 : decode cX12_init 80 = .ok (.newarray .int, 2) := by decide +kernel
theorem dX12_init_82 : decode cX12_init 82 = .ok (.putfield 39, 3) := by decide +kernel
theorem dX12_init_85 : decode cX12_init 85 = .ok (.aload_n 0, 1) := by decide +kernel
theorem dX12_init_86 : decode cX12_init 86 = .ok (.bipush 64, 2) := by decide +kernel
theorem dX12_init_88 : decode cX12_init 88 = .ok (.newarray .int, 2) := by decide +kernel
theorem dX12_init_90 : decode cX12_init 90 = .ok (.putfield 42, 3) := by decide +kernel
theorem dX12_init_93 : decode cX12_init 93 = .ok (.aload_n 0, 1) := by decide +kernel
theorem dX12_init_94 : decode cX12_init 94 = .ok (.iconst 2, 1) := by decide +kernel
theorem dX12_init_95 : decode cX12_init 95 = .ok (.newarray .boolean, 2) := by decide +kernel
theorem dX12_init_97 : decode cX12_init 97 = .ok (.putfield 45, 3) := by decide +kernel
theorem dX12_init_100 : decode cX12_init 100 = .ok (.aload_n 0, 1) := by decide +kernel
theorem dX12_init_101 : decode cX12_init 101 = .ok (.bipush 6, 2) := by decide +kernel
theorem dX12_init_103 : decode cX12_init 103 = .ok (.newarray .int, 2) := by decide +kernel
theorem dX12_init_105 : decode cX12_init 105 = .ok (.putfield 49, 3) := by decide +kernel
theorem dX12_init_108 : decode cX12_init 108 = .ok (.aload_n 0, 1) := by decide +kernel
theorem dX12_init_109 : decode cX12_init 109 = .ok (.bipush 6, 2) := by decide +kernel
theorem dX12_init_111 : decode cX12_init 111 = .ok (.newarray .int, 2) := by decide +kernel
theorem dX12_init_113 : decode cX12_init 113 = .ok (.putfield 52, 3) := by decide +kernel
theorem dX12_init_116 : decode cX12_init 116 = .ok (.aload_n 0, 1) := by decide +kernel
theorem dX12_init_117 : decode cX12_init 117 = .ok (.bipush 6, 2) := by decide +kernel
theorem dX12_init_119 : decode cX12_init 119 = .ok (.newarray .int, 2) := by decide +kernel
theorem dX12_init_121 : decode cX12_init 121 = .ok (.putfield 55, 3) := by decide +kernel
theorem dX12_init_124 : decode cX12_init 124 = .ok (.aload_n 0, 1) := by decide +kernel
theorem dX12_init_125 : decode cX12_init 125 = .ok (.bipush 6, 2) := by decide +kernel
theorem dX12_init_127 : decode cX12_init 127 = .ok (.newarray .int, 2) := by decide +kernel
theorem dX12_init_129 : decode cX12_init 129 = .ok (.putfield 58, 3) := by decide +kernel
theorem dX12_init_132 : decode cX12_init 132 = .ok (.aload_n 0, 1) := by decide +kernel
theorem dX12_init_133 : decode cX12_init 133 = .ok (.bipush 6, 2) := by decide +kernel
theorem dX12_init_135 : decode cX12_init 135 = .ok (.newarray .int, 2) := by decide +kernel
theorem dX12_init_137 : decode cX12_init 137 = .ok (.putfield 61, 3) := by decide +kernel
theorem dX12_init_140 : decode cX12_init 140 = .ok (.aload_n 0, 1) := by decide +kernel
theorem dX12_init_141 : decode cX12_init 141 = .ok (.iconst 5, 1) := by decide +kernel
theorem dX12_init_142 : decode cX12_init 142 = .ok (.newarray .int, 2) := by decide +kernel
theorem dX12_init_144 : decode cX12_init 144 = .ok (.putfield 64, 3) := by decide +kernel
theorem dX12_init_147 : decode cX12_init 147 = .ok (.aload_n 0, 1) := by decide +kernel
theorem dX12_init_148 : decode cX12_init 148 = .ok (.iconst 5, 1) := by decide +kernel
theorem dX12_init_149 : decode cX12_init 149 = .ok (.newarray .int, 2) := by decide +kernel
theorem dX12_init_151 : decode cX12_init 151 = .ok (.putfield 67, 3) := by decide +kernel
theorem dX12_init_154 : decode cX12_init 154 = .ok (.aload_n 0, 1) := by decide +kernel
theorem dX12_init_155 : decode cX12_init 155 = .ok (.iconst 5, 1) := by decide +kernel
theorem dX12_init_156 : decode cX12_init 156 = .ok (.newarray .int, 2) := by decide +kernel
theorem dX12_init_158 : decode cX12_init 158 = .ok (.putfield 70, 3) := by decide +kernel
theorem dX12_init_161 : decode cX12_init 161 = .ok (.aload_n 0, 1) := by decide +kernel
theorem dX12_init_162 : decode cX12_init 162 = .ok (.iconst 5, 1) := by decide +kernel
theorem dX12_init_163 : decode cX12_init 163 = .ok (.newarray .int, 2) := by decide +kernel
theorem dX12_init_165 : decode cX12_init 165 = .ok (.putfield 73, 3) := by decide +kernel
theorem dX12_init_168 : decode cX12_init 168 = .ok (.aload_n 0, 1) := by decide +kernel
theorem dX12_init_169 : decode cX12_init 169 = .ok (.bipush 6, 2) := by decide +kernel
theorem dX12_init_171 : decode cX12_init 171 = .ok (.newarray .int, 2) := by decide +kernel
theorem dX12_init_173 : decode cX12_init 173 = .ok (.putfield 76, 3) := by decide +kernel
theorem dX12_init_176 : decode cX12_init 176 = .ok (.aload_n 0, 1) := by decide +kernel
theorem dX12_init_177 : decode cX12_init 177 = .ok (.bipush 6, 2) := by decide +kernel
theorem dX12_init_179 : decode cX12_init 179 = .ok (.newarray .int, 2) := by decide +kernel
theorem dX12_init_181 : decode cX12_init 181 = .ok (.putfield 79, 3) := by decide +kernel
theorem dX12_init_184 : decode cX12_init 184 = .ok (.aload_n 0, 1) := by decide +kernel
theorem dX12_init_185 : decode cX12_init 185 = .ok (.bipush 6, 2) := by decide +kernel
theorem dX12_init_187 : decode cX12_init 187 = .ok (.newarray .int, 2) := by decide +kernel
theorem dX12_init_189 : decode cX12_init 189 = .ok (.putfield 82, 3) := by decide +kernel
theorem dX12_init_192 : decode cX12_init 192 = .ok (.aload_n 0, 1) := by decide +kernel
theorem dX12_init_193 : decode cX12_init 193 = .ok (.bipush 6, 2) := by decide +kernel
theorem dX12_init_195 : decode cX12_init 195 = .ok (.newarray .int, 2) := by decide +kernel
theorem dX12_init_197 : decode cX12_init 197 = .ok (.putfield 85, 3) := by decide +kernel
theorem dX12_init_200 : decode cX12_init 200 = .ok (.aload_n 0, 1) := by decide +kernel
theorem dX12_init_201 : decode cX12_init 201 = .ok (.iconst 5, 1) := by decide +kernel
theorem dX12_init_202 : decode cX12_init 202 = .ok (.newarray .int, 2) := by decide +kernel
theorem dX12_init_204 : decode cX12_init 204 = .ok (.putfield 88, 3) := by decide +kernel
theorem dX12_init_207 : decode cX12_init 207 = .ok (.aload_n 0, 1) := by decide +kernel
theorem dX12_init_208 : decode cX12_init 208 = .ok (.iconst 5, 1) := by decide +kernel
theorem dX12_init_209 : decode cX12_init 209 = .ok (.newarray .int, 2) := by decide +kernel
theorem dX12_init_211 : decode cX12_init 211 = .ok (.putfield 91, 3) := by decide +kernel
theorem dX12_init_214 : decode cX12_init 214 = .ok (.aload_n 0, 1) := by decide +kernel
theorem dX12_init_215 : decode cX12_init 215 = .ok (.iconst 5, 1) := by decide +kernel
theorem dX12_init_216 : decode cX12_init 216 = .ok (.newarray .int, 2) := by decide +kernel
theorem dX12_init_218 : decode cX12_init 218 = .ok (.putfield 94, 3) := by decide +kernel
theorem dX12_init_221 : decode cX12_init 221 = .ok (.aload_n 0, 1) := by decide +kernel
theorem dX12_init_222 : decode cX12_init 222 = .ok (.iconst 5, 1) := by decide +kernel
theorem dX12_init_223 : decode cX12_init 223 = .ok (.newarray .int, 2) := by decide +kernel
theorem dX12_init_225 : decode cX12_init 225 = .ok (.putfield 97, 3) := by decide +kernel
theorem dX12_init_228 : decode cX12_init 228 = .ok (.aload_n 0, 1) := by decide +kernel
theorem dX12_init_229 : decode cX12_init 229 = .ok (.bipush 7, 2) := by decide +kernel
theorem dX12_init_231 : decode cX12_init 231 = .ok (.putfield 100, 3) := by decide +kernel
theorem dX12_init_234 : decode cX12_init 234 = .ok (.aload_n 0, 1) := by decide +kernel
theorem dX12_init_235 : decode cX12_init 235 = .ok (.bipush 22, 2) := by decide +kernel
theorem dX12_init_237 : decode cX12_init 237 = .ok (.newarray .int, 2) := by decide +kernel
theorem dX12_init_239 : decode cX12_init 239 = .ok (.putfield 103, 3) := by decide +kernel
theorem dX12_init_242 : decode cX12_init 242 = .ok (.aload_n 0, 1) := by decide +kernel
theorem dX12_init_243 : decode cX12_init 243 = .ok (.bipush 22, 2) := by decide +kernel
theorem dX12_init_245 : decode cX12_init 245 = .ok (.newarray .int, 2) := by decide +kernel
theorem dX12_init_247 : decode cX12_init 247 = .ok (.putfield 106, 3) := by decide +kernel
theorem dX12_init_250 : decode cX12_init 250 = .ok (.aload_n 0, 1) := by decide +kernel
theorem dX12_init_251 : decode cX12_init 251 = .ok (.iconst 5, 1) := by decide +kernel
theorem dX12_init_252 : decode cX12_init 252 = .ok (.newarray .int, 2) := by decide +kernel
theorem dX12_init_254 : decode cX12_init 254 = .ok (.putfield 109, 3) := by decide +kernel
theorem dX12_init_257 : decode cX12_init 257 = .ok (.aload_n 0, 1) := by decide +kernel
theorem dX12_init_258 : decode cX12_init 258 = .ok (.iconst 5, 1) := by decide +kernel
theorem dX12_init_259 : decode cX12_init 259 = .ok (.newarray .int, 2) := by decide +kernel
theorem dX12_init_261 : decode cX12_init 261 = .ok (.putfield 112, 3) := by decide +kernel
theorem dX12_init_264 : decode cX12_init 264 = .ok (.aload_n 0, 1) := by decide +kernel
theorem dX12_init_265 : decode cX12_init 265 = .ok (.iconst 5, 1) := by decide +kernel
theorem dX12_init_266 : decode cX12_init 266 = .ok (.newarray .int, 2) := by decide +kernel
theorem dX12_init_268 : decode cX12_init 268 = .ok (.putfield 115, 3) := by decide +kernel
theorem dX12_init_271 : decode cX12_init 271 = .ok (.aload_n 0, 1) := by decide +kernel
theorem dX12_init_272 : decode cX12_init 272 = .ok (.sipush 880, 3) := by decide +kernel
theorem dX12_init_275 : decode cX12_init 275 = .ok (.newarray .int, 2) := by decide +kernel
theorem dX12_init_277 : decode cX12_init 277 = .ok (.putfield 118, 3) := by decide +kernel
theorem dX12_init_280 : decode cX12_init 280 = .ok (.aload_n 0, 1) := by decide +kernel
theorem dX12_init_281 : decode cX12_init 281 = .ok (.iconst 5, 1) := by decide +kernel
theorem dX12_init_282 : decode cX12_init 282 = .ok (.newarray .int, 2) := by decide +kernel
theorem dX12_init_284 : decode cX12_init 284 = .ok (.putfield 121, 3) := by decide +kernel
theorem dX12_init_287 : decode cX12_init 287 = .ok (.aload_n 0, 1) := by decide +kernel
theorem dX12_init_288 : decode cX12_init 288 = .ok (.bipush 36, 2) := by decide +kernel
theorem dX12_init_290 : decode cX12_init 290 = .ok (.newarray .int, 2) := by decide +kernel
theorem dX12_init_292 : decode cX12_init 292 = .ok (.putfield 124, 3) := by decide +kernel
theorem dX12_init_295 : decode cX12_init 295 = .ok (.aload_n 0, 1) := by decide +kernel
theorem dX12_init_296 : decode cX12_init 296 = .ok (.iconst 5, 1) := by decide +kernel
theorem dX12_init_297 : decode cX12_init 297 = .ok (.newarray .int, 2) := by decide +kernel
theorem dX12_init_299 : decode cX12_init 299 = .ok (.putfield 127, 3) := by decide +kernel
theorem dX12_init_302 : decode cX12_init 302 = .ok (.aload_n 0, 1) := by decide +kernel
theorem dX12_init_303 : decode cX12_init 303 = .ok (.bipush 30, 2) := by decide +kernel
theorem dX12_init_305 : decode cX12_init 305 = .ok (.newarray .int, 2) := by decide +kernel
theorem dX12_init_307 : decode cX12_init 307 = .ok (.putfield 130, 3) := by decide +kernel
theorem dX12_init_310 : decode cX12_init 310 = .ok (.aload_n 0, 1) := by decide +kernel
theorem dX12_init_311 : decode cX12_init 311 = .ok (.bipush 30, 2) := by decide +kernel
theorem dX12_init_313 : decode cX12_init 313 = .ok (.newarray .int, 2) := by decide +kernel
theorem dX12_init_315 : decode cX12_init 315 = .ok (.putfield 133, 3) := by decide +kernel
theorem dX12_init_318 : decode cX12_init 318 = .ok (.aload_n 0, 1) := by decide +kernel
theorem dX12_init_319 : decode cX12_init 319 = .ok (.bipush 30, 2) := by decide +kernel
theorem dX12_init_321 : decode cX12_init 321 = .ok (.newarray .int, 2) := by decide +kernel
theorem dX12_init_323 : decode cX12_init 323 = .ok (.putfield 136, 3) := by decide +kernel
theorem dX12_init_326 : decode cX12_init 326 = .ok (.aload_n 0, 1) := by decide +kernel
theorem dX12_init_327 : decode cX12_init 327 = .ok (.bipush 30, 2) := by decide +kernel
theorem dX12_init_329 : decode cX12_init 329 = .ok (.newarray .int, 2) := by decide +kernel
theorem dX12_init_331 : decode cX12_init 331 = .ok (.putfield 139, 3) := by decide +kernel
theorem dX12_init_334 : decode cX12_init 334 = .ok (.aload_n 0, 1) := by decide +kernel
theorem dX12_init_335 : decode cX12_init 335 = .ok (.bipush 30, 2) := by decide +kernel
theorem dX12_init_337 : decode cX12_init 337 = .ok (.newarray .int, 2) := by decide +kernel
theorem dX12_init_339 : decode cX12_init 339 = .ok (.putfield 142, 3) := by decide +kernel
theorem dX12_init_342 : decode cX12_init 342 = .ok (.aload_n 0, 1) := by decide +kernel
theorem dX12_init_343 : decode cX12_init 343 = .ok (.bipush 30, 2) := by decide +kernel
theorem dX12_init_345 : decode cX12_init 345 = .ok (.newarray .boolean, 2) := by decide +kernel
theorem dX12_init_347 : decode cX12_init 347 = .ok (.putfield 145, 3) := by decide +kernel
theorem dX12_init_350 : decode cX12_init 350 = .ok (.aload_n 0, 1) := by decide +kernel
theorem dX12_init_351 : decode cX12_init 351 = .ok (.iconst 3, 1) := by decide +kernel
theorem dX12_init_352 : decode cX12_init 352 = .ok (.newarray .int, 2) := by decide +kernel
theorem dX12_init_354 : decode cX12_init 354 = .ok (.putfield 148, 3) := by decide +kernel
theorem dX12_init_357 : decode cX12_init 357 = .ok (.aload_n 0, 1) := by decide +kernel
theorem dX12_init_358 : decode cX12_init 358 = .ok (.iconst 3, 1) := by decide +kernel
theorem dX12_init_359 : decode cX12_init 359 = .ok (.newarray .int, 2) := by decide +kernel
theorem dX12_init_361 : decode cX12_init 361 = .ok (.putfield 151, 3) := by decide +kernel
theorem dX12_init_364 : decode cX12_init 364 = .ok (.aload_n 0, 1) := by decide +kernel
theorem dX12_init_365 : decode cX12_init 365 = .ok (.iconst 3, 1) := by decide +kernel
theorem dX12_init_366 : decode cX12_init 366 = .ok (.newarray .int, 2) := by decide +kernel
theorem dX12_init_368 : decode cX12_init 368 = .ok (.putfield 154, 3) := by decide +kernel
theorem dX12_init_371 : decode cX12_init 371 = .ok (.aload_n 0, 1) := by decide +kernel
theorem dX12_init_372 : decode cX12_init 372 = .ok (.bipush 21, 2) := by decide +kernel
theorem dX12_init_374 : decode cX12_init 374 = .ok (.newarray .int, 2) := by decide +kernel
theorem dX12_init_376 : decode cX12_init 376 = .ok (.putfield 157, 3) := by decide +kernel
theorem dX12_init_379 : decode cX12_init 379 = .ok (.aload_n 0, 1) := by decide +kernel
theorem dX12_init_380 : decode cX12_init 380 = .ok (.iconst 3, 1) := by decide +kernel
theorem dX12_init_381 : decode cX12_init 381 = .ok (.newarray .boolean, 2) := by decide +kernel
theorem dX12_init_383 : decode cX12_init 383 = .ok (.putfield 160, 3) := by decide +kernel
theorem dX12_init_386 : decode cX12_init 386 = .ok (.aload_n 0, 1) := by decide +kernel
theorem dX12_init_387 : decode cX12_init 387 = .ok (.bipush 66, 2) := by decide +kernel
theorem dX12_init_389 : decode cX12_init 389 = .ok (.newarray .int, 2) := by decide +kernel
theorem dX12_init_391 : decode cX12_init 391 = .ok (.putfield 163, 3) := by decide +kernel
theorem dX12_init_394 : decode cX12_init 394 = .ok (.return_, 1) := by decide +kernel
theorem dX12_feed_0 : decode cX12_feed 0 = .ok (.aload_n 0, 1) := by decide +kernel
theorem dX12_feed_1 : decode cX12_feed 1 = .ok (.getfield 166, 3) := by decide +kernel
theorem dX12_feed_4 : decode cX12_feed 4 = .ok (.bipush 20, 2) := by decide +kernel
theorem dX12_feed_6 : decode cX12_feed 6 = .ok (.iadd, 1) := by decide +kernel
theorem dX12_feed_7 : decode cX12_feed 7 = .ok (.sipush 1600, 3) := by decide +kernel
theorem dX12_feed_10 : decode cX12_feed 10 = .ok (.if_icmp .le 5, 3) := by decide +kernel
theorem dX12_feed_13 : decode cX12_feed 13 = .ok (.iconst (-1), 1) := by decide +kernel
theorem dX12_feed_14 : decode cX12_feed 14 = .ok (.ireturn, 1) := by decide +kernel
theorem dX12_feed_15 : decode cX12_feed 15 = .ok (.aload_n 0, 1) := by decide +kernel
theorem dX12_feed_16 : decode cX12_feed 16 = .ok (.iload_n 1, 1) := by decide +kernel
theorem dX12_feed_17 : decode cX12_feed 17 = .ok (.invokevirtual 169, 3) := by decide +kernel
theorem dX12_feed_20 : decode cX12_feed 20 = .ok (.aload_n 0, 1) := by decide +kernel
theorem dX12_feed_21 : decode cX12_feed 21 = .ok (.iload_n 2, 1) := by decide +kernel
theorem dX12_feed_22 : decode cX12_feed 22 = .ok (.invokevirtual 169, 3) := by decide +kernel
theorem dX12_feed_25 : decode cX12_feed 25 = .ok (.aload_n 0, 1) := by decide +kernel
theorem dX12_feed_26 : decode cX12_feed 26 = .ok (.iload_n 3, 1) := by decide +kernel
theorem dX12_feed_27 : decode cX12_feed 27 = .ok (.invokevirtual 169, 3) := by decide +kernel
theorem dX12_feed_30 : decode cX12_feed 30 = .ok (.aload_n 0, 1) := by decide +kernel
theorem dX12_feed_31 : decode cX12_feed 31 = .ok (.iload 4, 2) := by decide +kernel
theorem dX12_feed_33 : decode cX12_feed 33 = .ok (.invokevirtual 169, 3) := by decide +kernel
theorem dX12_feed_36 : decode cX12_feed 36 = .ok (.aload_n 0, 1) := by decide +kernel
theorem dX12_feed_37 : decode cX12_feed 37 = .ok (.iload 5, 2) := by decide +kernel
theorem dX12_feed_39 : decode cX12_feed 39 = .ok (.invokevirtual 169, 3) := by decide +kernel
theorem dX12_feed_42 : decode cX12_feed 42 = .ok (.aload_n 0, 1) := by decide +kernel
theorem dX12_feed_43 : decode cX12_feed 43 = .ok (.getfield 166, 3) := by decide +kernel
theorem dX12_feed_46 : decode cX12_feed 46 = .ok (.ireturn, 1) := by decide +kernel
theorem dX12_four_0 : decode cX12_four 0 = .ok (.bipush 24, 2) := by decide +kernel
theorem dX12_four_2 : decode cX12_four 2 = .ok (.istore_n 2, 1) := by decide +kernel
theorem dX12_four_3 : decode cX12_four 3 = .ok (.iload_n 2, 1) := by decide +kernel
theorem dX12_four_4 : decode cX12_four 4 = .ok (.ifCond .lt 35, 3) := by decide +kernel
theorem dX12_four_7 : decode cX12_four 7 = .ok (.aload_n 0, 1) := by decide +kernel
theorem dX12_four_8 : decode cX12_four 8 = .ok (.getfield 7, 3) := by decide +kernel
theorem dX12_four_11 : decode cX12_four 11 = .ok (.aload_n 0, 1) := by decide +kernel
theorem dX12_four_12 : decode cX12_four 12 = .ok (.getfield 166, 3) := by decide +kernel
theorem dX12_four_15 : decode cX12_four 15 = .ok (.iload_n 1, 1) := by decide +kernel
theorem dX12_four_16 : decode cX12_four 16 = .ok (.iload_n 2, 1) := by decide +kernel
theorem dX12_four_17 : decode cX12_four 17 = .ok (.ishr, 1) := by decide +kernel
theorem dX12_four_18 : decode cX12_four 18 = .ok (.sipush 255, 3) := by decide +kernel
theorem dX12_four_21 : decode cX12_four 21 = .ok (.iand, 1) := by decide +kernel
theorem dX12_four_22 : decode cX12_four 22 = .ok (.iastore, 1) := by decide +kernel
theorem dX12_four_23 : decode cX12_four 23 = .ok (.aload_n 0, 1) := by decide +kernel
theorem dX12_four_24 : decode cX12_four 24 = .ok (.dup, 1) := by decide +kernel
theorem dX12_four_25 : decode cX12_four 25 = .ok (.getfield 166, 3) := by decide +kernel
theorem dX12_four_28 : decode cX12_four 28 = .ok (.iconst 1, 1) := by decide +kernel
theorem dX12_four_29 : decode cX12_four 29 = .ok (.iadd, 1) := by decide +kernel
theorem dX12_four_30 : decode cX12_four 30 = .ok (.putfield 166, 3) := by decide +kernel
theorem dX12_four_33 : decode cX12_four 33 = .ok (.iinc 2 (-8), 3) := by decide +kernel
theorem dX12_four_36 : decode cX12_four 36 = .ok (.goto (-33), 3) := by decide +kernel
theorem dX12_four_39 : decode cX12_four 39 = .ok (.return_, 1) := by decide +kernel
theorem dX12_end_0 : decode cX12_end 0 = .ok (.iload_n 1, 1) := by decide +kernel
theorem dX12_end_1 : decode cX12_end 1 = .ok (.ifCond .lt 11, 3) := by decide +kernel
theorem dX12_end_4 : decode cX12_end 4 = .ok (.iload_n 1, 1) := by decide +kernel
theorem dX12_end_5 : decode cX12_end 5 = .ok (.aload_n 0, 1) := by decide +kernel
theorem dX12_end_6 : decode cX12_end 6 = .ok (.getfield 166, 3) := by decide +kernel
theorem dX12_end_9 : decode cX12_end 9 = .ok (.if_icmp .le 5, 3) := by decide +kernel
theorem dX12_end_12 : decode cX12_end 12 = .ok (.iconst (-1), 1) := by decide +kernel
theorem dX12_end_13 : decode cX12_end 13 = .ok (.ireturn, 1) := by decide +kernel
theorem dX12_end_14 : decode cX12_end 14 = .ok (.aload_n 0, 1) := by decide +kernel
theorem dX12_end_15 : decode cX12_end 15 = .ok (.iload_n 1, 1) := by decide +kernel
theorem dX12_end_16 : decode cX12_end 16 = .ok (.putfield 166, 3) := by decide +kernel
theorem dX12_end_19 : decode cX12_end 19 = .ok (.iload_n 1, 1) := by decide +kernel
theorem dX12_end_20 : decode cX12_end 20 = .ok (.ireturn, 1) := by decide +kernel
theorem dX12_here_0 : decode cX12_here 0 = .ok (.aload_n 0, 1) := by decide +kernel
theorem dX12_here_1 : decode cX12_here 1 = .ok (.getfield 173, 3) := by decide +kernel
theorem dX12_here_4 : decode cX12_here 4 = .ok (.iload_n 1, 1) := by decide +kernel
theorem dX12_here_5 : decode cX12_here 5 = .ok (.iadd, 1) := by decide +kernel
theorem dX12_here_6 : decode cX12_here 6 = .ok (.aload_n 0, 1) := by decide +kernel
theorem dX12_here_7 : decode cX12_here 7 = .ok (.getfield 176, 3) := by decide +kernel
theorem dX12_here_10 : decode cX12_here 10 = .ok (.if_icmp .ge 17, 3) := by decide +kernel
theorem dX12_here_13 : decode cX12_here 13 = .ok (.aload_n 0, 1) := by decide +kernel
theorem dX12_here_14 : decode cX12_here 14 = .ok (.getfield 7, 3) := by decide +kernel
theorem dX12_here_17 : decode cX12_here 17 = .ok (.aload_n 0, 1) := by decide +kernel
theorem dX12_here_18 : decode cX12_here 18 = .ok (.getfield 173, 3) := by decide +kernel
theorem dX12_here_21 : decode cX12_here 21 = .ok (.iload_n 1, 1) := by decide +kernel
theorem dX12_here_22 : decode cX12_here 22 = .ok (.iadd, 1) := by decide +kernel
theorem dX12_here_23 : decode cX12_here 23 = .ok (.iaload, 1) := by decide +kernel
theorem dX12_here_24 : decode cX12_here 24 = .ok (.goto 4, 3) := by decide +kernel
theorem dX12_here_27 : decode cX12_here 27 = .ok (.iconst (-1), 1) := by decide +kernel
theorem dX12_here_28 : decode cX12_here 28 = .ok (.ireturn, 1) := by decide +kernel
theorem dX12_isLetter_0 : decode cX12_isLetter 0 = .ok (.iload_n 0, 1) := by decide +kernel
theorem dX12_isLetter_1 : decode cX12_isLetter 1 = .ok (.bipush 97, 2) := by decide +kernel
theorem dX12_isLetter_3 : decode cX12_isLetter 3 = .ok (.if_icmp .lt 13, 3) := by decide +kernel
theorem dX12_isLetter_6 : decode cX12_isLetter 6 = .ok (.iload_n 0, 1) := by decide +kernel
theorem dX12_isLetter_7 : decode cX12_isLetter 7 = .ok (.bipush 122, 2) := by decide +kernel
theorem dX12_isLetter_9 : decode cX12_isLetter 9 = .ok (.if_icmp .gt 7, 3) := by decide +kernel
theorem dX12_isLetter_12 : decode cX12_isLetter 12 = .ok (.iconst 1, 1) := by decide +kernel
theorem dX12_isLetter_13 : decode cX12_isLetter 13 = .ok (.goto 4, 3) := by decide +kernel
theorem dX12_isLetter_16 : decode cX12_isLetter 16 = .ok (.iconst 0, 1) := by decide +kernel
theorem dX12_isLetter_17 : decode cX12_isLetter 17 = .ok (.ireturn, 1) := by decide +kernel
theorem dX12_isDigit_0 : decode cX12_isDigit 0 = .ok (.iload_n 0, 1) := by decide +kernel
theorem dX12_isDigit_1 : decode cX12_isDigit 1 = .ok (.bipush 48, 2) := by decide +kernel
theorem dX12_isDigit_3 : decode cX12_isDigit 3 = .ok (.if_icmp .lt 13, 3) := by decide +kernel
theorem dX12_isDigit_6 : decode cX12_isDigit 6 = .ok (.iload_n 0, 1) := by decide +kernel
theorem dX12_isDigit_7 : decode cX12_isDigit 7 = .ok (.bipush 57, 2) := by decide +kernel
theorem dX12_isDigit_9 : decode cX12_isDigit 9 = .ok (.if_icmp .gt 7, 3) := by decide +kernel
theorem dX12_isDigit_12 : decode cX12_isDigit 12 = .ok (.iconst 1, 1) := by decide +kernel
theorem dX12_isDigit_13 : decode cX12_isDigit 13 = .ok (.goto 4, 3) := by decide +kernel
theorem dX12_isDigit_16 : decode cX12_isDigit 16 = .ok (.iconst 0, 1) := by decide +kernel
theorem dX12_isDigit_17 : decode cX12_isDigit 17 = .ok (.ireturn, 1) := by decide +kernel
theorem dX12_isSign_0 : decode cX12_isSign 0 = .ok (.iload_n 0, 1) := by decide +kernel
theorem dX12_isSign_1 : decode cX12_isSign 1 = .ok (.bipush 59, 2) := by decide +kernel
theorem dX12_isSign_3 : decode cX12_isSign 3 = .ok (.if_icmp .eq 63, 3) := by decide +kernel
theorem dX12_isSign_6 : decode cX12_isSign 6 = .ok (.iload_n 0, 1) := by decide +kernel
theorem dX12_isSign_7 : decode cX12_isSign 7 = .ok (.bipush 40, 2) := by decide +kernel
theorem dX12_isSign_9 : decode cX12_isSign 9 = .ok (.if_icmp .eq 57, 3) := by decide +kernel
theorem dX12_isSign_12 : decode cX12_isSign 12 = .ok (.iload_n 0, 1) := by decide +kernel
theorem dX12_isSign_13 : decode cX12_isSign 13 = .ok (.bipush 41, 2) := by decide +kernel
theorem dX12_isSign_15 : decode cX12_isSign 15 = .ok (.if_icmp .eq 51, 3) := by decide +kernel
theorem dX12_isSign_18 : decode cX12_isSign 18 = .ok (.iload_n 0, 1) := by decide +kernel
theorem dX12_isSign_19 : decode cX12_isSign 19 = .ok (.bipush 60, 2) := by decide +kernel
theorem dX12_isSign_21 : decode cX12_isSign 21 = .ok (.if_icmp .eq 45, 3) := by decide +kernel
theorem dX12_isSign_24 : decode cX12_isSign 24 = .ok (.iload_n 0, 1) := by decide +kernel
theorem dX12_isSign_25 : decode cX12_isSign 25 = .ok (.bipush 62, 2) := by decide +kernel
theorem dX12_isSign_27 : decode cX12_isSign 27 = .ok (.if_icmp .eq 39, 3) := by decide +kernel
theorem dX12_isSign_30 : decode cX12_isSign 30 = .ok (.iload_n 0, 1) := by decide +kernel
theorem dX12_isSign_31 : decode cX12_isSign 31 = .ok (.bipush 61, 2) := by decide +kernel
theorem dX12_isSign_33 : decode cX12_isSign 33 = .ok (.if_icmp .eq 33, 3) := by decide +kernel
theorem dX12_isSign_36 : decode cX12_isSign 36 = .ok (.iload_n 0, 1) := by decide +kernel
theorem dX12_isSign_37 : decode cX12_isSign 37 = .ok (.bipush 43, 2) := by decide +kernel
theorem dX12_isSign_39 : decode cX12_isSign 39 = .ok (.if_icmp .eq 27, 3) := by decide +kernel
theorem dX12_isSign_42 : decode cX12_isSign 42 = .ok (.iload_n 0, 1) := by decide +kernel
theorem dX12_isSign_43 : decode cX12_isSign 43 = .ok (.bipush 45, 2) := by decide +kernel
theorem dX12_isSign_45 : decode cX12_isSign 45 = .ok (.if_icmp .eq 21, 3) := by decide +kernel
theorem dX12_isSign_48 : decode cX12_isSign 48 = .ok (.iload_n 0, 1) := by decide +kernel
theorem dX12_isSign_49 : decode cX12_isSign 49 = .ok (.bipush 42, 2) := by decide +kernel
theorem dX12_isSign_51 : decode cX12_isSign 51 = .ok (.if_icmp .eq 15, 3) := by decide +kernel
theorem dX12_isSign_54 : decode cX12_isSign 54 = .ok (.iload_n 0, 1) := by decide +kernel
theorem dX12_isSign_55 : decode cX12_isSign 55 = .ok (.bipush 47, 2) := by decide +kernel
theorem dX12_isSign_57 : decode cX12_isSign 57 = .ok (.if_icmp .eq 9, 3) := by decide +kernel
theorem dX12_isSign_60 : decode cX12_isSign 60 = .ok (.iload_n 0, 1) := by decide +kernel
theorem dX12_isSign_61 : decode cX12_isSign 61 = .ok (.bipush 37, 2) := by decide +kernel
theorem dX12_isSign_63 : decode cX12_isSign 63 = .ok (.if_icmp .ne 7, 3) := by decide +kernel
theorem dX12_isSign_66 : decode cX12_isSign 66 = .ok (.iconst 1, 1) := by decide +kernel
theorem dX12_isSign_67 : decode cX12_isSign 67 = .ok (.goto 4, 3) := by decide +kernel
theorem dX12_isSign_70 : decode cX12_isSign 70 = .ok (.iconst 0, 1) := by decide +kernel
theorem dX12_isSign_71 : decode cX12_isSign 71 = .ok (.ireturn, 1) := by decide +kernel
theorem dX12_token_0 : decode cX12_token 0 = .ok (.aload_n 0, 1) := by decide +kernel
theorem dX12_token_1 : decode cX12_token 1 = .ok (.iconst 0, 1) := by decide +kernel
theorem dX12_token_2 : decode cX12_token 2 = .ok (.invokevirtual 179, 3) := by decide +kernel
theorem dX12_token_5 : decode cX12_token 5 = .ok (.bipush 32, 2) := by decide +kernel
theorem dX12_token_7 : decode cX12_token 7 = .ok (.if_icmp .eq 13, 3) := by decide +kernel
theorem dX12_token_10 : decode cX12_token 10 = .ok (.aload_n 0, 1) := by decide +kernel
theorem dX12_token_11 : decode cX12_token 11 = .ok (.iconst 0, 1) := by decide +kernel
theorem dX12_token_12 : decode cX12_token 12 = .ok (.invokevirtual 179, 3) := by decide +kernel
theorem dX12_token_15 : decode cX12_token 15 = .ok (.bipush 10, 2) := by decide +kernel
theorem dX12_token_17 : decode cX12_token 17 = .ok (.if_icmp .ne 16, 3) := by decide +kernel
theorem dX12_token_20 : decode cX12_token 20 = .ok (.aload_n 0, 1) := by decide +kernel
theorem dX12_token_21 : decode cX12_token 21 = .ok (.dup, 1) := by decide +kernel
theorem dX12_token_22 : decode cX12_token 22 = .ok (.getfield 173, 3) := by decide +kernel
theorem dX12_token_25 : decode cX12_token 25 = .ok (.iconst 1, 1) := by decide +kernel
theorem dX12_token_26 : decode cX12_token 26 = .ok (.iadd, 1) := by decide +kernel
theorem dX12_token_27 : decode cX12_token 27 = .ok (.putfield 173, 3) := by decide +kernel
theorem dX12_token_30 : decode cX12_token 30 = .ok (.goto (-30), 3) := by decide +kernel
theorem dX12_token_33 : decode cX12_token 33 = .ok (.aload_n 0, 1) := by decide +kernel
theorem dX12_token_34 : decode cX12_token 34 = .ok (.aload_n 0, 1) := by decide +kernel
theorem dX12_token_35 : decode cX12_token 35 = .ok (.getfield 173, 3) := by decide +kernel
theorem dX12_token_38 : decode cX12_token 38 = .ok (.putfield 183, 3) := by decide +kernel
theorem dX12_token_41 : decode cX12_token 41 = .ok (.aload_n 0, 1) := by decide +kernel
theorem dX12_token_42 : decode cX12_token 42 = .ok (.iconst 0, 1) := by decide +kernel
theorem dX12_token_43 : decode cX12_token 43 = .ok (.invokevirtual 179, 3) := by decide +kernel
theorem dX12_token_46 : decode cX12_token 46 = .ok (.istore_n 1, 1) := by decide +kernel
theorem dX12_token_47 : decode cX12_token 47 = .ok (.iconst 0, 1) := by decide +kernel
theorem dX12_token_48 : decode cX12_token 48 = .ok (.istore_n 2, 1) := by decide +kernel
theorem dX12_token_49 : decode cX12_token 49 = .ok (.aload_n 0, 1) := by decide +kernel
theorem dX12_token_50 : decode cX12_token 50 = .ok (.lconst 0, 1) := by decide +kernel
theorem dX12_token_51 : decode cX12_token 51 = .ok (.putfield 186, 3) := by decide +kernel
theorem dX12_token_54 : decode cX12_token 54 = .ok (.aload_n 0, 1) := by decide +kernel
theorem dX12_token_55 : decode cX12_token 55 = .ok (.iconst 0, 1) := by decide +kernel
theorem dX12_token_56 : decode cX12_token 56 = .ok (.putfield 190, 3) := by decide +kernel
theorem dX12_token_59 : decode cX12_token 59 = .ok (.iload_n 1, 1) := by decide +kernel
theorem dX12_token_60 : decode cX12_token 60 = .ok (.ifCond .ge 11, 3) := by decide +kernel
theorem dX12_token_63 : decode cX12_token 63 = .ok (.aload_n 0, 1) := by decide +kernel
theorem dX12_token_64 : decode cX12_token 64 = .ok (.iconst 0, 1) := by decide +kernel
theorem dX12_token_65 : decode cX12_token 65 = .ok (.putfield 193, 3) := by decide +kernel
theorem dX12_token_68 : decode cX12_token 68 = .ok (.goto 164, 3) := by decide +kernel
theorem dX12_token_71 : decode cX12_token 71 = .ok (.iload_n 1, 1) := by decide +kernel
theorem dX12_token_72 : decode cX12_token 72 = .ok (.invokestatic 196, 3) := by decide +kernel
theorem dX12_token_75 : decode cX12_token 75 = .ok (.ifCond .eq 62, 3) := by decide +kernel
theorem dX12_token_78 : decode cX12_token 78 = .ok (.aload_n 0, 1) := by decide +kernel
theorem dX12_token_79 : decode cX12_token 79 = .ok (.iload_n 2, 1) := by decide +kernel
theorem dX12_token_80 : decode cX12_token 80 = .ok (.invokevirtual 179, 3) := by decide +kernel
theorem dX12_token_83 : decode cX12_token 83 = .ok (.invokestatic 196, 3) := by decide +kernel
theorem dX12_token_86 : decode cX12_token 86 = .ok (.ifCond .eq 33, 3) := by decide +kernel
theorem dX12_token_89 : decode cX12_token 89 = .ok (.iload_n 2, 1) := by decide +kernel
theorem dX12_token_90 : decode cX12_token 90 = .ok (.bipush 8, 2) := by decide +kernel
theorem dX12_token_92 : decode cX12_token 92 = .ok (.if_icmp .ge 21, 3) := by decide +kernel
theorem dX12_token_95 : decode cX12_token 95 = .ok (.aload_n 0, 1) := by decide +kernel
theorem dX12_token_96 : decode cX12_token 96 = .ok (.aload_n 0, 1) := by decide +kernel
theorem dX12_token_97 : decode cX12_token 97 = .ok (.getfield 186, 3) := by decide +kernel
theorem dX12_token_100 : decode cX12_token 100 = .ok (.bipush 8, 2) := by decide +kernel
theorem dX12_token_102 : decode cX12_token 102 = .ok (.lshl, 1) := by decide +kernel
theorem dX12_token_103 : decode cX12_token 103 = .ok (.aload_n 0, 1) := by decide +kernel
theorem dX12_token_104 : decode cX12_token 104 = .ok (.iload_n 2, 1) := by decide +kernel
theorem dX12_token_105 : decode cX12_token 105 = .ok (.invokevirtual 179, 3) := by decide +kernel
theorem dX12_token_108 : decode cX12_token 108 = .ok (.i2l, 1) := by decide +kernel
theorem dX12_token_109 : decode cX12_token 109 = .ok (.lor, 1) := by decide +kernel
theorem dX12_token_110 : decode cX12_token 110 = .ok (.putfield 186, 3) := by decide +kernel
theorem dX12_token_113 : decode cX12_token 113 = .ok (.iinc 2 1, 3) := by decide +kernel
theorem dX12_token_116 : decode cX12_token 116 = .ok (.goto (-38), 3) := by decide +kernel
theorem dX12_token_119 : decode cX12_token 119 = .ok (.aload_n 0, 1) := by decide +kernel
theorem dX12_token_120 : decode cX12_token 120 = .ok (.iload_n 2, 1) := by decide +kernel
theorem dX12_token_121 : decode cX12_token 121 = .ok (.bipush 8, 2) := by decide +kernel
theorem dX12_token_123 : decode cX12_token 123 = .ok (.if_icmp .le 7, 3) := by decide +kernel
theorem dX12_token_126 : decode cX12_token 126 = .ok (.iconst 3, 1) := by decide +kernel
theorem dX12_token_127 : decode cX12_token 127 = .ok (.goto 4, 3) := by decide +kernel
theorem dX12_token_130 : decode cX12_token 130 = .ok (.iconst 1, 1) := by decide +kernel
theorem dX12_token_131 : decode cX12_token 131 = .ok (.putfield 193, 3) := by decide +kernel
theorem dX12_token_134 : decode cX12_token 134 = .ok (.goto 98, 3) := by decide +kernel
theorem dX12_token_137 : decode cX12_token 137 = .ok (.iload_n 1, 1) := by decide +kernel
theorem dX12_token_138 : decode cX12_token 138 = .ok (.invokestatic 200, 3) := by decide +kernel
theorem dX12_token_141 : decode cX12_token 141 = .ok (.ifCond .eq 73, 3) := by decide +kernel
theorem dX12_token_144 : decode cX12_token 144 = .ok (.aload_n 0, 1) := by decide +kernel
theorem dX12_token_145 : decode cX12_token 145 = .ok (.iload_n 2, 1) := by decide +kernel
theorem dX12_token_146 : decode cX12_token 146 = .ok (.invokevirtual 179, 3) := by decide +kernel
theorem dX12_token_149 : decode cX12_token 149 = .ok (.invokestatic 200, 3) := by decide +kernel
theorem dX12_token_152 : decode cX12_token 152 = .ok (.ifCond .eq 34, 3) := by decide +kernel
theorem dX12_token_155 : decode cX12_token 155 = .ok (.iload_n 2, 1) := by decide +kernel
theorem dX12_token_156 : decode cX12_token 156 = .ok (.iconst 4, 1) := by decide +kernel
theorem dX12_token_157 : decode cX12_token 157 = .ok (.if_icmp .ge 23, 3) := by decide +kernel
theorem dX12_token_160 : decode cX12_token 160 = .ok (.aload_n 0, 1) := by decide +kernel
theorem dX12_token_161 : decode cX12_token 161 = .ok (.bipush 10, 2) := by decide +kernel
theorem dX12_token_163 : decode cX12_token 163 = .ok (.aload_n 0, 1) := by decide +kernel
theorem dX12_token_164 : decode cX12_token 164 = .ok (.getfield 190, 3) := by decide +kernel
theorem dX12_token_167 : decode cX12_token 167 = .ok (.imul, 1) := by decide +kernel
theorem dX12_token_168 : decode cX12_token 168 = .ok (.aload_n 0, 1) := by decide +kernel
theorem dX12_token_169 : decode cX12_token 169 = .ok (.iload_n 2, 1) := by decide +kernel
theorem dX12_token_170 : decode cX12_token 170 = .ok (.invokevirtual 179, 3) := by decide +kernel
theorem dX12_token_173 : decode cX12_token 173 = .ok (.iadd, 1) := by decide +kernel
theorem dX12_token_174 : decode cX12_token 174 = .ok (.bipush 48, 2) := by decide +kernel
theorem dX12_token_176 : decode cX12_token 176 = .ok (.isub, 1) := by decide +kernel
theorem dX12_token_177 : decode cX12_token 177 = .ok (.putfield 190, 3) := by decide +kernel
theorem dX12_token_180 : decode cX12_token 180 = .ok (.iinc 2 1, 3) := by decide +kernel
theorem dX12_token_183 : decode cX12_token 183 = .ok (.goto (-39), 3) := by decide +kernel
theorem dX12_token_186 : decode cX12_token 186 = .ok (.aload_n 0, 1) := by decide +kernel
theorem dX12_token_187 : decode cX12_token 187 = .ok (.iload_n 2, 1) := by decide +kernel
theorem dX12_token_188 : decode cX12_token 188 = .ok (.iconst 4, 1) := by decide +kernel
theorem dX12_token_189 : decode cX12_token 189 = .ok (.if_icmp .gt 14, 3) := by decide +kernel
theorem dX12_token_192 : decode cX12_token 192 = .ok (.aload_n 0, 1) := by decide +kernel
theorem dX12_token_193 : decode cX12_token 193 = .ok (.iload_n 2, 1) := by decide +kernel
theorem dX12_token_194 : decode cX12_token 194 = .ok (.invokevirtual 179, 3) := by decide +kernel
theorem dX12_token_197 : decode cX12_token 197 = .ok (.invokestatic 196, 3) := by decide +kernel
theorem dX12_token_200 : decode cX12_token 200 = .ok (.ifCond .eq 7, 3) := by decide +kernel
theorem dX12_token_203 : decode cX12_token 203 = .ok (.iconst 3, 1) := by decide +kernel
theorem dX12_token_204 : decode cX12_token 204 = .ok (.goto 4, 3) := by decide +kernel
theorem dX12_token_207 : decode cX12_token 207 = .ok (.iconst 2, 1) := by decide +kernel
theorem dX12_token_208 : decode cX12_token 208 = .ok (.putfield 193, 3) := by decide +kernel
theorem dX12_token_211 : decode cX12_token 211 = .ok (.goto 21, 3) := by decide +kernel
theorem dX12_token_214 : decode cX12_token 214 = .ok (.iconst 1, 1) := by decide +kernel
theorem dX12_token_215 : decode cX12_token 215 = .ok (.istore_n 2, 1) := by decide +kernel
theorem dX12_token_216 : decode cX12_token 216 = .ok (.aload_n 0, 1) := by decide +kernel
theorem dX12_token_217 : decode cX12_token 217 = .ok (.iload_n 1, 1) := by decide +kernel
theorem dX12_token_218 : decode cX12_token 218 = .ok (.invokestatic 203, 3) := by decide +kernel
theorem dX12_token_221 : decode cX12_token 221 = .ok (.ifCond .eq 7, 3) := by decide +kernel
theorem dX12_token_224 : decode cX12_token 224 = .ok (.iload_n 1, 1) := by decide +kernel
theorem dX12_token_225 : decode cX12_token 225 = .ok (.goto 4, 3) := by decide +kernel
theorem dX12_token_228 : decode cX12_token 228 = .ok (.iconst 3, 1) := by decide +kernel
theorem dX12_token_229 : decode cX12_token 229 = .ok (.putfield 193, 3) := by decide +kernel
theorem dX12_token_232 : decode cX12_token 232 = .ok (.aload_n 0, 1) := by decide +kernel
theorem dX12_token_233 : decode cX12_token 233 = .ok (.getfield 193, 3) := by decide +kernel
theorem dX12_token_236 : decode cX12_token 236 = .ok (.iconst 3, 1) := by decide +kernel
theorem dX12_token_237 : decode cX12_token 237 = .ok (.if_icmp .eq 13, 3) := by decide +kernel
theorem dX12_token_240 : decode cX12_token 240 = .ok (.aload_n 0, 1) := by decide +kernel
theorem dX12_token_241 : decode cX12_token 241 = .ok (.dup, 1) := by decide +kernel
theorem dX12_token_242 : decode cX12_token 242 = .ok (.getfield 173, 3) := by decide +kernel
theorem dX12_token_245 : decode cX12_token 245 = .ok (.iload_n 2, 1) := by decide +kernel
theorem dX12_token_246 : decode cX12_token 246 = .ok (.iadd, 1) := by decide +kernel
theorem dX12_token_247 : decode cX12_token 247 = .ok (.putfield 173, 3) := by decide +kernel
theorem dX12_token_250 : decode cX12_token 250 = .ok (.return_, 1) := by decide +kernel
theorem dX12_wrong_0 : decode cX12_wrong 0 = .ok (.aload_n 0, 1) := by decide +kernel
theorem dX12_wrong_1 : decode cX12_wrong 1 = .ok (.getfield 206, 3) := by decide +kernel
theorem dX12_wrong_4 : decode cX12_wrong 4 = .ok (.ifCond .le 4, 3) := by decide +kernel
theorem dX12_wrong_7 : decode cX12_wrong 7 = .ok (.return_, 1) := by decide +kernel
theorem dX12_wrong_8 : decode cX12_wrong 8 = .ok (.aload_n 0, 1) := by decide +kernel
theorem dX12_wrong_9 : decode cX12_wrong 9 = .ok (.aload_n 0, 1) := by decide +kernel
theorem dX12_wrong_10 : decode cX12_wrong 10 = .ok (.getfield 193, 3) := by decide +kernel
theorem dX12_wrong_13 : decode cX12_wrong 13 = .ok (.iconst 3, 1) := by decide +kernel
theorem dX12_wrong_14 : decode cX12_wrong 14 = .ok (.if_icmp .ne 7, 3) := by decide +kernel
theorem dX12_wrong_17 : decode cX12_wrong 17 = .ok (.iconst 1, 1) := by decide +kernel
theorem dX12_wrong_18 : decode cX12_wrong 18 = .ok (.goto 4, 3) := by decide +kernel
theorem dX12_wrong_21 : decode cX12_wrong 21 = .ok (.iload_n 1, 1) := by decide +kernel
theorem dX12_wrong_22 : decode cX12_wrong 22 = .ok (.putfield 206, 3) := by decide +kernel
theorem dX12_wrong_25 : decode cX12_wrong 25 = .ok (.aload_n 0, 1) := by decide +kernel
theorem dX12_wrong_26 : decode cX12_wrong 26 = .ok (.aload_n 0, 1) := by decide +kernel
theorem dX12_wrong_27 : decode cX12_wrong 27 = .ok (.getfield 183, 3) := by decide +kernel
theorem dX12_wrong_30 : decode cX12_wrong 30 = .ok (.putfield 13, 3) := by decide +kernel
theorem dX12_wrong_33 : decode cX12_wrong 33 = .ok (.return_, 1) := by decide +kernel
theorem dX12_isWord_0 : decode cX12_isWord 0 = .ok (.aload_n 0, 1) := by decide +kernel
theorem dX12_isWord_1 : decode cX12_isWord 1 = .ok (.getfield 193, 3) := by decide +kernel
theorem dX12_isWord_4 : decode cX12_isWord 4 = .ok (.iconst 1, 1) := by decide +kernel
theorem dX12_isWord_5 : decode cX12_isWord 5 = .ok (.if_icmp .ne 16, 3) := by decide +kernel
theorem dX12_isWord_8 : decode cX12_isWord 8 = .ok (.aload_n 0, 1) := by decide +kernel
theorem dX12_isWord_9 : decode cX12_isWord 9 = .ok (.getfield 186, 3) := by decide +kernel
theorem dX12_isWord_12 : decode cX12_isWord 12 = .ok (.lload_n 1, 1) := by decide +kernel
theorem dX12_isWord_13 : decode cX12_isWord 13 = .ok (.lcmp, 1) := by decide +kernel
theorem dX12_isWord_14 : decode cX12_isWord 14 = .ok (.ifCond .ne 7, 3) := by decide +kernel
theorem dX12_isWord_17 : decode cX12_isWord 17 = .ok (.iconst 1, 1) := by decide +kernel
theorem dX12_isWord_18 : decode cX12_isWord 18 = .ok (.goto 4, 3) := by decide +kernel
theorem dX12_isWord_21 : decode cX12_isWord 21 = .ok (.iconst 0, 1) := by decide +kernel
theorem dX12_isWord_22 : decode cX12_isWord 22 = .ok (.ireturn, 1) := by decide +kernel
theorem dX12_isOwn_0 : decode cX12_isOwn 0 = .ok (.aload_n 0, 1) := by decide +kernel
theorem dX12_isOwn_1 : decode cX12_isOwn 1 = .ok (.getfield 186, 3) := by decide +kernel
theorem dX12_isOwn_4 : decode cX12_isOwn 4 = .ok (.ldc2_w 209, 3) := by decide +kernel
theorem dX12_isOwn_7 : decode cX12_isOwn 7 = .ok (.lcmp, 1) := by decide +kernel
theorem dX12_isOwn_8 : decode cX12_isOwn 8 = .ok (.ifCond .eq 201, 3) := by decide +kernel
theorem dX12_isOwn_11 : decode cX12_isOwn 11 = .ok (.aload_n 0, 1) := by decide +kernel
theorem dX12_isOwn_12 : decode cX12_isOwn 12 = .ok (.getfield 186, 3) := by decide +kernel
theorem dX12_isOwn_15 : decode cX12_isOwn 15 = .ok (.ldc2_w 211, 3) := by decide +kernel
theorem dX12_isOwn_18 : decode cX12_isOwn 18 = .ok (.lcmp, 1) := by decide +kernel
theorem dX12_isOwn_19 : decode cX12_isOwn 19 = .ok (.ifCond .eq 190, 3) := by decide +kernel
theorem dX12_isOwn_22 : decode cX12_isOwn 22 = .ok (.aload_n 0, 1) := by decide +kernel
theorem dX12_isOwn_23 : decode cX12_isOwn 23 = .ok (.getfield 186, 3) := by decide +kernel
theorem dX12_isOwn_26 : decode cX12_isOwn 26 = .ok (.ldc2_w 213, 3) := by decide +kernel
theorem dX12_isOwn_29 : decode cX12_isOwn 29 = .ok (.lcmp, 1) := by decide +kernel
theorem dX12_isOwn_30 : decode cX12_isOwn 30 = .ok (.ifCond .eq 179, 3) := by decide +kernel
theorem dX12_isOwn_33 : decode cX12_isOwn 33 = .ok (.aload_n 0, 1) := by decide +kernel
theorem dX12_isOwn_34 : decode cX12_isOwn 34 = .ok (.getfield 186, 3) := by decide +kernel
theorem dX12_isOwn_37 : decode cX12_isOwn 37 = .ok (.ldc2_w 215, 3) := by decide +kernel
theorem dX12_isOwn_40 : decode cX12_isOwn 40 = .ok (.lcmp, 1) := by decide +kernel
theorem dX12_isOwn_41 : decode cX12_isOwn 41 = .ok (.ifCond .eq 168, 3) := by decide +kernel
theorem dX12_isOwn_44 : decode cX12_isOwn 44 = .ok (.aload_n 0, 1) := by decide +kernel
theorem dX12_isOwn_45 : decode cX12_isOwn 45 = .ok (.getfield 186, 3) := by decide +kernel
theorem dX12_isOwn_48 : decode cX12_isOwn 48 = .ok (.ldc2_w 217, 3) := by decide +kernel
theorem dX12_isOwn_51 : decode cX12_isOwn 51 = .ok (.lcmp, 1) := by decide +kernel
theorem dX12_isOwn_52 : decode cX12_isOwn 52 = .ok (.ifCond .eq 157, 3) := by decide +kernel
theorem dX12_isOwn_55 : decode cX12_isOwn 55 = .ok (.aload_n 0, 1) := by decide +kernel
theorem dX12_isOwn_56 : decode cX12_isOwn 56 = .ok (.getfield 186, 3) := by decide +kernel
theorem dX12_isOwn_59 : decode cX12_isOwn 59 = .ok (.ldc2_w 219, 3) := by decide +kernel
theorem dX12_isOwn_62 : decode cX12_isOwn 62 = .ok (.lcmp, 1) := by decide +kernel
theorem dX12_isOwn_63 : decode cX12_isOwn 63 = .ok (.ifCond .eq 146, 3) := by decide +kernel
theorem dX12_isOwn_66 : decode cX12_isOwn 66 = .ok (.aload_n 0, 1) := by decide +kernel
theorem dX12_isOwn_67 : decode cX12_isOwn 67 = .ok (.getfield 186, 3) := by decide +kernel
theorem dX12_isOwn_70 : decode cX12_isOwn 70 = .ok (.ldc2_w 221, 3) := by decide +kernel
theorem dX12_isOwn_73 : decode cX12_isOwn 73 = .ok (.lcmp, 1) := by decide +kernel
theorem dX12_isOwn_74 : decode cX12_isOwn 74 = .ok (.ifCond .eq 135, 3) := by decide +kernel
theorem dX12_isOwn_77 : decode cX12_isOwn 77 = .ok (.aload_n 0, 1) := by decide +kernel
theorem dX12_isOwn_78 : decode cX12_isOwn 78 = .ok (.getfield 186, 3) := by decide +kernel
theorem dX12_isOwn_81 : decode cX12_isOwn 81 = .ok (.ldc2_w 223, 3) := by decide +kernel
theorem dX12_isOwn_84 : decode cX12_isOwn 84 = .ok (.lcmp, 1) := by decide +kernel
theorem dX12_isOwn_85 : decode cX12_isOwn 85 = .ok (.ifCond .eq 124, 3) := by decide +kernel
theorem dX12_isOwn_88 : decode cX12_isOwn 88 = .ok (.aload_n 0, 1) := by decide +kernel
theorem dX12_isOwn_89 : decode cX12_isOwn 89 = .ok (.getfield 186, 3) := by decide +kernel
theorem dX12_isOwn_92 : decode cX12_isOwn 92 = .ok (.ldc2_w 225, 3) := by decide +kernel
theorem dX12_isOwn_95 : decode cX12_isOwn 95 = .ok (.lcmp, 1) := by decide +kernel
theorem dX12_isOwn_96 : decode cX12_isOwn 96 = .ok (.ifCond .eq 113, 3) := by decide +kernel
theorem dX12_isOwn_99 : decode cX12_isOwn 99 = .ok (.aload_n 0, 1) := by decide +kernel
theorem dX12_isOwn_100 : decode cX12_isOwn 100 = .ok (.getfield 186, 3) := by decide +kernel
theorem dX12_isOwn_103 : decode cX12_isOwn 103 = .ok (.ldc2_w 227, 3) := by decide +kernel
theorem dX12_isOwn_106 : decode cX12_isOwn 106 = .ok (.lcmp, 1) := by decide +kernel
theorem dX12_isOwn_107 : decode cX12_isOwn 107 = .ok (.ifCond .eq 102, 3) := by decide +kernel
theorem dX12_isOwn_110 : decode cX12_isOwn 110 = .ok (.aload_n 0, 1) := by decide +kernel
theorem dX12_isOwn_111 : decode cX12_isOwn 111 = .ok (.getfield 186, 3) := by decide +kernel
theorem dX12_isOwn_114 : decode cX12_isOwn 114 = .ok (.ldc2_w 229, 3) := by decide +kernel
theorem dX12_isOwn_117 : decode cX12_isOwn 117 = .ok (.lcmp, 1) := by decide +kernel
theorem dX12_isOwn_118 : decode cX12_isOwn 118 = .ok (.ifCond .eq 91, 3) := by decide +kernel
theorem dX12_isOwn_121 : decode cX12_isOwn 121 = .ok (.aload_n 0, 1) := by decide +kernel
theorem dX12_isOwn_122 : decode cX12_isOwn 122 = .ok (.getfield 186, 3) := by decide +kernel
theorem dX12_isOwn_125 : decode cX12_isOwn 125 = .ok (.ldc2_w 231, 3) := by decide +kernel
theorem dX12_isOwn_128 : decode cX12_isOwn 128 = .ok (.lcmp, 1) := by decide +kernel
theorem dX12_isOwn_129 : decode cX12_isOwn 129 = .ok (.ifCond .eq 80, 3) := by decide +kernel
theorem dX12_isOwn_132 : decode cX12_isOwn 132 = .ok (.aload_n 0, 1) := by decide +kernel
theorem dX12_isOwn_133 : decode cX12_isOwn 133 = .ok (.getfield 186, 3) := by decide +kernel
theorem dX12_isOwn_136 : decode cX12_isOwn 136 = .ok (.ldc2_w 233, 3) := by decide +kernel
theorem dX12_isOwn_139 : decode cX12_isOwn 139 = .ok (.lcmp, 1) := by decide +kernel
theorem dX12_isOwn_140 : decode cX12_isOwn 140 = .ok (.ifCond .eq 69, 3) := by decide +kernel
theorem dX12_isOwn_143 : decode cX12_isOwn 143 = .ok (.aload_n 0, 1) := by decide +kernel
theorem dX12_isOwn_144 : decode cX12_isOwn 144 = .ok (.getfield 186, 3) := by decide +kernel
theorem dX12_isOwn_147 : decode cX12_isOwn 147 = .ok (.ldc2_w 235, 3) := by decide +kernel
theorem dX12_isOwn_150 : decode cX12_isOwn 150 = .ok (.lcmp, 1) := by decide +kernel
theorem dX12_isOwn_151 : decode cX12_isOwn 151 = .ok (.ifCond .eq 58, 3) := by decide +kernel
theorem dX12_isOwn_154 : decode cX12_isOwn 154 = .ok (.aload_n 0, 1) := by decide +kernel
theorem dX12_isOwn_155 : decode cX12_isOwn 155 = .ok (.getfield 186, 3) := by decide +kernel
theorem dX12_isOwn_158 : decode cX12_isOwn 158 = .ok (.ldc2_w 237, 3) := by decide +kernel
theorem dX12_isOwn_161 : decode cX12_isOwn 161 = .ok (.lcmp, 1) := by decide +kernel
theorem dX12_isOwn_162 : decode cX12_isOwn 162 = .ok (.ifCond .eq 47, 3) := by decide +kernel
theorem dX12_isOwn_165 : decode cX12_isOwn 165 = .ok (.aload_n 0, 1) := by decide +kernel
theorem dX12_isOwn_166 : decode cX12_isOwn 166 = .ok (.getfield 186, 3) := by decide +kernel
theorem dX12_isOwn_169 : decode cX12_isOwn 169 = .ok (.ldc2_w 239, 3) := by decide +kernel
theorem dX12_isOwn_172 : decode cX12_isOwn 172 = .ok (.lcmp, 1) := by decide +kernel
theorem dX12_isOwn_173 : decode cX12_isOwn 173 = .ok (.ifCond .eq 36, 3) := by decide +kernel
theorem dX12_isOwn_176 : decode cX12_isOwn 176 = .ok (.aload_n 0, 1) := by decide +kernel
theorem dX12_isOwn_177 : decode cX12_isOwn 177 = .ok (.getfield 186, 3) := by decide +kernel
theorem dX12_isOwn_180 : decode cX12_isOwn 180 = .ok (.ldc2_w 241, 3) := by decide +kernel
theorem dX12_isOwn_183 : decode cX12_isOwn 183 = .ok (.lcmp, 1) := by decide +kernel
theorem dX12_isOwn_184 : decode cX12_isOwn 184 = .ok (.ifCond .eq 25, 3) := by decide +kernel
theorem dX12_isOwn_187 : decode cX12_isOwn 187 = .ok (.aload_n 0, 1) := by decide +kernel
theorem dX12_isOwn_188 : decode cX12_isOwn 188 = .ok (.getfield 186, 3) := by decide +kernel
theorem dX12_isOwn_191 : decode cX12_isOwn 191 = .ok (.ldc2_w 243, 3) := by decide +kernel
theorem dX12_isOwn_194 : decode cX12_isOwn 194 = .ok (.lcmp, 1) := by decide +kernel
theorem dX12_isOwn_195 : decode cX12_isOwn 195 = .ok (.ifCond .eq 14, 3) := by decide +kernel
theorem dX12_isOwn_198 : decode cX12_isOwn 198 = .ok (.aload_n 0, 1) := by decide +kernel
theorem dX12_isOwn_199 : decode cX12_isOwn 199 = .ok (.getfield 186, 3) := by decide +kernel
theorem dX12_isOwn_202 : decode cX12_isOwn 202 = .ok (.ldc2_w 245, 3) := by decide +kernel
theorem dX12_isOwn_205 : decode cX12_isOwn 205 = .ok (.lcmp, 1) := by decide +kernel
theorem dX12_isOwn_206 : decode cX12_isOwn 206 = .ok (.ifCond .ne 7, 3) := by decide +kernel
theorem dX12_isOwn_209 : decode cX12_isOwn 209 = .ok (.iconst 1, 1) := by decide +kernel
theorem dX12_isOwn_210 : decode cX12_isOwn 210 = .ok (.goto 4, 3) := by decide +kernel
theorem dX12_isOwn_213 : decode cX12_isOwn 213 = .ok (.iconst 0, 1) := by decide +kernel
theorem dX12_isOwn_214 : decode cX12_isOwn 214 = .ok (.ireturn, 1) := by decide +kernel
theorem dX12_isName_0 : decode cX12_isName 0 = .ok (.aload_n 0, 1) := by decide +kernel
theorem dX12_isName_1 : decode cX12_isName 1 = .ok (.getfield 193, 3) := by decide +kernel
theorem dX12_isName_4 : decode cX12_isName 4 = .ok (.iconst 1, 1) := by decide +kernel
theorem dX12_isName_5 : decode cX12_isName 5 = .ok (.if_icmp .ne 14, 3) := by decide +kernel
theorem dX12_isName_8 : decode cX12_isName 8 = .ok (.aload_n 0, 1) := by decide +kernel
theorem dX12_isName_9 : decode cX12_isName 9 = .ok (.invokevirtual 247, 3) := by decide +kernel
theorem dX12_isName_12 : decode cX12_isName 12 = .ok (.ifCond .ne 7, 3) := by decide +kernel
theorem dX12_isName_15 : decode cX12_isName 15 = .ok (.iconst 1, 1) := by decide +kernel
theorem dX12_isName_16 : decode cX12_isName 16 = .ok (.goto 4, 3) := by decide +kernel
theorem dX12_isName_19 : decode cX12_isName 19 = .ok (.iconst 0, 1) := by decide +kernel
theorem dX12_isName_20 : decode cX12_isName 20 = .ok (.ireturn, 1) := by decide +kernel
theorem dX12_want_0 : decode cX12_want 0 = .ok (.aload_n 0, 1) := by decide +kernel
theorem dX12_want_1 : decode cX12_want 1 = .ok (.getfield 206, 3) := by decide +kernel
theorem dX12_want_4 : decode cX12_want 4 = .ok (.ifCond .le 4, 3) := by decide +kernel
theorem dX12_want_7 : decode cX12_want 7 = .ok (.return_, 1) := by decide +kernel
theorem dX12_want_8 : decode cX12_want 8 = .ok (.aload_n 0, 1) := by decide +kernel
theorem dX12_want_9 : decode cX12_want 9 = .ok (.lload_n 1, 1) := by decide +kernel
theorem dX12_want_10 : decode cX12_want 10 = .ok (.invokevirtual 251, 3) := by decide +kernel
theorem dX12_want_13 : decode cX12_want 13 = .ok (.ifCond .ne 11, 3) := by decide +kernel
theorem dX12_want_16 : decode cX12_want 16 = .ok (.aload_n 0, 1) := by decide +kernel
theorem dX12_want_17 : decode cX12_want 17 = .ok (.iconst 2, 1) := by decide +kernel
theorem dX12_want_18 : decode cX12_want 18 = .ok (.invokevirtual 255, 3) := by decide +kernel
theorem dX12_want_21 : decode cX12_want 21 = .ok (.goto 7, 3) := by decide +kernel
theorem dX12_want_24 : decode cX12_want 24 = .ok (.aload_n 0, 1) := by decide +kernel
theorem dX12_want_25 : decode cX12_want 25 = .ok (.invokevirtual 258, 3) := by decide +kernel
theorem dX12_want_28 : decode cX12_want 28 = .ok (.return_, 1) := by decide +kernel
theorem dX12_toldNumber_0 : decode cX12_toldNumber 0 = .ok (.aload_n 0, 1) := by decide +kernel
theorem dX12_toldNumber_1 : decode cX12_toldNumber 1 = .ok (.getfield 206, 3) := by decide +kernel
theorem dX12_toldNumber_4 : decode cX12_toldNumber 4 = .ok (.ifCond .le 5, 3) := by decide +kernel
theorem dX12_toldNumber_7 : decode cX12_toldNumber 7 = .ok (.iconst 0, 1) := by decide +kernel
theorem dX12_toldNumber_8 : decode cX12_toldNumber 8 = .ok (.ireturn, 1) := by decide +kernel
theorem dX12_toldNumber_9 : decode cX12_toldNumber 9 = .ok (.aload_n 0, 1) := by decide +kernel
theorem dX12_toldNumber_10 : decode cX12_toldNumber 10 = .ok (.getfield 193, 3) := by decide +kernel
theorem dX12_toldNumber_13 : decode cX12_toldNumber 13 = .ok (.iconst 2, 1) := by decide +kernel
theorem dX12_toldNumber_14 : decode cX12_toldNumber 14 = .ok (.if_icmp .eq 11, 3) := by decide +kernel
theorem dX12_toldNumber_17 : decode cX12_toldNumber 17 = .ok (.aload_n 0, 1) := by decide +kernel
theorem dX12_toldNumber_18 : decode cX12_toldNumber 18 = .ok (.iconst 2, 1) := by decide +kernel
theorem dX12_toldNumber_19 : decode cX12_toldNumber 19 = .ok (.invokevirtual 255, 3) := by decide +kernel
theorem dX12_toldNumber_22 : decode cX12_toldNumber 22 = .ok (.goto 24, 3) := by decide +kernel
theorem dX12_toldNumber_25 : decode cX12_toldNumber 25 = .ok (.aload_n 0, 1) := by decide +kernel
theorem dX12_toldNumber_26 : decode cX12_toldNumber 26 = .ok (.getfield 190, 3) := by decide +kernel
theorem dX12_toldNumber_29 : decode cX12_toldNumber 29 = .ok (.iload_n 1, 1) := by decide +kernel
theorem dX12_toldNumber_30 : decode cX12_toldNumber 30 = .ok (.if_icmp .lt 11, 3) := by decide +kernel
theorem dX12_toldNumber_33 : decode cX12_toldNumber 33 = .ok (.aload_n 0, 1) := by decide +kernel
theorem dX12_toldNumber_34 : decode cX12_toldNumber 34 = .ok (.getfield 190, 3) := by decide +kernel
theorem dX12_toldNumber_37 : decode cX12_toldNumber 37 = .ok (.iload_n 2, 1) := by decide +kernel
theorem dX12_toldNumber_38 : decode cX12_toldNumber 38 = .ok (.if_icmp .le 8, 3) := by decide +kernel
theorem dX12_toldNumber_41 : decode cX12_toldNumber 41 = .ok (.aload_n 0, 1) := by decide +kernel
theorem dX12_toldNumber_42 : decode cX12_toldNumber 42 = .ok (.iconst 4, 1) := by decide +kernel
theorem dX12_toldNumber_43 : decode cX12_toldNumber 43 = .ok (.invokevirtual 255, 3) := by decide +kernel
theorem dX12_toldNumber_46 : decode cX12_toldNumber 46 = .ok (.aload_n 0, 1) := by decide +kernel
theorem dX12_toldNumber_47 : decode cX12_toldNumber 47 = .ok (.getfield 190, 3) := by decide +kernel
theorem dX12_toldNumber_50 : decode cX12_toldNumber 50 = .ok (.istore_n 3, 1) := by decide +kernel
theorem dX12_toldNumber_51 : decode cX12_toldNumber 51 = .ok (.aload_n 0, 1) := by decide +kernel
theorem dX12_toldNumber_52 : decode cX12_toldNumber 52 = .ok (.getfield 206, 3) := by decide +kernel
theorem dX12_toldNumber_55 : decode cX12_toldNumber 55 = .ok (.ifCond .ne 7, 3) := by decide +kernel
theorem dX12_toldNumber_58 : decode cX12_toldNumber 58 = .ok (.aload_n 0, 1) := by decide +kernel
theorem dX12_toldNumber_59 : decode cX12_toldNumber 59 = .ok (.invokevirtual 258, 3) := by decide +kernel
theorem dX12_toldNumber_62 : decode cX12_toldNumber 62 = .ok (.iload_n 3, 1) := by decide +kernel
theorem dX12_toldNumber_63 : decode cX12_toldNumber 63 = .ok (.ireturn, 1) := by decide +kernel
theorem dX12_told_0 : decode cX12_told 0 = .ok (.aload_n 0, 1) := by decide +kernel
theorem dX12_told_1 : decode cX12_told 1 = .ok (.lload_n 1, 1) := by decide +kernel
theorem dX12_told_2 : decode cX12_told 2 = .ok (.invokevirtual 261, 3) := by decide +kernel
theorem dX12_told_5 : decode cX12_told 5 = .ok (.aload_n 0, 1) := by decide +kernel
theorem dX12_told_6 : decode cX12_told 6 = .ok (.iload_n 3, 1) := by decide +kernel
theorem dX12_told_7 : decode cX12_told 7 = .ok (.iload 4, 2) := by decide +kernel
theorem dX12_told_9 : decode cX12_told 9 = .ok (.invokevirtual 265, 3) := by decide +kernel
theorem dX12_told_12 : decode cX12_told 12 = .ok (.ireturn, 1) := by decide +kernel
theorem dX12_option_0 : decode cX12_option 0 = .ok (.aload_n 0, 1) := by decide +kernel
theorem dX12_option_1 : decode cX12_option 1 = .ok (.getfield 206, 3) := by decide +kernel
theorem dX12_option_4 : decode cX12_option 4 = .ok (.ifCond .ne 22, 3) := by decide +kernel
theorem dX12_option_7 : decode cX12_option 7 = .ok (.aload_n 0, 1) := by decide +kernel
theorem dX12_option_8 : decode cX12_option 8 = .ok (.lload_n 1, 1) := by decide +kernel
theorem dX12_option_9 : decode cX12_option 9 = .ok (.invokevirtual 251, 3) := by decide +kernel
theorem dX12_option_12 : decode cX12_option 12 = .ok (.ifCond .eq 14, 3) := by decide +kernel
theorem dX12_option_15 : decode cX12_option 15 = .ok (.aload_n 0, 1) := by decide +kernel
theorem dX12_option_16 : decode cX12_option 16 = .ok (.lload_n 1, 1) := by decide +kernel
theorem dX12_option_17 : decode cX12_option 17 = .ok (.iload_n 3, 1) := by decide +kernel
theorem dX12_option_18 : decode cX12_option 18 = .ok (.iload 4, 2) := by decide +kernel
theorem dX12_option_20 : decode cX12_option 20 = .ok (.invokevirtual 269, 3) := by decide +kernel
theorem dX12_option_23 : decode cX12_option 23 = .ok (.goto 4, 3) := by decide +kernel
theorem dX12_option_26 : decode cX12_option 26 = .ok (.iload_n 3, 1) := by decide +kernel
theorem dX12_option_27 : decode cX12_option 27 = .ok (.ireturn, 1) := by decide +kernel
theorem dX12_newName_0 : decode cX12_newName 0 = .ok (.aload_n 0, 1) := by decide +kernel
theorem dX12_newName_1 : decode cX12_newName 1 = .ok (.invokevirtual 258, 3) := by decide +kernel
theorem dX12_newName_4 : decode cX12_newName 4 = .ok (.aload_n 0, 1) := by decide +kernel
theorem dX12_newName_5 : decode cX12_newName 5 = .ok (.invokevirtual 273, 3) := by decide +kernel
theorem dX12_newName_8 : decode cX12_newName 8 = .ok (.ifCond .ne 8, 3) := by decide +kernel
theorem dX12_newName_11 : decode cX12_newName 11 = .ok (.aload_n 0, 1) := by decide +kernel
theorem dX12_newName_12 : decode cX12_newName 12 = .ok (.iconst 2, 1) := by decide +kernel
theorem dX12_newName_13 : decode cX12_newName 13 = .ok (.invokevirtual 255, 3) := by decide +kernel
theorem dX12_newName_16 : decode cX12_newName 16 = .ok (.iconst 0, 1) := by decide +kernel
theorem dX12_newName_17 : decode cX12_newName 17 = .ok (.istore_n 3, 1) := by decide +kernel
theorem dX12_newName_18 : decode cX12_newName 18 = .ok (.iload_n 3, 1) := by decide +kernel
theorem dX12_newName_19 : decode cX12_newName 19 = .ok (.iload_n 2, 1) := by decide +kernel
theorem dX12_newName_20 : decode cX12_newName 20 = .ok (.if_icmp .ge 37, 3) := by decide +kernel
theorem dX12_newName_23 : decode cX12_newName 23 = .ok (.aload_n 0, 1) := by decide +kernel
theorem dX12_newName_24 : decode cX12_newName 24 = .ok (.getfield 206, 3) := by decide +kernel
theorem dX12_newName_27 : decode cX12_newName 27 = .ok (.ifCond .ne 30, 3) := by decide +kernel
theorem dX12_newName_30 : decode cX12_newName 30 = .ok (.aload_n 0, 1) := by decide +kernel
theorem dX12_newName_31 : decode cX12_newName 31 = .ok (.getfield 17, 3) := by decide +kernel
theorem dX12_newName_34 : decode cX12_newName 34 = .ok (.iload_n 1, 1) := by decide +kernel
theorem dX12_newName_35 : decode cX12_newName 35 = .ok (.iload_n 3, 1) := by decide +kernel
theorem dX12_newName_36 : decode cX12_newName 36 = .ok (.iadd, 1) := by decide +kernel
theorem dX12_newName_37 : decode cX12_newName 37 = .ok (.laload, 1) := by decide +kernel
theorem dX12_newName_38 : decode cX12_newName 38 = .ok (.aload_n 0, 1) := by decide +kernel
theorem dX12_newName_39 : decode cX12_newName 39 = .ok (.getfield 186, 3) := by decide +kernel
theorem dX12_newName_42 : decode cX12_newName 42 = .ok (.lcmp, 1) := by decide +kernel
theorem dX12_newName_43 : decode cX12_newName 43 = .ok (.ifCond .ne 8, 3) := by decide +kernel
theorem dX12_newName_46 : decode cX12_newName 46 = .ok (.aload_n 0, 1) := by decide +kernel
theorem dX12_newName_47 : decode cX12_newName 47 = .ok (.iconst 3, 1) := by decide +kernel
theorem dX12_newName_48 : decode cX12_newName 48 = .ok (.invokevirtual 255, 3) := by decide +kernel
theorem dX12_newName_51 : decode cX12_newName 51 = .ok (.iinc 3 1, 3) := by decide +kernel
theorem dX12_newName_54 : decode cX12_newName 54 = .ok (.goto (-36), 3) := by decide +kernel
theorem dX12_newName_57 : decode cX12_newName 57 = .ok (.aload_n 0, 1) := by decide +kernel
theorem dX12_newName_58 : decode cX12_newName 58 = .ok (.getfield 206, 3) := by decide +kernel
theorem dX12_newName_61 : decode cX12_newName 61 = .ok (.ifCond .le 4, 3) := by decide +kernel
theorem dX12_newName_64 : decode cX12_newName 64 = .ok (.return_, 1) := by decide +kernel
theorem dX12_newName_65 : decode cX12_newName 65 = .ok (.aload_n 0, 1) := by decide +kernel
theorem dX12_newName_66 : decode cX12_newName 66 = .ok (.getfield 17, 3) := by decide +kernel
theorem dX12_newName_69 : decode cX12_newName 69 = .ok (.iload_n 1, 1) := by decide +kernel
theorem dX12_newName_70 : decode cX12_newName 70 = .ok (.iload_n 2, 1) := by decide +kernel
theorem dX12_newName_71 : decode cX12_newName 71 = .ok (.iadd, 1) := by decide +kernel
theorem dX12_newName_72 : decode cX12_newName 72 = .ok (.aload_n 0, 1) := by decide +kernel
theorem dX12_newName_73 : decode cX12_newName 73 = .ok (.getfield 186, 3) := by decide +kernel
theorem dX12_newName_76 : decode cX12_newName 76 = .ok (.lastore, 1) := by decide +kernel
theorem dX12_newName_77 : decode cX12_newName 77 = .ok (.aload_n 0, 1) := by decide +kernel
theorem dX12_newName_78 : decode cX12_newName 78 = .ok (.invokevirtual 258, 3) := by decide +kernel
theorem dX12_newName_81 : decode cX12_newName 81 = .ok (.return_, 1) := by decide +kernel
theorem dX12_add_0 : decode cX12_add 0 = .ok (.aload_n 0, 1) := by decide +kernel
theorem dX12_add_1 : decode cX12_add 1 = .ok (.getfield 21, 3) := by decide +kernel
theorem dX12_add_4 : decode cX12_add 4 = .ok (.sipush 320, 3) := by decide +kernel
theorem dX12_add_7 : decode cX12_add 7 = .ok (.aload_n 0, 1) := by decide +kernel
theorem dX12_add_8 : decode cX12_add 8 = .ok (.getfield 276, 3) := by decide +kernel
theorem dX12_add_11 : decode cX12_add 11 = .ok (.imul, 1) := by decide +kernel
theorem dX12_add_12 : decode cX12_add 12 = .ok (.aload_n 0, 1) := by decide +kernel
theorem dX12_add_13 : decode cX12_add 13 = .ok (.getfield 27, 3) := by decide +kernel
theorem dX12_add_16 : decode cX12_add 16 = .ok (.aload_n 0, 1) := by decide +kernel
theorem dX12_add_17 : decode cX12_add 17 = .ok (.getfield 276, 3) := by decide +kernel
theorem dX12_add_20 : decode cX12_add 20 = .ok (.iaload, 1) := by decide +kernel
theorem dX12_add_21 : decode cX12_add 21 = .ok (.iadd, 1) := by decide +kernel
theorem dX12_add_22 : decode cX12_add 22 = .ok (.iload_n 1, 1) := by decide +kernel
theorem dX12_add_23 : decode cX12_add 23 = .ok (.iastore, 1) := by decide +kernel
theorem dX12_add_24 : decode cX12_add 24 = .ok (.aload_n 0, 1) := by decide +kernel
theorem dX12_add_25 : decode cX12_add 25 = .ok (.getfield 24, 3) := by decide +kernel
theorem dX12_add_28 : decode cX12_add 28 = .ok (.sipush 320, 3) := by decide +kernel
theorem dX12_add_31 : decode cX12_add 31 = .ok (.aload_n 0, 1) := by decide +kernel
theorem dX12_add_32 : decode cX12_add 32 = .ok (.getfield 276, 3) := by decide +kernel
theorem dX12_add_35 : decode cX12_add 35 = .ok (.imul, 1) := by decide +kernel
theorem dX12_add_36 : decode cX12_add 36 = .ok (.aload_n 0, 1) := by decide +kernel
theorem dX12_add_37 : decode cX12_add 37 = .ok (.getfield 27, 3) := by decide +kernel
theorem dX12_add_40 : decode cX12_add 40 = .ok (.aload_n 0, 1) := by decide +kernel
theorem dX12_add_41 : decode cX12_add 41 = .ok (.getfield 276, 3) := by decide +kernel
theorem dX12_add_44 : decode cX12_add 44 = .ok (.iaload, 1) := by decide +kernel
theorem dX12_add_45 : decode cX12_add 45 = .ok (.iadd, 1) := by decide +kernel
theorem dX12_add_46 : decode cX12_add 46 = .ok (.iload_n 2, 1) := by decide +kernel
theorem dX12_add_47 : decode cX12_add 47 = .ok (.iastore, 1) := by decide +kernel
theorem dX12_add_48 : decode cX12_add 48 = .ok (.aload_n 0, 1) := by decide +kernel
theorem dX12_add_49 : decode cX12_add 49 = .ok (.getfield 27, 3) := by decide +kernel
theorem dX12_add_52 : decode cX12_add 52 = .ok (.aload_n 0, 1) := by decide +kernel
theorem dX12_add_53 : decode cX12_add 53 = .ok (.getfield 276, 3) := by decide +kernel
theorem dX12_add_56 : decode cX12_add 56 = .ok (.dup2, 1) := by decide +kernel
theorem dX12_add_57 : decode cX12_add 57 = .ok (.iaload, 1) := by decide +kernel
theorem dX12_add_58 : decode cX12_add 58 = .ok (.iconst 1, 1) := by decide +kernel
theorem dX12_add_59 : decode cX12_add 59 = .ok (.iadd, 1) := by decide +kernel
theorem dX12_add_60 : decode cX12_add 60 = .ok (.iastore, 1) := by decide +kernel
theorem dX12_add_61 : decode cX12_add 61 = .ok (.return_, 1) := by decide +kernel
theorem dX12_tight_0 : decode cX12_tight 0 = .ok (.iload_n 0, 1) := by decide +kernel
theorem dX12_tight_1 : decode cX12_tight 1 = .ok (.lookupswitch 85 #[(21, 79), (38, 77), (43, 83), (45, 83), (60, 81), (61, 81), (62, 81), (124, 75)], 75) := by decide +kernel
theorem dX12_tight_76 : decode cX12_tight 76 = .ok (.iconst 1, 1) := by decide +kernel
theorem dX12_tight_77 : decode cX12_tight 77 = .ok (.ireturn, 1) := by decide +kernel
theorem dX12_tight_78 : decode cX12_tight 78 = .ok (.iconst 2, 1) := by decide +kernel
theorem dX12_tight_79 : decode cX12_tight 79 = .ok (.ireturn, 1) := by decide +kernel
theorem dX12_tight_80 : decode cX12_tight 80 = .ok (.iconst 3, 1) := by decide +kernel
theorem dX12_tight_81 : decode cX12_tight 81 = .ok (.ireturn, 1) := by decide +kernel
theorem dX12_tight_82 : decode cX12_tight 82 = .ok (.iconst 4, 1) := by decide +kernel
theorem dX12_tight_83 : decode cX12_tight 83 = .ok (.ireturn, 1) := by decide +kernel
theorem dX12_tight_84 : decode cX12_tight 84 = .ok (.iconst 5, 1) := by decide +kernel
theorem dX12_tight_85 : decode cX12_tight 85 = .ok (.ireturn, 1) := by decide +kernel
theorem dX12_tight_86 : decode cX12_tight 86 = .ok (.bipush 6, 2) := by decide +kernel
theorem dX12_tight_88 : decode cX12_tight 88 = .ok (.ireturn, 1) := by decide +kernel
theorem dX12_close_0 : decode cX12_close 0 = .ok (.aload_n 0, 1) := by decide +kernel
theorem dX12_close_1 : decode cX12_close 1 = .ok (.getfield 279, 3) := by decide +kernel
theorem dX12_close_4 : decode cX12_close 4 = .ok (.ifCond .le 97, 3) := by decide +kernel
theorem dX12_close_7 : decode cX12_close 7 = .ok (.aload_n 0, 1) := by decide +kernel
theorem dX12_close_8 : decode cX12_close 8 = .ok (.getfield 39, 3) := by decide +kernel
theorem dX12_close_11 : decode cX12_close 11 = .ok (.aload_n 0, 1) := by decide +kernel
theorem dX12_close_12 : decode cX12_close 12 = .ok (.getfield 279, 3) := by decide +kernel
theorem dX12_close_15 : decode cX12_close 15 = .ok (.iconst 1, 1) := by decide +kernel
theorem dX12_close_16 : decode cX12_close 16 = .ok (.isub, 1) := by decide +kernel
theorem dX12_close_17 : decode cX12_close 17 = .ok (.iaload, 1) := by decide +kernel
theorem dX12_close_18 : decode cX12_close 18 = .ok (.bipush 20, 2) := by decide +kernel
theorem dX12_close_20 : decode cX12_close 20 = .ok (.if_icmp .eq 81, 3) := by decide +kernel
theorem dX12_close_23 : decode cX12_close 23 = .ok (.aload_n 0, 1) := by decide +kernel
theorem dX12_close_24 : decode cX12_close 24 = .ok (.getfield 39, 3) := by decide +kernel
theorem dX12_close_27 : decode cX12_close 27 = .ok (.aload_n 0, 1) := by decide +kernel
theorem dX12_close_28 : decode cX12_close 28 = .ok (.getfield 279, 3) := by decide +kernel
theorem dX12_close_31 : decode cX12_close 31 = .ok (.iconst 1, 1) := by decide +kernel
theorem dX12_close_32 : decode cX12_close 32 = .ok (.isub, 1) := by decide +kernel
theorem dX12_close_33 : decode cX12_close 33 = .ok (.iaload, 1) := by decide +kernel
theorem dX12_close_34 : decode cX12_close 34 = .ok (.invokestatic 282, 3) := by decide +kernel
theorem dX12_close_37 : decode cX12_close 37 = .ok (.iload_n 1, 1) := by decide +kernel
theorem dX12_close_38 : decode cX12_close 38 = .ok (.if_icmp .lt 63, 3) := by decide +kernel
theorem dX12_close_41 : decode cX12_close 41 = .ok (.aload_n 0, 1) := by decide +kernel
theorem dX12_close_42 : decode cX12_close 42 = .ok (.dup, 1) := by decide +kernel
theorem dX12_close_43 : decode cX12_close 43 = .ok (.getfield 279, 3) := by decide +kernel
theorem dX12_close_46 : decode cX12_close 46 = .ok (.iconst 1, 1) := by decide +kernel
theorem dX12_close_47 : decode cX12_close 47 = .ok (.isub, 1) := by decide +kernel
theorem dX12_close_48 : decode cX12_close 48 = .ok (.putfield 279, 3) := by decide +kernel
theorem dX12_close_51 : decode cX12_close 51 = .ok (.aload_n 0, 1) := by decide +kernel
theorem dX12_close_52 : decode cX12_close 52 = .ok (.getfield 39, 3) := by decide +kernel
theorem dX12_close_55 : decode cX12_close 55 = .ok (.aload_n 0, 1) := by decide +kernel
theorem dX12_close_56 : decode cX12_close 56 = .ok (.getfield 279, 3) := by decide +kernel
theorem dX12_close_59 : decode cX12_close 59 = .ok (.iaload, 1) := by decide +kernel
theorem dX12_close_60 : decode cX12_close 60 = .ok (.bipush 21, 2) := by decide +kernel
theorem dX12_close_62 : decode cX12_close 62 = .ok (.if_icmp .ne 22, 3) := by decide +kernel
theorem dX12_close_65 : decode cX12_close 65 = .ok (.aload_n 0, 1) := by decide +kernel
theorem dX12_close_66 : decode cX12_close 66 = .ok (.iconst 2, 1) := by decide +kernel
theorem dX12_close_67 : decode cX12_close 67 = .ok (.iconst 0, 1) := by decide +kernel
theorem dX12_close_68 : decode cX12_close 68 = .ok (.invokevirtual 285, 3) := by decide +kernel
theorem dX12_close_71 : decode cX12_close 71 = .ok (.aload_n 0, 1) := by decide +kernel
theorem dX12_close_72 : decode cX12_close 72 = .ok (.dup, 1) := by decide +kernel
theorem dX12_close_73 : decode cX12_close 73 = .ok (.getfield 289, 3) := by decide +kernel
theorem dX12_close_76 : decode cX12_close 76 = .ok (.iconst 1, 1) := by decide +kernel
theorem dX12_close_77 : decode cX12_close 77 = .ok (.isub, 1) := by decide +kernel
theorem dX12_close_78 : decode cX12_close 78 = .ok (.putfield 289, 3) := by decide +kernel
theorem dX12_close_81 : decode cX12_close 81 = .ok (.goto (-81), 3) := by decide +kernel
theorem dX12_close_84 : decode cX12_close 84 = .ok (.aload_n 0, 1) := by decide +kernel
theorem dX12_close_85 : decode cX12_close 85 = .ok (.iconst 3, 1) := by decide +kernel
theorem dX12_close_86 : decode cX12_close 86 = .ok (.aload_n 0, 1) := by decide +kernel
theorem dX12_close_87 : decode cX12_close 87 = .ok (.getfield 39, 3) := by decide +kernel
theorem dX12_close_90 : decode cX12_close 90 = .ok (.aload_n 0, 1) := by decide +kernel
theorem dX12_close_91 : decode cX12_close 91 = .ok (.getfield 279, 3) := by decide +kernel
theorem dX12_close_94 : decode cX12_close 94 = .ok (.iaload, 1) := by decide +kernel
theorem dX12_close_95 : decode cX12_close 95 = .ok (.invokevirtual 285, 3) := by decide +kernel
theorem dX12_close_98 : decode cX12_close 98 = .ok (.goto (-98), 3) := by decide +kernel
theorem dX12_close_101 : decode cX12_close 101 = .ok (.return_, 1) := by decide +kernel
theorem dX12_hasRelation_0 : decode cX12_hasRelation 0 = .ok (.aload_n 0, 1) := by decide +kernel
theorem dX12_hasRelation_1 : decode cX12_hasRelation 1 = .ok (.getfield 279, 3) := by decide +kernel
theorem dX12_hasRelation_4 : decode cX12_hasRelation 4 = .ok (.iconst 1, 1) := by decide +kernel
theorem dX12_hasRelation_5 : decode cX12_hasRelation 5 = .ok (.isub, 1) := by decide +kernel
theorem dX12_hasRelation_6 : decode cX12_hasRelation 6 = .ok (.istore_n 1, 1) := by decide +kernel
theorem dX12_hasRelation_7 : decode cX12_hasRelation 7 = .ok (.iload_n 1, 1) := by decide +kernel
theorem dX12_hasRelation_8 : decode cX12_hasRelation 8 = .ok (.ifCond .lt 33, 3) := by decide +kernel
theorem dX12_hasRelation_11 : decode cX12_hasRelation 11 = .ok (.aload_n 0, 1) := by decide +kernel
theorem dX12_hasRelation_12 : decode cX12_hasRelation 12 = .ok (.getfield 39, 3) := by decide +kernel
theorem dX12_hasRelation_15 : decode cX12_hasRelation 15 = .ok (.iload_n 1, 1) := by decide +kernel
theorem dX12_hasRelation_16 : decode cX12_hasRelation 16 = .ok (.iaload, 1) := by decide +kernel
theorem dX12_hasRelation_17 : decode cX12_hasRelation 17 = .ok (.bipush 20, 2) := by decide +kernel
theorem dX12_hasRelation_19 : decode cX12_hasRelation 19 = .ok (.if_icmp .eq 22, 3) := by decide +kernel
theorem dX12_hasRelation_22 : decode cX12_hasRelation 22 = .ok (.aload_n 0, 1) := by decide +kernel
theorem dX12_hasRelation_23 : decode cX12_hasRelation 23 = .ok (.getfield 39, 3) := by decide +kernel
theorem dX12_hasRelation_26 : decode cX12_hasRelation 26 = .ok (.iload_n 1, 1) := by decide +kernel
theorem dX12_hasRelation_27 : decode cX12_hasRelation 27 = .ok (.iaload, 1) := by decide +kernel
theorem dX12_hasRelation_28 : decode cX12_hasRelation 28 = .ok (.invokestatic 282, 3) := by decide +kernel
theorem dX12_hasRelation_31 : decode cX12_hasRelation 31 = .ok (.iconst 4, 1) := by decide +kernel
theorem dX12_hasRelation_32 : decode cX12_hasRelation 32 = .ok (.if_icmp .le 9, 3) := by decide +kernel
theorem dX12_hasRelation_35 : decode cX12_hasRelation 35 = .ok (.iinc 1 (-1), 3) := by decide +kernel
theorem dX12_hasRelation_38 : decode cX12_hasRelation 38 = .ok (.goto (-31), 3) := by decide +kernel
theorem dX12_hasRelation_41 : decode cX12_hasRelation 41 = .ok (.iload_n 1, 1) := by decide +kernel
theorem dX12_hasRelation_42 : decode cX12_hasRelation 42 = .ok (.ifCond .lt 31, 3) := by decide +kernel
theorem dX12_hasRelation_45 : decode cX12_hasRelation 45 = .ok (.aload_n 0, 1) := by decide +kernel
theorem dX12_hasRelation_46 : decode cX12_hasRelation 46 = .ok (.getfield 39, 3) := by decide +kernel
theorem dX12_hasRelation_49 : decode cX12_hasRelation 49 = .ok (.iload_n 1, 1) := by decide +kernel
theorem dX12_hasRelation_50 : decode cX12_hasRelation 50 = .ok (.iaload, 1) := by decide +kernel
theorem dX12_hasRelation_51 : decode cX12_hasRelation 51 = .ok (.bipush 20, 2) := by decide +kernel
theorem dX12_hasRelation_53 : decode cX12_hasRelation 53 = .ok (.if_icmp .eq 20, 3) := by decide +kernel
theorem dX12_hasRelation_56 : decode cX12_hasRelation 56 = .ok (.aload_n 0, 1) := by decide +kernel
theorem dX12_hasRelation_57 : decode cX12_hasRelation 57 = .ok (.getfield 39, 3) := by decide +kernel
theorem dX12_hasRelation_60 : decode cX12_hasRelation 60 = .ok (.iload_n 1, 1) := by decide +kernel
theorem dX12_hasRelation_61 : decode cX12_hasRelation 61 = .ok (.iaload, 1) := by decide +kernel
theorem dX12_hasRelation_62 : decode cX12_hasRelation 62 = .ok (.invokestatic 282, 3) := by decide +kernel
theorem dX12_hasRelation_65 : decode cX12_hasRelation 65 = .ok (.iconst 4, 1) := by decide +kernel
theorem dX12_hasRelation_66 : decode cX12_hasRelation 66 = .ok (.if_icmp .ne 7, 3) := by decide +kernel
theorem dX12_hasRelation_69 : decode cX12_hasRelation 69 = .ok (.iconst 1, 1) := by decide +kernel
theorem dX12_hasRelation_70 : decode cX12_hasRelation 70 = .ok (.goto 4, 3) := by decide +kernel
theorem dX12_hasRelation_73 : decode cX12_hasRelation 73 = .ok (.iconst 0, 1) := by decide +kernel
theorem dX12_hasRelation_74 : decode cX12_hasRelation 74 = .ok (.ireturn, 1) := by decide +kernel
theorem dX12_mayNot_0 : decode cX12_mayNot 0 = .ok (.aload_n 0, 1) := by decide +kernel
theorem dX12_mayNot_1 : decode cX12_mayNot 1 = .ok (.getfield 279, 3) := by decide +kernel
theorem dX12_mayNot_4 : decode cX12_mayNot 4 = .ok (.ifCond .eq 37, 3) := by decide +kernel
theorem dX12_mayNot_7 : decode cX12_mayNot 7 = .ok (.aload_n 0, 1) := by decide +kernel
theorem dX12_mayNot_8 : decode cX12_mayNot 8 = .ok (.getfield 39, 3) := by decide +kernel
theorem dX12_mayNot_11 : decode cX12_mayNot 11 = .ok (.aload_n 0, 1) := by decide +kernel
theorem dX12_mayNot_12 : decode cX12_mayNot 12 = .ok (.getfield 279, 3) := by decide +kernel
theorem dX12_mayNot_15 : decode cX12_mayNot 15 = .ok (.iconst 1, 1) := by decide +kernel
theorem dX12_mayNot_16 : decode cX12_mayNot 16 = .ok (.isub, 1) := by decide +kernel
theorem dX12_mayNot_17 : decode cX12_mayNot 17 = .ok (.iaload, 1) := by decide +kernel
theorem dX12_mayNot_18 : decode cX12_mayNot 18 = .ok (.bipush 20, 2) := by decide +kernel
theorem dX12_mayNot_20 : decode cX12_mayNot 20 = .ok (.if_icmp .eq 21, 3) := by decide +kernel
theorem dX12_mayNot_23 : decode cX12_mayNot 23 = .ok (.aload_n 0, 1) := by decide +kernel
theorem dX12_mayNot_24 : decode cX12_mayNot 24 = .ok (.getfield 39, 3) := by decide +kernel
theorem dX12_mayNot_27 : decode cX12_mayNot 27 = .ok (.aload_n 0, 1) := by decide +kernel
theorem dX12_mayNot_28 : decode cX12_mayNot 28 = .ok (.getfield 279, 3) := by decide +kernel
theorem dX12_mayNot_31 : decode cX12_mayNot 31 = .ok (.iconst 1, 1) := by decide +kernel
theorem dX12_mayNot_32 : decode cX12_mayNot 32 = .ok (.isub, 1) := by decide +kernel
theorem dX12_mayNot_33 : decode cX12_mayNot 33 = .ok (.iaload, 1) := by decide +kernel
theorem dX12_mayNot_34 : decode cX12_mayNot 34 = .ok (.invokestatic 282, 3) := by decide +kernel
theorem dX12_mayNot_37 : decode cX12_mayNot 37 = .ok (.iconst 4, 1) := by decide +kernel
theorem dX12_mayNot_38 : decode cX12_mayNot 38 = .ok (.if_icmp .ge 7, 3) := by decide +kernel
theorem dX12_mayNot_41 : decode cX12_mayNot 41 = .ok (.iconst 1, 1) := by decide +kernel
theorem dX12_mayNot_42 : decode cX12_mayNot 42 = .ok (.goto 4, 3) := by decide +kernel
theorem dX12_mayNot_45 : decode cX12_mayNot 45 = .ok (.iconst 0, 1) := by decide +kernel
theorem dX12_mayNot_46 : decode cX12_mayNot 46 = .ok (.ireturn, 1) := by decide +kernel
theorem dX12_asked_0 : decode cX12_asked 0 = .ok (.aload_n 0, 1) := by decide +kernel
theorem dX12_asked_1 : decode cX12_asked 1 = .ok (.getfield 193, 3) := by decide +kernel
theorem dX12_asked_4 : decode cX12_asked 4 = .ok (.iconst 1, 1) := by decide +kernel
theorem dX12_asked_5 : decode cX12_asked 5 = .ok (.if_icmp .eq 5, 3) := by decide +kernel
theorem dX12_asked_8 : decode cX12_asked 8 = .ok (.iconst (-1), 1) := by decide +kernel
theorem dX12_asked_9 : decode cX12_asked 9 = .ok (.ireturn, 1) := by decide +kernel
theorem dX12_asked_10 : decode cX12_asked 10 = .ok (.aload_n 0, 1) := by decide +kernel
theorem dX12_asked_11 : decode cX12_asked 11 = .ok (.getfield 186, 3) := by decide +kernel
theorem dX12_asked_14 : decode cX12_asked 14 = .ok (.ldc2_w 213, 3) := by decide +kernel
theorem dX12_asked_17 : decode cX12_asked 17 = .ok (.lcmp, 1) := by decide +kernel
theorem dX12_asked_18 : decode cX12_asked 18 = .ok (.ifCond .ne 5, 3) := by decide +kernel
theorem dX12_asked_21 : decode cX12_asked 21 = .ok (.iconst 0, 1) := by decide +kernel
theorem dX12_asked_22 : decode cX12_asked 22 = .ok (.ireturn, 1) := by decide +kernel
theorem dX12_asked_23 : decode cX12_asked 23 = .ok (.aload_n 0, 1) := by decide +kernel
theorem dX12_asked_24 : decode cX12_asked 24 = .ok (.getfield 186, 3) := by decide +kernel
theorem dX12_asked_27 : decode cX12_asked 27 = .ok (.ldc2_w 237, 3) := by decide +kernel
theorem dX12_asked_30 : decode cX12_asked 30 = .ok (.lcmp, 1) := by decide +kernel
theorem dX12_asked_31 : decode cX12_asked 31 = .ok (.ifCond .ne 5, 3) := by decide +kernel
theorem dX12_asked_34 : decode cX12_asked 34 = .ok (.iconst 1, 1) := by decide +kernel
theorem dX12_asked_35 : decode cX12_asked 35 = .ok (.ireturn, 1) := by decide +kernel
theorem dX12_asked_36 : decode cX12_asked 36 = .ok (.aload_n 0, 1) := by decide +kernel
theorem dX12_asked_37 : decode cX12_asked 37 = .ok (.getfield 186, 3) := by decide +kernel
theorem dX12_asked_40 : decode cX12_asked 40 = .ok (.ldc2_w 217, 3) := by decide +kernel
theorem dX12_asked_43 : decode cX12_asked 43 = .ok (.lcmp, 1) := by decide +kernel
theorem dX12_asked_44 : decode cX12_asked 44 = .ok (.ifCond .ne 5, 3) := by decide +kernel
theorem dX12_asked_47 : decode cX12_asked 47 = .ok (.iconst 2, 1) := by decide +kernel
theorem dX12_asked_48 : decode cX12_asked 48 = .ok (.ireturn, 1) := by decide +kernel
theorem dX12_asked_49 : decode cX12_asked 49 = .ok (.aload_n 0, 1) := by decide +kernel
theorem dX12_asked_50 : decode cX12_asked 50 = .ok (.getfield 186, 3) := by decide +kernel
theorem dX12_asked_53 : decode cX12_asked 53 = .ok (.ldc2_w 225, 3) := by decide +kernel
theorem dX12_asked_56 : decode cX12_asked 56 = .ok (.lcmp, 1) := by decide +kernel
theorem dX12_asked_57 : decode cX12_asked 57 = .ok (.ifCond .ne 5, 3) := by decide +kernel
theorem dX12_asked_60 : decode cX12_asked 60 = .ok (.iconst 3, 1) := by decide +kernel
theorem dX12_asked_61 : decode cX12_asked 61 = .ok (.ireturn, 1) := by decide +kernel
theorem dX12_asked_62 : decode cX12_asked 62 = .ok (.aload_n 0, 1) := by decide +kernel
theorem dX12_asked_63 : decode cX12_asked 63 = .ok (.getfield 186, 3) := by decide +kernel
theorem dX12_asked_66 : decode cX12_asked 66 = .ok (.ldc2_w 221, 3) := by decide +kernel
theorem dX12_asked_69 : decode cX12_asked 69 = .ok (.lcmp, 1) := by decide +kernel
theorem dX12_asked_70 : decode cX12_asked 70 = .ok (.ifCond .ne 5, 3) := by decide +kernel
theorem dX12_asked_73 : decode cX12_asked 73 = .ok (.iconst 4, 1) := by decide +kernel
theorem dX12_asked_74 : decode cX12_asked 74 = .ok (.ireturn, 1) := by decide +kernel
theorem dX12_asked_75 : decode cX12_asked 75 = .ok (.aload_n 0, 1) := by decide +kernel
theorem dX12_asked_76 : decode cX12_asked 76 = .ok (.getfield 186, 3) := by decide +kernel
theorem dX12_asked_79 : decode cX12_asked 79 = .ok (.ldc2_w 239, 3) := by decide +kernel
theorem dX12_asked_82 : decode cX12_asked 82 = .ok (.lcmp, 1) := by decide +kernel
theorem dX12_asked_83 : decode cX12_asked 83 = .ok (.ifCond .ne 7, 3) := by decide +kernel
theorem dX12_asked_86 : decode cX12_asked 86 = .ok (.iconst 5, 1) := by decide +kernel
theorem dX12_asked_87 : decode cX12_asked 87 = .ok (.goto 4, 3) := by decide +kernel
theorem dX12_asked_90 : decode cX12_asked 90 = .ok (.iconst (-1), 1) := by decide +kernel
theorem dX12_asked_91 : decode cX12_asked 91 = .ok (.ireturn, 1) := by decide +kernel
theorem dX12_isFull_0 : decode cX12_isFull 0 = .ok (.aload_n 0, 1) := by decide +kernel
theorem dX12_isFull_1 : decode cX12_isFull 1 = .ok (.getfield 292, 3) := by decide +kernel
theorem dX12_isFull_4 : decode cX12_isFull 4 = .ok (.bipush 60, 2) := by decide +kernel
theorem dX12_isFull_6 : decode cX12_isFull 6 = .ok (.if_icmp .eq 12, 3) := by decide +kernel
theorem dX12_isFull_9 : decode cX12_isFull 9 = .ok (.aload_n 0, 1) := by decide +kernel
theorem dX12_isFull_10 : decode cX12_isFull 10 = .ok (.getfield 295, 3) := by decide +kernel
theorem dX12_isFull_13 : decode cX12_isFull 13 = .ok (.bipush 30, 2) := by decide +kernel
theorem dX12_isFull_15 : decode cX12_isFull 15 = .ok (.if_icmp .ne 7, 3) := by decide +kernel
theorem dX12_isFull_18 : decode cX12_isFull 18 = .ok (.iconst 1, 1) := by decide +kernel
theorem dX12_isFull_19 : decode cX12_isFull 19 = .ok (.goto 4, 3) := by decide +kernel
theorem dX12_isFull_22 : decode cX12_isFull 22 = .ok (.iconst 0, 1) := by decide +kernel
theorem dX12_isFull_23 : decode cX12_isFull 23 = .ok (.ireturn, 1) := by decide +kernel
theorem dX12_countUnit_0 : decode cX12_countUnit 0 = .ok (.aload_n 0, 1) := by decide +kernel
theorem dX12_countUnit_1 : decode cX12_countUnit 1 = .ok (.dup, 1) := by decide +kernel
theorem dX12_countUnit_2 : decode cX12_countUnit 2 = .ok (.getfield 292, 3) := by decide +kernel
theorem dX12_countUnit_5 : decode cX12_countUnit 5 = .ok (.iconst 1, 1) := by decide +kernel
theorem dX12_countUnit_6 : decode cX12_countUnit 6 = .ok (.iadd, 1) := by decide +kernel
theorem dX12_countUnit_7 : decode cX12_countUnit 7 = .ok (.putfield 292, 3) := by decide +kernel
theorem dX12_countUnit_10 : decode cX12_countUnit 10 = .ok (.aload_n 0, 1) := by decide +kernel
theorem dX12_countUnit_11 : decode cX12_countUnit 11 = .ok (.dup, 1) := by decide +kernel
theorem dX12_countUnit_12 : decode cX12_countUnit 12 = .ok (.getfield 295, 3) := by decide +kernel
theorem dX12_countUnit_15 : decode cX12_countUnit 15 = .ok (.iconst 1, 1) := by decide +kernel
theorem dX12_countUnit_16 : decode cX12_countUnit 16 = .ok (.iadd, 1) := by decide +kernel
theorem dX12_countUnit_17 : decode cX12_countUnit 17 = .ok (.putfield 295, 3) := by decide +kernel
theorem dX12_countUnit_20 : decode cX12_countUnit 20 = .ok (.return_, 1) := by decide +kernel
theorem dX12_openUp_0 : decode cX12_openUp 0 = .ok (.aload_n 0, 1) := by decide +kernel
theorem dX12_openUp_1 : decode cX12_openUp 1 = .ok (.getfield 39, 3) := by decide +kernel
theorem dX12_openUp_4 : decode cX12_openUp 4 = .ok (.aload_n 0, 1) := by decide +kernel
theorem dX12_openUp_5 : decode cX12_openUp 5 = .ok (.getfield 279, 3) := by decide +kernel
theorem dX12_openUp_8 : decode cX12_openUp 8 = .ok (.iload_n 1, 1) := by decide +kernel
theorem dX12_openUp_9 : decode cX12_openUp 9 = .ok (.iastore, 1) := by decide +kernel
theorem dX12_openUp_10 : decode cX12_openUp 10 = .ok (.aload_n 0, 1) := by decide +kernel
theorem dX12_openUp_11 : decode cX12_openUp 11 = .ok (.dup, 1) := by decide +kernel
theorem dX12_openUp_12 : decode cX12_openUp 12 = .ok (.getfield 279, 3) := by decide +kernel
theorem dX12_openUp_15 : decode cX12_openUp 15 = .ok (.iconst 1, 1) := by decide +kernel
theorem dX12_openUp_16 : decode cX12_openUp 16 = .ok (.iadd, 1) := by decide +kernel
theorem dX12_openUp_17 : decode cX12_openUp 17 = .ok (.putfield 279, 3) := by decide +kernel
theorem dX12_openUp_20 : decode cX12_openUp 20 = .ok (.aload_n 0, 1) := by decide +kernel
theorem dX12_openUp_21 : decode cX12_openUp 21 = .ok (.dup, 1) := by decide +kernel
theorem dX12_openUp_22 : decode cX12_openUp 22 = .ok (.getfield 289, 3) := by decide +kernel
theorem dX12_openUp_25 : decode cX12_openUp 25 = .ok (.iconst 1, 1) := by decide +kernel
theorem dX12_openUp_26 : decode cX12_openUp 26 = .ok (.iadd, 1) := by decide +kernel
theorem dX12_openUp_27 : decode cX12_openUp 27 = .ok (.putfield 289, 3) := by decide +kernel
theorem dX12_openUp_30 : decode cX12_openUp 30 = .ok (.aload_n 0, 1) := by decide +kernel
theorem dX12_openUp_31 : decode cX12_openUp 31 = .ok (.getfield 206, 3) := by decide +kernel
theorem dX12_openUp_34 : decode cX12_openUp 34 = .ok (.ifCond .ne 7, 3) := by decide +kernel
theorem dX12_openUp_37 : decode cX12_openUp 37 = .ok (.aload_n 0, 1) := by decide +kernel
theorem dX12_openUp_38 : decode cX12_openUp 38 = .ok (.invokevirtual 258, 3) := by decide +kernel
theorem dX12_openUp_41 : decode cX12_openUp 41 = .ok (.return_, 1) := by decide +kernel
theorem dX12_unit_0 : decode cX12_unit 0 = .ok (.iconst 1, 1) := by decide +kernel
theorem dX12_unit_1 : decode cX12_unit 1 = .ok (.istore_n 1, 1) := by decide +kernel
theorem dX12_unit_2 : decode cX12_unit 2 = .ok (.iload_n 1, 1) := by decide +kernel
theorem dX12_unit_3 : decode cX12_unit 3 = .ok (.ifCond .eq 98, 3) := by decide +kernel
theorem dX12_unit_6 : decode cX12_unit 6 = .ok (.aload_n 0, 1) := by decide +kernel
theorem dX12_unit_7 : decode cX12_unit 7 = .ok (.getfield 206, 3) := by decide +kernel
theorem dX12_unit_10 : decode cX12_unit 10 = .ok (.ifCond .ne 91, 3) := by decide +kernel
theorem dX12_unit_13 : decode cX12_unit 13 = .ok (.aload_n 0, 1) := by decide +kernel
theorem dX12_unit_14 : decode cX12_unit 14 = .ok (.ldc2_w 245, 3) := by decide +kernel
theorem dX12_unit_17 : decode cX12_unit 17 = .ok (.invokevirtual 251, 3) := by decide +kernel
theorem dX12_unit_20 : decode cX12_unit 20 = .ok (.ifCond .eq 33, 3) := by decide +kernel
theorem dX12_unit_23 : decode cX12_unit 23 = .ok (.aload_n 0, 1) := by decide +kernel
theorem dX12_unit_24 : decode cX12_unit 24 = .ok (.invokevirtual 298, 3) := by decide +kernel
theorem dX12_unit_27 : decode cX12_unit 27 = .ok (.ifCond .eq 26, 3) := by decide +kernel
theorem dX12_unit_30 : decode cX12_unit 30 = .ok (.aload_n 0, 1) := by decide +kernel
theorem dX12_unit_31 : decode cX12_unit 31 = .ok (.getfield 289, 3) := by decide +kernel
theorem dX12_unit_34 : decode cX12_unit 34 = .ok (.bipush 6, 2) := by decide +kernel
theorem dX12_unit_36 : decode cX12_unit 36 = .ok (.if_icmp .le 8, 3) := by decide +kernel
theorem dX12_unit_39 : decode cX12_unit 39 = .ok (.aload_n 0, 1) := by decide +kernel
theorem dX12_unit_40 : decode cX12_unit 40 = .ok (.iconst 2, 1) := by decide +kernel
theorem dX12_unit_41 : decode cX12_unit 41 = .ok (.invokevirtual 255, 3) := by decide +kernel
theorem dX12_unit_44 : decode cX12_unit 44 = .ok (.aload_n 0, 1) := by decide +kernel
theorem dX12_unit_45 : decode cX12_unit 45 = .ok (.bipush 21, 2) := by decide +kernel
theorem dX12_unit_47 : decode cX12_unit 47 = .ok (.invokevirtual 301, 3) := by decide +kernel
theorem dX12_unit_50 : decode cX12_unit 50 = .ok (.goto (-48), 3) := by decide +kernel
theorem dX12_unit_53 : decode cX12_unit 53 = .ok (.aload_n 0, 1) := by decide +kernel
theorem dX12_unit_54 : decode cX12_unit 54 = .ok (.getfield 193, 3) := by decide +kernel
theorem dX12_unit_57 : decode cX12_unit 57 = .ok (.bipush 40, 2) := by decide +kernel
theorem dX12_unit_59 : decode cX12_unit 59 = .ok (.if_icmp .ne 37, 3) := by decide +kernel
theorem dX12_unit_62 : decode cX12_unit 62 = .ok (.aload_n 0, 1) := by decide +kernel
theorem dX12_unit_63 : decode cX12_unit 63 = .ok (.invokevirtual 304, 3) := by decide +kernel
theorem dX12_unit_66 : decode cX12_unit 66 = .ok (.ifCond .ne 12, 3) := by decide +kernel
theorem dX12_unit_69 : decode cX12_unit 69 = .ok (.aload_n 0, 1) := by decide +kernel
theorem dX12_unit_70 : decode cX12_unit 70 = .ok (.getfield 289, 3) := by decide +kernel
theorem dX12_unit_73 : decode cX12_unit 73 = .ok (.bipush 6, 2) := by decide +kernel
theorem dX12_unit_75 : decode cX12_unit 75 = .ok (.if_icmp .le 8, 3) := by decide +kernel
theorem dX12_unit_78 : decode cX12_unit 78 = .ok (.aload_n 0, 1) := by decide +kernel
theorem dX12_unit_79 : decode cX12_unit 79 = .ok (.iconst 2, 1) := by decide +kernel
theorem dX12_unit_80 : decode cX12_unit 80 = .ok (.invokevirtual 255, 3) := by decide +kernel
theorem dX12_unit_83 : decode cX12_unit 83 = .ok (.aload_n 0, 1) := by decide +kernel
theorem dX12_unit_84 : decode cX12_unit 84 = .ok (.invokevirtual 307, 3) := by decide +kernel
theorem dX12_unit_87 : decode cX12_unit 87 = .ok (.aload_n 0, 1) := by decide +kernel
theorem dX12_unit_88 : decode cX12_unit 88 = .ok (.bipush 20, 2) := by decide +kernel
theorem dX12_unit_90 : decode cX12_unit 90 = .ok (.invokevirtual 301, 3) := by decide +kernel
theorem dX12_unit_93 : decode cX12_unit 93 = .ok (.goto (-91), 3) := by decide +kernel
theorem dX12_unit_96 : decode cX12_unit 96 = .ok (.iconst 0, 1) := by decide +kernel
theorem dX12_unit_97 : decode cX12_unit 97 = .ok (.istore_n 1, 1) := by decide +kernel
theorem dX12_unit_98 : decode cX12_unit 98 = .ok (.goto (-96), 3) := by decide +kernel
theorem dX12_unit_101 : decode cX12_unit 101 = .ok (.aload_n 0, 1) := by decide +kernel
theorem dX12_unit_102 : decode cX12_unit 102 = .ok (.getfield 206, 3) := by decide +kernel
theorem dX12_unit_105 : decode cX12_unit 105 = .ok (.ifCond .le 4, 3) := by decide +kernel
theorem dX12_unit_108 : decode cX12_unit 108 = .ok (.return_, 1) := by decide +kernel
theorem dX12_unit_109 : decode cX12_unit 109 = .ok (.aload_n 0, 1) := by decide +kernel
theorem dX12_unit_110 : decode cX12_unit 110 = .ok (.invokevirtual 310, 3) := by decide +kernel
theorem dX12_unit_113 : decode cX12_unit 113 = .ok (.istore_n 2, 1) := by decide +kernel
theorem dX12_unit_114 : decode cX12_unit 114 = .ok (.aload_n 0, 1) := by decide +kernel
theorem dX12_unit_115 : decode cX12_unit 115 = .ok (.getfield 193, 3) := by decide +kernel
theorem dX12_unit_118 : decode cX12_unit 118 = .ok (.iconst 2, 1) := by decide +kernel
theorem dX12_unit_119 : decode cX12_unit 119 = .ok (.if_icmp .eq 7, 3) := by decide +kernel
theorem dX12_unit_122 : decode cX12_unit 122 = .ok (.iload_n 2, 1) := by decide +kernel
theorem dX12_unit_123 : decode cX12_unit 123 = .ok (.ifCond .lt 10, 3) := by decide +kernel
theorem dX12_unit_126 : decode cX12_unit 126 = .ok (.aload_n 0, 1) := by decide +kernel
theorem dX12_unit_127 : decode cX12_unit 127 = .ok (.invokevirtual 304, 3) := by decide +kernel
theorem dX12_unit_130 : decode cX12_unit 130 = .ok (.ifCond .eq 8, 3) := by decide +kernel
theorem dX12_unit_133 : decode cX12_unit 133 = .ok (.aload_n 0, 1) := by decide +kernel
theorem dX12_unit_134 : decode cX12_unit 134 = .ok (.iconst 2, 1) := by decide +kernel
theorem dX12_unit_135 : decode cX12_unit 135 = .ok (.invokevirtual 255, 3) := by decide +kernel
theorem dX12_unit_138 : decode cX12_unit 138 = .ok (.aload_n 0, 1) := by decide +kernel
theorem dX12_unit_139 : decode cX12_unit 139 = .ok (.getfield 206, 3) := by decide +kernel
theorem dX12_unit_142 : decode cX12_unit 142 = .ok (.ifCond .le 4, 3) := by decide +kernel
theorem dX12_unit_145 : decode cX12_unit 145 = .ok (.return_, 1) := by decide +kernel
theorem dX12_unit_146 : decode cX12_unit 146 = .ok (.aload_n 0, 1) := by decide +kernel
theorem dX12_unit_147 : decode cX12_unit 147 = .ok (.invokevirtual 307, 3) := by decide +kernel
theorem dX12_unit_150 : decode cX12_unit 150 = .ok (.aload_n 0, 1) := by decide +kernel
theorem dX12_unit_151 : decode cX12_unit 151 = .ok (.iload_n 2, 1) := by decide +kernel
theorem dX12_unit_152 : decode cX12_unit 152 = .ok (.ifCond .ge 7, 3) := by decide +kernel
theorem dX12_unit_155 : decode cX12_unit 155 = .ok (.iconst 0, 1) := by decide +kernel
theorem dX12_unit_156 : decode cX12_unit 156 = .ok (.goto 4, 3) := by decide +kernel
theorem dX12_unit_159 : decode cX12_unit 159 = .ok (.iconst 1, 1) := by decide +kernel
theorem dX12_unit_160 : decode cX12_unit 160 = .ok (.iload_n 2, 1) := by decide +kernel
theorem dX12_unit_161 : decode cX12_unit 161 = .ok (.ifCond .ge 10, 3) := by decide +kernel
theorem dX12_unit_164 : decode cX12_unit 164 = .ok (.aload_n 0, 1) := by decide +kernel
theorem dX12_unit_165 : decode cX12_unit 165 = .ok (.getfield 190, 3) := by decide +kernel
theorem dX12_unit_168 : decode cX12_unit 168 = .ok (.goto 4, 3) := by decide +kernel
theorem dX12_unit_171 : decode cX12_unit 171 = .ok (.iload_n 2, 1) := by decide +kernel
theorem dX12_unit_172 : decode cX12_unit 172 = .ok (.invokevirtual 285, 3) := by decide +kernel
theorem dX12_unit_175 : decode cX12_unit 175 = .ok (.aload_n 0, 1) := by decide +kernel
theorem dX12_unit_176 : decode cX12_unit 176 = .ok (.invokevirtual 258, 3) := by decide +kernel
theorem dX12_unit_179 : decode cX12_unit 179 = .ok (.return_, 1) := by decide +kernel
theorem dX12_sign_0 : decode cX12_sign 0 = .ok (.aload_n 0, 1) := by decide +kernel
theorem dX12_sign_1 : decode cX12_sign 1 = .ok (.ldc2_w 241, 3) := by decide +kernel
theorem dX12_sign_4 : decode cX12_sign 4 = .ok (.invokevirtual 251, 3) := by decide +kernel
theorem dX12_sign_7 : decode cX12_sign 7 = .ok (.ifCond .eq 6, 3) := by decide +kernel
theorem dX12_sign_10 : decode cX12_sign 10 = .ok (.bipush 38, 2) := by decide +kernel
theorem dX12_sign_12 : decode cX12_sign 12 = .ok (.ireturn, 1) := by decide +kernel
theorem dX12_sign_13 : decode cX12_sign 13 = .ok (.aload_n 0, 1) := by decide +kernel
theorem dX12_sign_14 : decode cX12_sign 14 = .ok (.ldc2_w 243, 3) := by decide +kernel
theorem dX12_sign_17 : decode cX12_sign 17 = .ok (.invokevirtual 251, 3) := by decide +kernel
theorem dX12_sign_20 : decode cX12_sign 20 = .ok (.ifCond .eq 6, 3) := by decide +kernel
theorem dX12_sign_23 : decode cX12_sign 23 = .ok (.bipush 124, 2) := by decide +kernel
theorem dX12_sign_25 : decode cX12_sign 25 = .ok (.ireturn, 1) := by decide +kernel
theorem dX12_sign_26 : decode cX12_sign 26 = .ok (.aload_n 0, 1) := by decide +kernel
theorem dX12_sign_27 : decode cX12_sign 27 = .ok (.getfield 193, 3) := by decide +kernel
theorem dX12_sign_30 : decode cX12_sign 30 = .ok (.bipush 60, 2) := by decide +kernel
theorem dX12_sign_32 : decode cX12_sign 32 = .ok (.if_icmp .eq 66, 3) := by decide +kernel
theorem dX12_sign_35 : decode cX12_sign 35 = .ok (.aload_n 0, 1) := by decide +kernel
theorem dX12_sign_36 : decode cX12_sign 36 = .ok (.getfield 193, 3) := by decide +kernel
theorem dX12_sign_39 : decode cX12_sign 39 = .ok (.bipush 62, 2) := by decide +kernel
theorem dX12_sign_41 : decode cX12_sign 41 = .ok (.if_icmp .eq 57, 3) := by decide +kernel
theorem dX12_sign_44 : decode cX12_sign 44 = .ok (.aload_n 0, 1) := by decide +kernel
theorem dX12_sign_45 : decode cX12_sign 45 = .ok (.getfield 193, 3) := by decide +kernel
theorem dX12_sign_48 : decode cX12_sign 48 = .ok (.bipush 61, 2) := by decide +kernel
theorem dX12_sign_50 : decode cX12_sign 50 = .ok (.if_icmp .eq 48, 3) := by decide +kernel
theorem dX12_sign_53 : decode cX12_sign 53 = .ok (.aload_n 0, 1) := by decide +kernel
theorem dX12_sign_54 : decode cX12_sign 54 = .ok (.getfield 193, 3) := by decide +kernel
theorem dX12_sign_57 : decode cX12_sign 57 = .ok (.bipush 43, 2) := by decide +kernel
theorem dX12_sign_59 : decode cX12_sign 59 = .ok (.if_icmp .eq 39, 3) := by decide +kernel
theorem dX12_sign_62 : decode cX12_sign 62 = .ok (.aload_n 0, 1) := by decide +kernel
theorem dX12_sign_63 : decode cX12_sign 63 = .ok (.getfield 193, 3) := by decide +kernel
theorem dX12_sign_66 : decode cX12_sign 66 = .ok (.bipush 45, 2) := by decide +kernel
theorem dX12_sign_68 : decode cX12_sign 68 = .ok (.if_icmp .eq 30, 3) := by decide +kernel
theorem dX12_sign_71 : decode cX12_sign 71 = .ok (.aload_n 0, 1) := by decide +kernel
theorem dX12_sign_72 : decode cX12_sign 72 = .ok (.getfield 193, 3) := by decide +kernel
theorem dX12_sign_75 : decode cX12_sign 75 = .ok (.bipush 42, 2) := by decide +kernel
theorem dX12_sign_77 : decode cX12_sign 77 = .ok (.if_icmp .eq 21, 3) := by decide +kernel
theorem dX12_sign_80 : decode cX12_sign 80 = .ok (.aload_n 0, 1) := by decide +kernel
theorem dX12_sign_81 : decode cX12_sign 81 = .ok (.getfield 193, 3) := by decide +kernel
theorem dX12_sign_84 : decode cX12_sign 84 = .ok (.bipush 47, 2) := by decide +kernel
theorem dX12_sign_86 : decode cX12_sign 86 = .ok (.if_icmp .eq 12, 3) := by decide +kernel
theorem dX12_sign_89 : decode cX12_sign 89 = .ok (.aload_n 0, 1) := by decide +kernel
theorem dX12_sign_90 : decode cX12_sign 90 = .ok (.getfield 193, 3) := by decide +kernel
theorem dX12_sign_93 : decode cX12_sign 93 = .ok (.bipush 37, 2) := by decide +kernel
theorem dX12_sign_95 : decode cX12_sign 95 = .ok (.if_icmp .ne 10, 3) := by decide +kernel
theorem dX12_sign_98 : decode cX12_sign 98 = .ok (.aload_n 0, 1) := by decide +kernel
theorem dX12_sign_99 : decode cX12_sign 99 = .ok (.getfield 193, 3) := by decide +kernel
theorem dX12_sign_102 : decode cX12_sign 102 = .ok (.goto 4, 3) := by decide +kernel
theorem dX12_sign_105 : decode cX12_sign 105 = .ok (.iconst 0, 1) := by decide +kernel
theorem dX12_sign_106 : decode cX12_sign 106 = .ok (.ireturn, 1) := by decide +kernel
theorem dX12_hasBracket_0 : decode cX12_hasBracket 0 = .ok (.iconst 0, 1) := by decide +kernel
theorem dX12_hasBracket_1 : decode cX12_hasBracket 1 = .ok (.istore_n 1, 1) := by decide +kernel
theorem dX12_hasBracket_2 : decode cX12_hasBracket 2 = .ok (.iconst 0, 1) := by decide +kernel
theorem dX12_hasBracket_3 : decode cX12_hasBracket 3 = .ok (.istore_n 2, 1) := by decide +kernel
theorem dX12_hasBracket_4 : decode cX12_hasBracket 4 = .ok (.iload_n 2, 1) := by decide +kernel
theorem dX12_hasBracket_5 : decode cX12_hasBracket 5 = .ok (.aload_n 0, 1) := by decide +kernel
theorem dX12_hasBracket_6 : decode cX12_hasBracket 6 = .ok (.getfield 279, 3) := by decide +kernel
theorem dX12_hasBracket_9 : decode cX12_hasBracket 9 = .ok (.if_icmp .ge 30, 3) := by decide +kernel
theorem dX12_hasBracket_12 : decode cX12_hasBracket 12 = .ok (.iload_n 1, 1) := by decide +kernel
theorem dX12_hasBracket_13 : decode cX12_hasBracket 13 = .ok (.ifCond .ne 14, 3) := by decide +kernel
theorem dX12_hasBracket_16 : decode cX12_hasBracket 16 = .ok (.aload_n 0, 1) := by decide +kernel
theorem dX12_hasBracket_17 : decode cX12_hasBracket 17 = .ok (.getfield 39, 3) := by decide +kernel
theorem dX12_hasBracket_20 : decode cX12_hasBracket 20 = .ok (.iload_n 2, 1) := by decide +kernel
theorem dX12_hasBracket_21 : decode cX12_hasBracket 21 = .ok (.iaload, 1) := by decide +kernel
theorem dX12_hasBracket_22 : decode cX12_hasBracket 22 = .ok (.bipush 20, 2) := by decide +kernel
theorem dX12_hasBracket_24 : decode cX12_hasBracket 24 = .ok (.if_icmp .ne 7, 3) := by decide +kernel
theorem dX12_hasBracket_27 : decode cX12_hasBracket 27 = .ok (.iconst 1, 1) := by decide +kernel
theorem dX12_hasBracket_28 : decode cX12_hasBracket 28 = .ok (.goto 4, 3) := by decide +kernel
theorem dX12_hasBracket_31 : decode cX12_hasBracket 31 = .ok (.iconst 0, 1) := by decide +kernel
theorem dX12_hasBracket_32 : decode cX12_hasBracket 32 = .ok (.istore_n 1, 1) := by decide +kernel
theorem dX12_hasBracket_33 : decode cX12_hasBracket 33 = .ok (.iinc 2 1, 3) := by decide +kernel
theorem dX12_hasBracket_36 : decode cX12_hasBracket 36 = .ok (.goto (-32), 3) := by decide +kernel
theorem dX12_hasBracket_39 : decode cX12_hasBracket 39 = .ok (.iload_n 1, 1) := by decide +kernel
theorem dX12_hasBracket_40 : decode cX12_hasBracket 40 = .ok (.ireturn, 1) := by decide +kernel
theorem dX12_formula_0 : decode cX12_formula 0 = .ok (.aload_n 0, 1) := by decide +kernel
theorem dX12_formula_1 : decode cX12_formula 1 = .ok (.invokevirtual 258, 3) := by decide +kernel
theorem dX12_formula_4 : decode cX12_formula 4 = .ok (.aload_n 0, 1) := by decide +kernel
theorem dX12_formula_5 : decode cX12_formula 5 = .ok (.iload_n 1, 1) := by decide +kernel
theorem dX12_formula_6 : decode cX12_formula 6 = .ok (.putfield 276, 3) := by decide +kernel
theorem dX12_formula_9 : decode cX12_formula 9 = .ok (.aload_n 0, 1) := by decide +kernel
theorem dX12_formula_10 : decode cX12_formula 10 = .ok (.getfield 45, 3) := by decide +kernel
theorem dX12_formula_13 : decode cX12_formula 13 = .ok (.aload_n 0, 1) := by decide +kernel
theorem dX12_formula_14 : decode cX12_formula 14 = .ok (.getfield 276, 3) := by decide +kernel
theorem dX12_formula_17 : decode cX12_formula 17 = .ok (.iconst 1, 1) := by decide +kernel
theorem dX12_formula_18 : decode cX12_formula 18 = .ok (.bastore, 1) := by decide +kernel
theorem dX12_formula_19 : decode cX12_formula 19 = .ok (.aload_n 0, 1) := by decide +kernel
theorem dX12_formula_20 : decode cX12_formula 20 = .ok (.getfield 27, 3) := by decide +kernel
theorem dX12_formula_23 : decode cX12_formula 23 = .ok (.aload_n 0, 1) := by decide +kernel
theorem dX12_formula_24 : decode cX12_formula 24 = .ok (.getfield 276, 3) := by decide +kernel
theorem dX12_formula_27 : decode cX12_formula 27 = .ok (.iconst 0, 1) := by decide +kernel
theorem dX12_formula_28 : decode cX12_formula 28 = .ok (.iastore, 1) := by decide +kernel
theorem dX12_formula_29 : decode cX12_formula 29 = .ok (.aload_n 0, 1) := by decide +kernel
theorem dX12_formula_30 : decode cX12_formula 30 = .ok (.iconst 0, 1) := by decide +kernel
theorem dX12_formula_31 : decode cX12_formula 31 = .ok (.putfield 279, 3) := by decide +kernel
theorem dX12_formula_34 : decode cX12_formula 34 = .ok (.aload_n 0, 1) := by decide +kernel
theorem dX12_formula_35 : decode cX12_formula 35 = .ok (.iconst 0, 1) := by decide +kernel
theorem dX12_formula_36 : decode cX12_formula 36 = .ok (.putfield 289, 3) := by decide +kernel
theorem dX12_formula_39 : decode cX12_formula 39 = .ok (.aload_n 0, 1) := by decide +kernel
theorem dX12_formula_40 : decode cX12_formula 40 = .ok (.iconst 0, 1) := by decide +kernel
theorem dX12_formula_41 : decode cX12_formula 41 = .ok (.putfield 295, 3) := by decide +kernel
theorem dX12_formula_44 : decode cX12_formula 44 = .ok (.aload_n 0, 1) := by decide +kernel
theorem dX12_formula_45 : decode cX12_formula 45 = .ok (.invokevirtual 314, 3) := by decide +kernel
theorem dX12_formula_48 : decode cX12_formula 48 = .ok (.iconst 1, 1) := by decide +kernel
theorem dX12_formula_49 : decode cX12_formula 49 = .ok (.istore_n 2, 1) := by decide +kernel
theorem dX12_formula_50 : decode cX12_formula 50 = .ok (.iload_n 2, 1) := by decide +kernel
theorem dX12_formula_51 : decode cX12_formula 51 = .ok (.ifCond .eq 126, 3) := by decide +kernel
theorem dX12_formula_54 : decode cX12_formula 54 = .ok (.aload_n 0, 1) := by decide +kernel
theorem dX12_formula_55 : decode cX12_formula 55 = .ok (.getfield 206, 3) := by decide +kernel
theorem dX12_formula_58 : decode cX12_formula 58 = .ok (.ifCond .ne 119, 3) := by decide +kernel
theorem dX12_formula_61 : decode cX12_formula 61 = .ok (.aload_n 0, 1) := by decide +kernel
theorem dX12_formula_62 : decode cX12_formula 62 = .ok (.invokevirtual 317, 3) := by decide +kernel
theorem dX12_formula_65 : decode cX12_formula 65 = .ok (.istore_n 3, 1) := by decide +kernel
theorem dX12_formula_66 : decode cX12_formula 66 = .ok (.aload_n 0, 1) := by decide +kernel
theorem dX12_formula_67 : decode cX12_formula 67 = .ok (.getfield 193, 3) := by decide +kernel
theorem dX12_formula_70 : decode cX12_formula 70 = .ok (.bipush 41, 2) := by decide +kernel
theorem dX12_formula_72 : decode cX12_formula 72 = .ok (.if_icmp .ne 42, 3) := by decide +kernel
theorem dX12_formula_75 : decode cX12_formula 75 = .ok (.aload_n 0, 1) := by decide +kernel
theorem dX12_formula_76 : decode cX12_formula 76 = .ok (.invokevirtual 320, 3) := by decide +kernel
theorem dX12_formula_79 : decode cX12_formula 79 = .ok (.ifCond .eq 35, 3) := by decide +kernel
theorem dX12_formula_82 : decode cX12_formula 82 = .ok (.aload_n 0, 1) := by decide +kernel
theorem dX12_formula_83 : decode cX12_formula 83 = .ok (.iconst 0, 1) := by decide +kernel
theorem dX12_formula_84 : decode cX12_formula 84 = .ok (.invokevirtual 323, 3) := by decide +kernel
theorem dX12_formula_87 : decode cX12_formula 87 = .ok (.aload_n 0, 1) := by decide +kernel
theorem dX12_formula_88 : decode cX12_formula 88 = .ok (.dup, 1) := by decide +kernel
theorem dX12_formula_89 : decode cX12_formula 89 = .ok (.getfield 279, 3) := by decide +kernel
theorem dX12_formula_92 : decode cX12_formula 92 = .ok (.iconst 1, 1) := by decide +kernel
theorem dX12_formula_93 : decode cX12_formula 93 = .ok (.isub, 1) := by decide +kernel
theorem dX12_formula_94 : decode cX12_formula 94 = .ok (.putfield 279, 3) := by decide +kernel
theorem dX12_formula_97 : decode cX12_formula 97 = .ok (.aload_n 0, 1) := by decide +kernel
theorem dX12_formula_98 : decode cX12_formula 98 = .ok (.dup, 1) := by decide +kernel
theorem dX12_formula_99 : decode cX12_formula 99 = .ok (.getfield 289, 3) := by decide +kernel
theorem dX12_formula_102 : decode cX12_formula 102 = .ok (.iconst 1, 1) := by decide +kernel
theorem dX12_formula_103 : decode cX12_formula 103 = .ok (.isub, 1) := by decide +kernel
theorem dX12_formula_104 : decode cX12_formula 104 = .ok (.putfield 289, 3) := by decide +kernel
theorem dX12_formula_107 : decode cX12_formula 107 = .ok (.aload_n 0, 1) := by decide +kernel
theorem dX12_formula_108 : decode cX12_formula 108 = .ok (.invokevirtual 258, 3) := by decide +kernel
theorem dX12_formula_111 : decode cX12_formula 111 = .ok (.goto 63, 3) := by decide +kernel
theorem dX12_formula_114 : decode cX12_formula 114 = .ok (.iload_n 3, 1) := by decide +kernel
theorem dX12_formula_115 : decode cX12_formula 115 = .ok (.ifCond .eq 57, 3) := by decide +kernel
theorem dX12_formula_118 : decode cX12_formula 118 = .ok (.iload_n 3, 1) := by decide +kernel
theorem dX12_formula_119 : decode cX12_formula 119 = .ok (.invokestatic 282, 3) := by decide +kernel
theorem dX12_formula_122 : decode cX12_formula 122 = .ok (.iconst 4, 1) := by decide +kernel
theorem dX12_formula_123 : decode cX12_formula 123 = .ok (.if_icmp .ne 10, 3) := by decide +kernel
theorem dX12_formula_126 : decode cX12_formula 126 = .ok (.aload_n 0, 1) := by decide +kernel
theorem dX12_formula_127 : decode cX12_formula 127 = .ok (.invokevirtual 326, 3) := by decide +kernel
theorem dX12_formula_130 : decode cX12_formula 130 = .ok (.ifCond .ne 42, 3) := by decide +kernel
theorem dX12_formula_133 : decode cX12_formula 133 = .ok (.aload_n 0, 1) := by decide +kernel
theorem dX12_formula_134 : decode cX12_formula 134 = .ok (.iload_n 3, 1) := by decide +kernel
theorem dX12_formula_135 : decode cX12_formula 135 = .ok (.invokestatic 282, 3) := by decide +kernel
theorem dX12_formula_138 : decode cX12_formula 138 = .ok (.invokevirtual 323, 3) := by decide +kernel
theorem dX12_formula_141 : decode cX12_formula 141 = .ok (.aload_n 0, 1) := by decide +kernel
theorem dX12_formula_142 : decode cX12_formula 142 = .ok (.getfield 39, 3) := by decide +kernel
theorem dX12_formula_145 : decode cX12_formula 145 = .ok (.aload_n 0, 1) := by decide +kernel
theorem dX12_formula_146 : decode cX12_formula 146 = .ok (.getfield 279, 3) := by decide +kernel
theorem dX12_formula_149 : decode cX12_formula 149 = .ok (.iload_n 3, 1) := by decide +kernel
theorem dX12_formula_150 : decode cX12_formula 150 = .ok (.iastore, 1) := by decide +kernel
theorem dX12_formula_151 : decode cX12_formula 151 = .ok (.aload_n 0, 1) := by decide +kernel
theorem dX12_formula_152 : decode cX12_formula 152 = .ok (.dup, 1) := by decide +kernel
theorem dX12_formula_153 : decode cX12_formula 153 = .ok (.getfield 279, 3) := by decide +kernel
theorem dX12_formula_156 : decode cX12_formula 156 = .ok (.iconst 1, 1) := by decide +kernel
theorem dX12_formula_157 : decode cX12_formula 157 = .ok (.iadd, 1) := by decide +kernel
theorem dX12_formula_158 : decode cX12_formula 158 = .ok (.putfield 279, 3) := by decide +kernel
theorem dX12_formula_161 : decode cX12_formula 161 = .ok (.aload_n 0, 1) := by decide +kernel
theorem dX12_formula_162 : decode cX12_formula 162 = .ok (.invokevirtual 258, 3) := by decide +kernel
theorem dX12_formula_165 : decode cX12_formula 165 = .ok (.aload_n 0, 1) := by decide +kernel
theorem dX12_formula_166 : decode cX12_formula 166 = .ok (.invokevirtual 314, 3) := by decide +kernel
theorem dX12_formula_169 : decode cX12_formula 169 = .ok (.goto 5, 3) := by decide +kernel
theorem dX12_formula_172 : decode cX12_formula 172 = .ok (.iconst 0, 1) := by decide +kernel
theorem dX12_formula_173 : decode cX12_formula 173 = .ok (.istore_n 2, 1) := by decide +kernel
theorem dX12_formula_174 : decode cX12_formula 174 = .ok (.goto (-124), 3) := by decide +kernel
theorem dX12_formula_177 : decode cX12_formula 177 = .ok (.aload_n 0, 1) := by decide +kernel
theorem dX12_formula_178 : decode cX12_formula 178 = .ok (.getfield 206, 3) := by decide +kernel
theorem dX12_formula_181 : decode cX12_formula 181 = .ok (.ifCond .ne 15, 3) := by decide +kernel
theorem dX12_formula_184 : decode cX12_formula 184 = .ok (.aload_n 0, 1) := by decide +kernel
theorem dX12_formula_185 : decode cX12_formula 185 = .ok (.invokevirtual 320, 3) := by decide +kernel
theorem dX12_formula_188 : decode cX12_formula 188 = .ok (.ifCond .eq 8, 3) := by decide +kernel
theorem dX12_formula_191 : decode cX12_formula 191 = .ok (.aload_n 0, 1) := by decide +kernel
theorem dX12_formula_192 : decode cX12_formula 192 = .ok (.iconst 2, 1) := by decide +kernel
theorem dX12_formula_193 : decode cX12_formula 193 = .ok (.invokevirtual 255, 3) := by decide +kernel
theorem dX12_formula_196 : decode cX12_formula 196 = .ok (.aload_n 0, 1) := by decide +kernel
theorem dX12_formula_197 : decode cX12_formula 197 = .ok (.getfield 206, 3) := by decide +kernel
theorem dX12_formula_200 : decode cX12_formula 200 = .ok (.ifCond .ne 8, 3) := by decide +kernel
theorem dX12_formula_203 : decode cX12_formula 203 = .ok (.aload_n 0, 1) := by decide +kernel
theorem dX12_formula_204 : decode cX12_formula 204 = .ok (.iconst 0, 1) := by decide +kernel
theorem dX12_formula_205 : decode cX12_formula 205 = .ok (.invokevirtual 323, 3) := by decide +kernel
theorem dX12_formula_208 : decode cX12_formula 208 = .ok (.return_, 1) := by decide +kernel
theorem dX12_truth_0 : decode cX12_truth 0 = .ok (.iload_n 0, 1) := by decide +kernel
theorem dX12_truth_1 : decode cX12_truth 1 = .ok (.ifCond .eq 7, 3) := by decide +kernel
theorem dX12_truth_4 : decode cX12_truth 4 = .ok (.iconst 1, 1) := by decide +kernel
theorem dX12_truth_5 : decode cX12_truth 5 = .ok (.goto 4, 3) := by decide +kernel
theorem dX12_truth_8 : decode cX12_truth 8 = .ok (.iconst 0, 1) := by decide +kernel
theorem dX12_truth_9 : decode cX12_truth 9 = .ok (.ireturn, 1) := by decide +kernel
theorem dX12_done_0 : decode cX12_done 0 = .ok (.iload_n 0, 1) := by decide +kernel
theorem dX12_done_1 : decode cX12_done 1 = .ok (.tableswitch 214 37 62 #[143, 197, 214, 214, 214, 127, 119, 214, 123, 214, 131, 214, 214, 214, 214, 214, 214, 214, 214, 214, 214, 214, 214, 155, 183, 169], 119) := by decide +kernel
theorem dX12_done_120 : decode cX12_done 120 = .ok (.iload_n 1, 1) := by decide +kernel
theorem dX12_done_121 : decode cX12_done 121 = .ok (.iload_n 2, 1) := by decide +kernel
theorem dX12_done_122 : decode cX12_done 122 = .ok (.iadd, 1) := by decide +kernel
theorem dX12_done_123 : decode cX12_done 123 = .ok (.ireturn, 1) := by decide +kernel
theorem dX12_done_124 : decode cX12_done 124 = .ok (.iload_n 1, 1) := by decide +kernel
theorem dX12_done_125 : decode cX12_done 125 = .ok (.iload_n 2, 1) := by decide +kernel
theorem dX12_done_126 : decode cX12_done 126 = .ok (.isub, 1) := by decide +kernel
theorem dX12_done_127 : decode cX12_done 127 = .ok (.ireturn, 1) := by decide +kernel
theorem dX12_done_128 : decode cX12_done 128 = .ok (.iload_n 1, 1) := by decide +kernel
theorem dX12_done_129 : decode cX12_done 129 = .ok (.iload_n 2, 1) := by decide +kernel
theorem dX12_done_130 : decode cX12_done 130 = .ok (.imul, 1) := by decide +kernel
theorem dX12_done_131 : decode cX12_done 131 = .ok (.ireturn, 1) := by decide +kernel
theorem dX12_done_132 : decode cX12_done 132 = .ok (.iload_n 2, 1) := by decide +kernel
theorem dX12_done_133 : decode cX12_done 133 = .ok (.ifCond .ne 7, 3) := by decide +kernel
theorem dX12_done_136 : decode cX12_done 136 = .ok (.iconst 0, 1) := by decide +kernel
theorem dX12_done_137 : decode cX12_done 137 = .ok (.goto 6, 3) := by decide +kernel
theorem dX12_done_140 : decode cX12_done 140 = .ok (.iload_n 1, 1) := by decide +kernel
theorem dX12_done_141 : decode cX12_done 141 = .ok (.iload_n 2, 1) := by decide +kernel
theorem dX12_done_142 : decode cX12_done 142 = .ok (.idiv, 1) := by decide +kernel
theorem dX12_done_143 : decode cX12_done 143 = .ok (.ireturn, 1) := by decide +kernel
theorem dX12_done_144 : decode cX12_done 144 = .ok (.iload_n 2, 1) := by decide +kernel
theorem dX12_done_145 : decode cX12_done 145 = .ok (.ifCond .ne 7, 3) := by decide +kernel
theorem dX12_done_148 : decode cX12_done 148 = .ok (.iconst 0, 1) := by decide +kernel
theorem dX12_done_149 : decode cX12_done 149 = .ok (.goto 6, 3) := by decide +kernel
theorem dX12_done_152 : decode cX12_done 152 = .ok (.iload_n 1, 1) := by decide +kernel
theorem dX12_done_153 : decode cX12_done 153 = .ok (.iload_n 2, 1) := by decide +kernel
theorem dX12_done_154 : decode cX12_done 154 = .ok (.irem, 1) := by decide +kernel
theorem dX12_done_155 : decode cX12_done 155 = .ok (.ireturn, 1) := by decide +kernel
theorem dX12_done_156 : decode cX12_done 156 = .ok (.iload_n 1, 1) := by decide +kernel
theorem dX12_done_157 : decode cX12_done 157 = .ok (.iload_n 2, 1) := by decide +kernel
theorem dX12_done_158 : decode cX12_done 158 = .ok (.if_icmp .ge 7, 3) := by decide +kernel
theorem dX12_done_161 : decode cX12_done 161 = .ok (.iconst 1, 1) := by decide +kernel
theorem dX12_done_162 : decode cX12_done 162 = .ok (.goto 4, 3) := by decide +kernel
theorem dX12_done_165 : decode cX12_done 165 = .ok (.iconst 0, 1) := by decide +kernel
theorem dX12_done_166 : decode cX12_done 166 = .ok (.invokestatic 329, 3) := by decide +kernel
theorem dX12_done_169 : decode cX12_done 169 = .ok (.ireturn, 1) := by decide +kernel
theorem dX12_done_170 : decode cX12_done 170 = .ok (.iload_n 1, 1) := by decide +kernel
theorem dX12_done_171 : decode cX12_done 171 = .ok (.iload_n 2, 1) := by decide +kernel
theorem dX12_done_172 : decode cX12_done 172 = .ok (.if_icmp .le 7, 3) := by decide +kernel
theorem dX12_done_175 : decode cX12_done 175 = .ok (.iconst 1, 1) := by decide +kernel
theorem dX12_done_176 : decode cX12_done 176 = .ok (.goto 4, 3) := by decide +kernel
theorem dX12_done_179 : decode cX12_done 179 = .ok (.iconst 0, 1) := by decide +kernel
theorem dX12_done_180 : decode cX12_done 180 = .ok (.invokestatic 329, 3) := by decide +kernel
theorem dX12_done_183 : decode cX12_done 183 = .ok (.ireturn, 1) := by decide +kernel
theorem dX12_done_184 : decode cX12_done 184 = .ok (.iload_n 1, 1) := by decide +kernel
theorem dX12_done_185 : decode cX12_done 185 = .ok (.iload_n 2, 1) := by decide +kernel
theorem dX12_done_186 : decode cX12_done 186 = .ok (.if_icmp .ne 7, 3) := by decide +kernel
theorem dX12_done_189 : decode cX12_done 189 = .ok (.iconst 1, 1) := by decide +kernel
theorem dX12_done_190 : decode cX12_done 190 = .ok (.goto 4, 3) := by decide +kernel
theorem dX12_done_193 : decode cX12_done 193 = .ok (.iconst 0, 1) := by decide +kernel
theorem dX12_done_194 : decode cX12_done 194 = .ok (.invokestatic 329, 3) := by decide +kernel
theorem dX12_done_197 : decode cX12_done 197 = .ok (.ireturn, 1) := by decide +kernel
theorem dX12_done_198 : decode cX12_done 198 = .ok (.iload_n 1, 1) := by decide +kernel
theorem dX12_done_199 : decode cX12_done 199 = .ok (.ifCond .eq 11, 3) := by decide +kernel
theorem dX12_done_202 : decode cX12_done 202 = .ok (.iload_n 2, 1) := by decide +kernel
theorem dX12_done_203 : decode cX12_done 203 = .ok (.ifCond .eq 7, 3) := by decide +kernel
theorem dX12_done_206 : decode cX12_done 206 = .ok (.iconst 1, 1) := by decide +kernel
theorem dX12_done_207 : decode cX12_done 207 = .ok (.goto 4, 3) := by decide +kernel
theorem dX12_done_210 : decode cX12_done 210 = .ok (.iconst 0, 1) := by decide +kernel
theorem dX12_done_211 : decode cX12_done 211 = .ok (.invokestatic 329, 3) := by decide +kernel
theorem dX12_done_214 : decode cX12_done 214 = .ok (.ireturn, 1) := by decide +kernel
theorem dX12_done_215 : decode cX12_done 215 = .ok (.iload_n 1, 1) := by decide +kernel
theorem dX12_done_216 : decode cX12_done 216 = .ok (.ifCond .ne 7, 3) := by decide +kernel
theorem dX12_done_219 : decode cX12_done 219 = .ok (.iload_n 2, 1) := by decide +kernel
theorem dX12_done_220 : decode cX12_done 220 = .ok (.ifCond .eq 7, 3) := by decide +kernel
theorem dX12_done_223 : decode cX12_done 223 = .ok (.iconst 1, 1) := by decide +kernel
theorem dX12_done_224 : decode cX12_done 224 = .ok (.goto 4, 3) := by decide +kernel
theorem dX12_done_227 : decode cX12_done 227 = .ok (.iconst 0, 1) := by decide +kernel
theorem dX12_done_228 : decode cX12_done 228 = .ok (.invokestatic 329, 3) := by decide +kernel
theorem dX12_done_231 : decode cX12_done 231 = .ok (.ireturn, 1) := by decide +kernel
theorem dX12_within_0 : decode cX12_within 0 = .ok (.iload_n 0, 1) := by decide +kernel
theorem dX12_within_1 : decode cX12_within 1 = .ok (.ifCond .ge 7, 3) := by decide +kernel
theorem dX12_within_4 : decode cX12_within 4 = .ok (.iconst 0, 1) := by decide +kernel
theorem dX12_within_5 : decode cX12_within 5 = .ok (.goto 13, 3) := by decide +kernel
theorem dX12_within_8 : decode cX12_within 8 = .ok (.iload_n 0, 1) := by decide +kernel
theorem dX12_within_9 : decode cX12_within 9 = .ok (.iload_n 1, 1) := by decide +kernel
theorem dX12_within_10 : decode cX12_within 10 = .ok (.if_icmp .le 7, 3) := by decide +kernel
theorem dX12_within_13 : decode cX12_within 13 = .ok (.iload_n 1, 1) := by decide +kernel
theorem dX12_within_14 : decode cX12_within 14 = .ok (.goto 4, 3) := by decide +kernel
theorem dX12_within_17 : decode cX12_within 17 = .ok (.iload_n 0, 1) := by decide +kernel
theorem dX12_within_18 : decode cX12_within 18 = .ok (.ireturn, 1) := by decide +kernel
theorem dX12_heavyOf_0 : decode cX12_heavyOf 0 = .ok (.aload_n 0, 1) := by decide +kernel
theorem dX12_heavyOf_1 : decode cX12_heavyOf 1 = .ok (.getfield 79, 3) := by decide +kernel
theorem dX12_heavyOf_4 : decode cX12_heavyOf 4 = .ok (.iload_n 1, 1) := by decide +kernel
theorem dX12_heavyOf_5 : decode cX12_heavyOf 5 = .ok (.iaload, 1) := by decide +kernel
theorem dX12_heavyOf_6 : decode cX12_heavyOf 6 = .ok (.aload_n 0, 1) := by decide +kernel
theorem dX12_heavyOf_7 : decode cX12_heavyOf 7 = .ok (.getfield 333, 3) := by decide +kernel
theorem dX12_heavyOf_10 : decode cX12_heavyOf 10 = .ok (.iadd, 1) := by decide +kernel
theorem dX12_heavyOf_11 : decode cX12_heavyOf 11 = .ok (.ifCond .ge 7, 3) := by decide +kernel
theorem dX12_heavyOf_14 : decode cX12_heavyOf 14 = .ok (.iconst 0, 1) := by decide +kernel
theorem dX12_heavyOf_15 : decode cX12_heavyOf 15 = .ok (.goto 14, 3) := by decide +kernel
theorem dX12_heavyOf_18 : decode cX12_heavyOf 18 = .ok (.aload_n 0, 1) := by decide +kernel
theorem dX12_heavyOf_19 : decode cX12_heavyOf 19 = .ok (.getfield 79, 3) := by decide +kernel
theorem dX12_heavyOf_22 : decode cX12_heavyOf 22 = .ok (.iload_n 1, 1) := by decide +kernel
theorem dX12_heavyOf_23 : decode cX12_heavyOf 23 = .ok (.iaload, 1) := by decide +kernel
theorem dX12_heavyOf_24 : decode cX12_heavyOf 24 = .ok (.aload_n 0, 1) := by decide +kernel
theorem dX12_heavyOf_25 : decode cX12_heavyOf 25 = .ok (.getfield 333, 3) := by decide +kernel
theorem dX12_heavyOf_28 : decode cX12_heavyOf 28 = .ok (.iadd, 1) := by decide +kernel
theorem dX12_heavyOf_29 : decode cX12_heavyOf 29 = .ok (.ireturn, 1) := by decide +kernel
theorem dX12_worked_0 : decode cX12_worked 0 = .ok (.aload_n 0, 1) := by decide +kernel
theorem dX12_worked_1 : decode cX12_worked 1 = .ok (.getfield 49, 3) := by decide +kernel
theorem dX12_worked_4 : decode cX12_worked 4 = .ok (.iconst 0, 1) := by decide +kernel
theorem dX12_worked_5 : decode cX12_worked 5 = .ok (.aload_n 0, 1) := by decide +kernel
theorem dX12_worked_6 : decode cX12_worked 6 = .ok (.iload_n 3, 1) := by decide +kernel
theorem dX12_worked_7 : decode cX12_worked 7 = .ok (.invokevirtual 336, 3) := by decide +kernel
theorem dX12_worked_10 : decode cX12_worked 10 = .ok (.iastore, 1) := by decide +kernel
theorem dX12_worked_11 : decode cX12_worked 11 = .ok (.aload_n 0, 1) := by decide +kernel
theorem dX12_worked_12 : decode cX12_worked 12 = .ok (.getfield 49, 3) := by decide +kernel
theorem dX12_worked_15 : decode cX12_worked 15 = .ok (.iconst 1, 1) := by decide +kernel
theorem dX12_worked_16 : decode cX12_worked 16 = .ok (.iload 4, 2) := by decide +kernel
theorem dX12_worked_18 : decode cX12_worked 18 = .ok (.iastore, 1) := by decide +kernel
theorem dX12_worked_19 : decode cX12_worked 19 = .ok (.aload_n 0, 1) := by decide +kernel
theorem dX12_worked_20 : decode cX12_worked 20 = .ok (.getfield 49, 3) := by decide +kernel
theorem dX12_worked_23 : decode cX12_worked 23 = .ok (.iconst 2, 1) := by decide +kernel
theorem dX12_worked_24 : decode cX12_worked 24 = .ok (.aload_n 0, 1) := by decide +kernel
theorem dX12_worked_25 : decode cX12_worked 25 = .ok (.getfield 85, 3) := by decide +kernel
theorem dX12_worked_28 : decode cX12_worked 28 = .ok (.iload_n 3, 1) := by decide +kernel
theorem dX12_worked_29 : decode cX12_worked 29 = .ok (.iaload, 1) := by decide +kernel
theorem dX12_worked_30 : decode cX12_worked 30 = .ok (.iastore, 1) := by decide +kernel
theorem dX12_worked_31 : decode cX12_worked 31 = .ok (.aload_n 0, 1) := by decide +kernel
theorem dX12_worked_32 : decode cX12_worked 32 = .ok (.getfield 49, 3) := by decide +kernel
theorem dX12_worked_35 : decode cX12_worked 35 = .ok (.iconst 3, 1) := by decide +kernel
theorem dX12_worked_36 : decode cX12_worked 36 = .ok (.aload_n 0, 1) := by decide +kernel
theorem dX12_worked_37 : decode cX12_worked 37 = .ok (.getfield 106, 3) := by decide +kernel
theorem dX12_worked_40 : decode cX12_worked 40 = .ok (.iconst 5, 1) := by decide +kernel
theorem dX12_worked_41 : decode cX12_worked 41 = .ok (.iload_n 2, 1) := by decide +kernel
theorem dX12_worked_42 : decode cX12_worked 42 = .ok (.iadd, 1) := by decide +kernel
theorem dX12_worked_43 : decode cX12_worked 43 = .ok (.iaload, 1) := by decide +kernel
theorem dX12_worked_44 : decode cX12_worked 44 = .ok (.iastore, 1) := by decide +kernel
theorem dX12_worked_45 : decode cX12_worked 45 = .ok (.aload_n 0, 1) := by decide +kernel
theorem dX12_worked_46 : decode cX12_worked 46 = .ok (.getfield 49, 3) := by decide +kernel
theorem dX12_worked_49 : decode cX12_worked 49 = .ok (.iconst 4, 1) := by decide +kernel
theorem dX12_worked_50 : decode cX12_worked 50 = .ok (.aload_n 0, 1) := by decide +kernel
theorem dX12_worked_51 : decode cX12_worked 51 = .ok (.getfield 106, 3) := by decide +kernel
theorem dX12_worked_54 : decode cX12_worked 54 = .ok (.iload_n 2, 1) := by decide +kernel
theorem dX12_worked_55 : decode cX12_worked 55 = .ok (.iaload, 1) := by decide +kernel
theorem dX12_worked_56 : decode cX12_worked 56 = .ok (.iastore, 1) := by decide +kernel
theorem dX12_worked_57 : decode cX12_worked 57 = .ok (.aload_n 0, 1) := by decide +kernel
theorem dX12_worked_58 : decode cX12_worked 58 = .ok (.getfield 49, 3) := by decide +kernel
theorem dX12_worked_61 : decode cX12_worked 61 = .ok (.iconst 5, 1) := by decide +kernel
theorem dX12_worked_62 : decode cX12_worked 62 = .ok (.aload_n 0, 1) := by decide +kernel
theorem dX12_worked_63 : decode cX12_worked 63 = .ok (.getfield 106, 3) := by decide +kernel
theorem dX12_worked_66 : decode cX12_worked 66 = .ok (.bipush 20, 2) := by decide +kernel
theorem dX12_worked_68 : decode cX12_worked 68 = .ok (.iaload, 1) := by decide +kernel
theorem dX12_worked_69 : decode cX12_worked 69 = .ok (.iastore, 1) := by decide +kernel
theorem dX12_worked_70 : decode cX12_worked 70 = .ok (.iconst 0, 1) := by decide +kernel
theorem dX12_worked_71 : decode cX12_worked 71 = .ok (.istore 7, 2) := by decide +kernel
theorem dX12_worked_73 : decode cX12_worked 73 = .ok (.aload_n 0, 1) := by decide +kernel
theorem dX12_worked_74 : decode cX12_worked 74 = .ok (.getfield 42, 3) := by decide +kernel
theorem dX12_worked_77 : decode cX12_worked 77 = .ok (.iconst 0, 1) := by decide +kernel
theorem dX12_worked_78 : decode cX12_worked 78 = .ok (.iload 5, 2) := by decide +kernel
theorem dX12_worked_80 : decode cX12_worked 80 = .ok (.iastore, 1) := by decide +kernel
theorem dX12_worked_81 : decode cX12_worked 81 = .ok (.sipush 320, 3) := by decide +kernel
theorem dX12_worked_84 : decode cX12_worked 84 = .ok (.iload_n 1, 1) := by decide +kernel
theorem dX12_worked_85 : decode cX12_worked 85 = .ok (.imul, 1) := by decide +kernel
theorem dX12_worked_86 : decode cX12_worked 86 = .ok (.istore 8, 2) := by decide +kernel
theorem dX12_worked_88 : decode cX12_worked 88 = .ok (.iload 8, 2) := by decide +kernel
theorem dX12_worked_90 : decode cX12_worked 90 = .ok (.sipush 320, 3) := by decide +kernel
theorem dX12_worked_93 : decode cX12_worked 93 = .ok (.iload_n 1, 1) := by decide +kernel
theorem dX12_worked_94 : decode cX12_worked 94 = .ok (.imul, 1) := by decide +kernel
theorem dX12_worked_95 : decode cX12_worked 95 = .ok (.aload_n 0, 1) := by decide +kernel
theorem dX12_worked_96 : decode cX12_worked 96 = .ok (.getfield 36, 3) := by decide +kernel
theorem dX12_worked_99 : decode cX12_worked 99 = .ok (.iload_n 1, 1) := by decide +kernel
theorem dX12_worked_100 : decode cX12_worked 100 = .ok (.iaload, 1) := by decide +kernel
theorem dX12_worked_101 : decode cX12_worked 101 = .ok (.iadd, 1) := by decide +kernel
theorem dX12_worked_102 : decode cX12_worked 102 = .ok (.if_icmp .ge 156, 3) := by decide +kernel
theorem dX12_worked_105 : decode cX12_worked 105 = .ok (.aload_n 0, 1) := by decide +kernel
theorem dX12_worked_106 : decode cX12_worked 106 = .ok (.getfield 30, 3) := by decide +kernel
theorem dX12_worked_109 : decode cX12_worked 109 = .ok (.iload 8, 2) := by decide +kernel
theorem dX12_worked_111 : decode cX12_worked 111 = .ok (.iaload, 1) := by decide +kernel
theorem dX12_worked_112 : decode cX12_worked 112 = .ok (.ifCond .eq 14, 3) := by decide +kernel
theorem dX12_worked_115 : decode cX12_worked 115 = .ok (.aload_n 0, 1) := by decide +kernel
theorem dX12_worked_116 : decode cX12_worked 116 = .ok (.getfield 30, 3) := by decide +kernel
theorem dX12_worked_119 : decode cX12_worked 119 = .ok (.iload 8, 2) := by decide +kernel
theorem dX12_worked_121 : decode cX12_worked 121 = .ok (.iaload, 1) := by decide +kernel
theorem dX12_worked_122 : decode cX12_worked 122 = .ok (.iconst 1, 1) := by decide +kernel
theorem dX12_worked_123 : decode cX12_worked 123 = .ok (.if_icmp .ne 48, 3) := by decide +kernel
theorem dX12_worked_126 : decode cX12_worked 126 = .ok (.aload_n 0, 1) := by decide +kernel
theorem dX12_worked_127 : decode cX12_worked 127 = .ok (.getfield 42, 3) := by decide +kernel
theorem dX12_worked_130 : decode cX12_worked 130 = .ok (.iload 7, 2) := by decide +kernel
theorem dX12_worked_132 : decode cX12_worked 132 = .ok (.aload_n 0, 1) := by decide +kernel
theorem dX12_worked_133 : decode cX12_worked 133 = .ok (.getfield 30, 3) := by decide +kernel
theorem dX12_worked_136 : decode cX12_worked 136 = .ok (.iload 8, 2) := by decide +kernel
theorem dX12_worked_138 : decode cX12_worked 138 = .ok (.iaload, 1) := by decide +kernel
theorem dX12_worked_139 : decode cX12_worked 139 = .ok (.ifCond .ne 13, 3) := by decide +kernel
theorem dX12_worked_142 : decode cX12_worked 142 = .ok (.aload_n 0, 1) := by decide +kernel
theorem dX12_worked_143 : decode cX12_worked 143 = .ok (.getfield 33, 3) := by decide +kernel
theorem dX12_worked_146 : decode cX12_worked 146 = .ok (.iload 8, 2) := by decide +kernel
theorem dX12_worked_148 : decode cX12_worked 148 = .ok (.iaload, 1) := by decide +kernel
theorem dX12_worked_149 : decode cX12_worked 149 = .ok (.goto 15, 3) := by decide +kernel
theorem dX12_worked_152 : decode cX12_worked 152 = .ok (.aload_n 0, 1) := by decide +kernel
theorem dX12_worked_153 : decode cX12_worked 153 = .ok (.getfield 49, 3) := by decide +kernel
theorem dX12_worked_156 : decode cX12_worked 156 = .ok (.aload_n 0, 1) := by decide +kernel
theorem dX12_worked_157 : decode cX12_worked 157 = .ok (.getfield 33, 3) := by decide +kernel
theorem dX12_worked_160 : decode cX12_worked 160 = .ok (.iload 8, 2) := by decide +kernel
theorem dX12_worked_162 : decode cX12_worked 162 = .ok (.iaload, 1) := by decide +kernel
theorem dX12_worked_163 : decode cX12_worked 163 = .ok (.iaload, 1) := by decide +kernel
theorem dX12_worked_164 : decode cX12_worked 164 = .ok (.iastore, 1) := by decide +kernel
theorem dX12_worked_165 : decode cX12_worked 165 = .ok (.iinc 7 1, 3) := by decide +kernel
theorem dX12_worked_168 : decode cX12_worked 168 = .ok (.goto 84, 3) := by decide +kernel
theorem dX12_worked_171 : decode cX12_worked 171 = .ok (.aload_n 0, 1) := by decide +kernel
theorem dX12_worked_172 : decode cX12_worked 172 = .ok (.getfield 30, 3) := by decide +kernel
theorem dX12_worked_175 : decode cX12_worked 175 = .ok (.iload 8, 2) := by decide +kernel
theorem dX12_worked_177 : decode cX12_worked 177 = .ok (.iaload, 1) := by decide +kernel
theorem dX12_worked_178 : decode cX12_worked 178 = .ok (.iconst 2, 1) := by decide +kernel
theorem dX12_worked_179 : decode cX12_worked 179 = .ok (.if_icmp .ne 35, 3) := by decide +kernel
theorem dX12_worked_182 : decode cX12_worked 182 = .ok (.aload_n 0, 1) := by decide +kernel
theorem dX12_worked_183 : decode cX12_worked 183 = .ok (.getfield 42, 3) := by decide +kernel
theorem dX12_worked_186 : decode cX12_worked 186 = .ok (.iload 7, 2) := by decide +kernel
theorem dX12_worked_188 : decode cX12_worked 188 = .ok (.iconst 1, 1) := by decide +kernel
theorem dX12_worked_189 : decode cX12_worked 189 = .ok (.isub, 1) := by decide +kernel
theorem dX12_worked_190 : decode cX12_worked 190 = .ok (.aload_n 0, 1) := by decide +kernel
theorem dX12_worked_191 : decode cX12_worked 191 = .ok (.getfield 42, 3) := by decide +kernel
theorem dX12_worked_194 : decode cX12_worked 194 = .ok (.iload 7, 2) := by decide +kernel
theorem dX12_worked_196 : decode cX12_worked 196 = .ok (.iconst 1, 1) := by decide +kernel
theorem dX12_worked_197 : decode cX12_worked 197 = .ok (.isub, 1) := by decide +kernel
theorem dX12_worked_198 : decode cX12_worked 198 = .ok (.iaload, 1) := by decide +kernel
theorem dX12_worked_199 : decode cX12_worked 199 = .ok (.ifCond .ne 7, 3) := by decide +kernel
theorem dX12_worked_202 : decode cX12_worked 202 = .ok (.iconst 1, 1) := by decide +kernel
theorem dX12_worked_203 : decode cX12_worked 203 = .ok (.goto 4, 3) := by decide +kernel
theorem dX12_worked_206 : decode cX12_worked 206 = .ok (.iconst 0, 1) := by decide +kernel
theorem dX12_worked_207 : decode cX12_worked 207 = .ok (.invokestatic 329, 3) := by decide +kernel
theorem dX12_worked_210 : decode cX12_worked 210 = .ok (.iastore, 1) := by decide +kernel
theorem dX12_worked_211 : decode cX12_worked 211 = .ok (.goto 41, 3) := by decide +kernel
theorem dX12_worked_214 : decode cX12_worked 214 = .ok (.iinc 7 (-1), 3) := by decide +kernel
theorem dX12_worked_217 : decode cX12_worked 217 = .ok (.aload_n 0, 1) := by decide +kernel
theorem dX12_worked_218 : decode cX12_worked 218 = .ok (.getfield 42, 3) := by decide +kernel
theorem dX12_worked_221 : decode cX12_worked 221 = .ok (.iload 7, 2) := by decide +kernel
theorem dX12_worked_223 : decode cX12_worked 223 = .ok (.iconst 1, 1) := by decide +kernel
theorem dX12_worked_224 : decode cX12_worked 224 = .ok (.isub, 1) := by decide +kernel
theorem dX12_worked_225 : decode cX12_worked 225 = .ok (.aload_n 0, 1) := by decide +kernel
theorem dX12_worked_226 : decode cX12_worked 226 = .ok (.getfield 33, 3) := by decide +kernel
theorem dX12_worked_229 : decode cX12_worked 229 = .ok (.iload 8, 2) := by decide +kernel
theorem dX12_worked_231 : decode cX12_worked 231 = .ok (.iaload, 1) := by decide +kernel
theorem dX12_worked_232 : decode cX12_worked 232 = .ok (.aload_n 0, 1) := by decide +kernel
theorem dX12_worked_233 : decode cX12_worked 233 = .ok (.getfield 42, 3) := by decide +kernel
theorem dX12_worked_236 : decode cX12_worked 236 = .ok (.iload 7, 2) := by decide +kernel
theorem dX12_worked_238 : decode cX12_worked 238 = .ok (.iconst 1, 1) := by decide +kernel
theorem dX12_worked_239 : decode cX12_worked 239 = .ok (.isub, 1) := by decide +kernel
theorem dX12_worked_240 : decode cX12_worked 240 = .ok (.iaload, 1) := by decide +kernel
theorem dX12_worked_241 : decode cX12_worked 241 = .ok (.aload_n 0, 1) := by decide +kernel
theorem dX12_worked_242 : decode cX12_worked 242 = .ok (.getfield 42, 3) := by decide +kernel
theorem dX12_worked_245 : decode cX12_worked 245 = .ok (.iload 7, 2) := by decide +kernel
theorem dX12_worked_247 : decode cX12_worked 247 = .ok (.iaload, 1) := by decide +kernel
theorem dX12_worked_248 : decode cX12_worked 248 = .ok (.invokestatic 339, 3) := by decide +kernel
theorem dX12_worked_251 : decode cX12_worked 251 = .ok (.iastore, 1) := by decide +kernel
theorem dX12_worked_252 : decode cX12_worked 252 = .ok (.iinc 8 1, 3) := by decide +kernel
theorem dX12_worked_255 : decode cX12_worked 255 = .ok (.goto (-167), 3) := by decide +kernel
theorem dX12_worked_258 : decode cX12_worked 258 = .ok (.aload_n 0, 1) := by decide +kernel
theorem dX12_worked_259 : decode cX12_worked 259 = .ok (.getfield 42, 3) := by decide +kernel
theorem dX12_worked_262 : decode cX12_worked 262 = .ok (.iconst 0, 1) := by decide +kernel
theorem dX12_worked_263 : decode cX12_worked 263 = .ok (.iaload, 1) := by decide +kernel
theorem dX12_worked_264 : decode cX12_worked 264 = .ok (.iload 6, 2) := by decide +kernel
theorem dX12_worked_266 : decode cX12_worked 266 = .ok (.invokestatic 343, 3) := by decide +kernel
theorem dX12_worked_269 : decode cX12_worked 269 = .ok (.ireturn, 1) := by decide +kernel
theorem dX12_readHearth_0 : decode cX12_readHearth 0 = .ok (.aload_n 0, 1) := by decide +kernel
theorem dX12_readHearth_1 : decode cX12_readHearth 1 = .ok (.iconst 0, 1) := by decide +kernel
theorem dX12_readHearth_2 : decode cX12_readHearth 2 = .ok (.aload_n 0, 1) := by decide +kernel
theorem dX12_readHearth_3 : decode cX12_readHearth 3 = .ok (.getfield 346, 3) := by decide +kernel
theorem dX12_readHearth_6 : decode cX12_readHearth 6 = .ok (.invokevirtual 349, 3) := by decide +kernel
theorem dX12_readHearth_9 : decode cX12_readHearth 9 = .ok (.aload_n 0, 1) := by decide +kernel
theorem dX12_readHearth_10 : decode cX12_readHearth 10 = .ok (.getfield 346, 3) := by decide +kernel
theorem dX12_readHearth_13 : decode cX12_readHearth 13 = .ok (.istore_n 1, 1) := by decide +kernel
theorem dX12_readHearth_14 : decode cX12_readHearth 14 = .ok (.aload_n 0, 1) := by decide +kernel
theorem dX12_readHearth_15 : decode cX12_readHearth 15 = .ok (.getfield 52, 3) := by decide +kernel
theorem dX12_readHearth_18 : decode cX12_readHearth 18 = .ok (.iload_n 1, 1) := by decide +kernel
theorem dX12_readHearth_19 : decode cX12_readHearth 19 = .ok (.aload_n 0, 1) := by decide +kernel
theorem dX12_readHearth_20 : decode cX12_readHearth 20 = .ok (.ldc2_w 211, 3) := by decide +kernel
theorem dX12_readHearth_23 : decode cX12_readHearth 23 = .ok (.iconst 0, 1) := by decide +kernel
theorem dX12_readHearth_24 : decode cX12_readHearth 24 = .ok (.bipush 99, 2) := by decide +kernel
theorem dX12_readHearth_26 : decode cX12_readHearth 26 = .ok (.invokevirtual 269, 3) := by decide +kernel
theorem dX12_readHearth_29 : decode cX12_readHearth 29 = .ok (.iastore, 1) := by decide +kernel
theorem dX12_readHearth_30 : decode cX12_readHearth 30 = .ok (.aload_n 0, 1) := by decide +kernel
theorem dX12_readHearth_31 : decode cX12_readHearth 31 = .ok (.getfield 55, 3) := by decide +kernel
theorem dX12_readHearth_34 : decode cX12_readHearth 34 = .ok (.iload_n 1, 1) := by decide +kernel
theorem dX12_readHearth_35 : decode cX12_readHearth 35 = .ok (.aload_n 0, 1) := by decide +kernel
theorem dX12_readHearth_36 : decode cX12_readHearth 36 = .ok (.ldc2_w 213, 3) := by decide +kernel
theorem dX12_readHearth_39 : decode cX12_readHearth 39 = .ok (.iconst 0, 1) := by decide +kernel
theorem dX12_readHearth_40 : decode cX12_readHearth 40 = .ok (.bipush 99, 2) := by decide +kernel
theorem dX12_readHearth_42 : decode cX12_readHearth 42 = .ok (.invokevirtual 269, 3) := by decide +kernel
theorem dX12_readHearth_45 : decode cX12_readHearth 45 = .ok (.iastore, 1) := by decide +kernel
theorem dX12_readHearth_46 : decode cX12_readHearth 46 = .ok (.aload_n 0, 1) := by decide +kernel
theorem dX12_readHearth_47 : decode cX12_readHearth 47 = .ok (.getfield 58, 3) := by decide +kernel
theorem dX12_readHearth_50 : decode cX12_readHearth 50 = .ok (.iload_n 1, 1) := by decide +kernel
theorem dX12_readHearth_51 : decode cX12_readHearth 51 = .ok (.aload_n 0, 1) := by decide +kernel
theorem dX12_readHearth_52 : decode cX12_readHearth 52 = .ok (.ldc2_w 215, 3) := by decide +kernel
theorem dX12_readHearth_55 : decode cX12_readHearth 55 = .ok (.iconst 1, 1) := by decide +kernel
theorem dX12_readHearth_56 : decode cX12_readHearth 56 = .ok (.iconst 5, 1) := by decide +kernel
theorem dX12_readHearth_57 : decode cX12_readHearth 57 = .ok (.invokevirtual 352, 3) := by decide +kernel
theorem dX12_readHearth_60 : decode cX12_readHearth 60 = .ok (.iastore, 1) := by decide +kernel
theorem dX12_readHearth_61 : decode cX12_readHearth 61 = .ok (.aload_n 0, 1) := by decide +kernel
theorem dX12_readHearth_62 : decode cX12_readHearth 62 = .ok (.getfield 61, 3) := by decide +kernel
theorem dX12_readHearth_65 : decode cX12_readHearth 65 = .ok (.iload_n 1, 1) := by decide +kernel
theorem dX12_readHearth_66 : decode cX12_readHearth 66 = .ok (.aload_n 0, 1) := by decide +kernel
theorem dX12_readHearth_67 : decode cX12_readHearth 67 = .ok (.ldc2_w 217, 3) := by decide +kernel
theorem dX12_readHearth_70 : decode cX12_readHearth 70 = .ok (.iconst 0, 1) := by decide +kernel
theorem dX12_readHearth_71 : decode cX12_readHearth 71 = .ok (.bipush 9, 2) := by decide +kernel
theorem dX12_readHearth_73 : decode cX12_readHearth 73 = .ok (.invokevirtual 352, 3) := by decide +kernel
theorem dX12_readHearth_76 : decode cX12_readHearth 76 = .ok (.iastore, 1) := by decide +kernel
theorem dX12_readHearth_77 : decode cX12_readHearth 77 = .ok (.aload_n 0, 1) := by decide +kernel
theorem dX12_readHearth_78 : decode cX12_readHearth 78 = .ok (.getfield 206, 3) := by decide +kernel
theorem dX12_readHearth_81 : decode cX12_readHearth 81 = .ok (.ifCond .ne 13, 3) := by decide +kernel
theorem dX12_readHearth_84 : decode cX12_readHearth 84 = .ok (.aload_n 0, 1) := by decide +kernel
theorem dX12_readHearth_85 : decode cX12_readHearth 85 = .ok (.dup, 1) := by decide +kernel
theorem dX12_readHearth_86 : decode cX12_readHearth 86 = .ok (.getfield 346, 3) := by decide +kernel
theorem dX12_readHearth_89 : decode cX12_readHearth 89 = .ok (.iconst 1, 1) := by decide +kernel
theorem dX12_readHearth_90 : decode cX12_readHearth 90 = .ok (.iadd, 1) := by decide +kernel
theorem dX12_readHearth_91 : decode cX12_readHearth 91 = .ok (.putfield 346, 3) := by decide +kernel
theorem dX12_readHearth_94 : decode cX12_readHearth 94 = .ok (.return_, 1) := by decide +kernel
theorem dX12_readStool_0 : decode cX12_readStool 0 = .ok (.aload_n 0, 1) := by decide +kernel
theorem dX12_readStool_1 : decode cX12_readStool 1 = .ok (.bipush 6, 2) := by decide +kernel
theorem dX12_readStool_3 : decode cX12_readStool 3 = .ok (.aload_n 0, 1) := by decide +kernel
theorem dX12_readStool_4 : decode cX12_readStool 4 = .ok (.getfield 355, 3) := by decide +kernel
theorem dX12_readStool_7 : decode cX12_readStool 7 = .ok (.invokevirtual 349, 3) := by decide +kernel
theorem dX12_readStool_10 : decode cX12_readStool 10 = .ok (.aload_n 0, 1) := by decide +kernel
theorem dX12_readStool_11 : decode cX12_readStool 11 = .ok (.getfield 355, 3) := by decide +kernel
theorem dX12_readStool_14 : decode cX12_readStool 14 = .ok (.istore_n 1, 1) := by decide +kernel
theorem dX12_readStool_15 : decode cX12_readStool 15 = .ok (.aload_n 0, 1) := by decide +kernel
theorem dX12_readStool_16 : decode cX12_readStool 16 = .ok (.getfield 64, 3) := by decide +kernel
theorem dX12_readStool_19 : decode cX12_readStool 19 = .ok (.iload_n 1, 1) := by decide +kernel
theorem dX12_readStool_20 : decode cX12_readStool 20 = .ok (.aload_n 0, 1) := by decide +kernel
theorem dX12_readStool_21 : decode cX12_readStool 21 = .ok (.ldc2_w 211, 3) := by decide +kernel
theorem dX12_readStool_24 : decode cX12_readStool 24 = .ok (.iconst 0, 1) := by decide +kernel
theorem dX12_readStool_25 : decode cX12_readStool 25 = .ok (.bipush 99, 2) := by decide +kernel
theorem dX12_readStool_27 : decode cX12_readStool 27 = .ok (.invokevirtual 269, 3) := by decide +kernel
theorem dX12_readStool_30 : decode cX12_readStool 30 = .ok (.iastore, 1) := by decide +kernel
theorem dX12_readStool_31 : decode cX12_readStool 31 = .ok (.aload_n 0, 1) := by decide +kernel
theorem dX12_readStool_32 : decode cX12_readStool 32 = .ok (.getfield 67, 3) := by decide +kernel
theorem dX12_readStool_35 : decode cX12_readStool 35 = .ok (.iload_n 1, 1) := by decide +kernel
theorem dX12_readStool_36 : decode cX12_readStool 36 = .ok (.aload_n 0, 1) := by decide +kernel
theorem dX12_readStool_37 : decode cX12_readStool 37 = .ok (.ldc2_w 221, 3) := by decide +kernel
theorem dX12_readStool_40 : decode cX12_readStool 40 = .ok (.iconst 0, 1) := by decide +kernel
theorem dX12_readStool_41 : decode cX12_readStool 41 = .ok (.bipush 99, 2) := by decide +kernel
theorem dX12_readStool_43 : decode cX12_readStool 43 = .ok (.invokevirtual 269, 3) := by decide +kernel
theorem dX12_readStool_46 : decode cX12_readStool 46 = .ok (.iastore, 1) := by decide +kernel
theorem dX12_readStool_47 : decode cX12_readStool 47 = .ok (.aload_n 0, 1) := by decide +kernel
theorem dX12_readStool_48 : decode cX12_readStool 48 = .ok (.getfield 70, 3) := by decide +kernel
theorem dX12_readStool_51 : decode cX12_readStool 51 = .ok (.iload_n 1, 1) := by decide +kernel
theorem dX12_readStool_52 : decode cX12_readStool 52 = .ok (.aload_n 0, 1) := by decide +kernel
theorem dX12_readStool_53 : decode cX12_readStool 53 = .ok (.ldc2_w 223, 3) := by decide +kernel
theorem dX12_readStool_56 : decode cX12_readStool 56 = .ok (.iconst 0, 1) := by decide +kernel
theorem dX12_readStool_57 : decode cX12_readStool 57 = .ok (.iconst 3, 1) := by decide +kernel
theorem dX12_readStool_58 : decode cX12_readStool 58 = .ok (.invokevirtual 352, 3) := by decide +kernel
theorem dX12_readStool_61 : decode cX12_readStool 61 = .ok (.iastore, 1) := by decide +kernel
theorem dX12_readStool_62 : decode cX12_readStool 62 = .ok (.aload_n 0, 1) := by decide +kernel
theorem dX12_readStool_63 : decode cX12_readStool 63 = .ok (.getfield 73, 3) := by decide +kernel
theorem dX12_readStool_66 : decode cX12_readStool 66 = .ok (.iload_n 1, 1) := by decide +kernel
theorem dX12_readStool_67 : decode cX12_readStool 67 = .ok (.aload_n 0, 1) := by decide +kernel
theorem dX12_readStool_68 : decode cX12_readStool 68 = .ok (.ldc2_w 225, 3) := by decide +kernel
theorem dX12_readStool_71 : decode cX12_readStool 71 = .ok (.iconst 0, 1) := by decide +kernel
theorem dX12_readStool_72 : decode cX12_readStool 72 = .ok (.bipush 99, 2) := by decide +kernel
theorem dX12_readStool_74 : decode cX12_readStool 74 = .ok (.invokevirtual 352, 3) := by decide +kernel
theorem dX12_readStool_77 : decode cX12_readStool 77 = .ok (.iastore, 1) := by decide +kernel
theorem dX12_readStool_78 : decode cX12_readStool 78 = .ok (.aload_n 0, 1) := by decide +kernel
theorem dX12_readStool_79 : decode cX12_readStool 79 = .ok (.getfield 206, 3) := by decide +kernel
theorem dX12_readStool_82 : decode cX12_readStool 82 = .ok (.ifCond .ne 13, 3) := by decide +kernel
theorem dX12_readStool_85 : decode cX12_readStool 85 = .ok (.aload_n 0, 1) := by decide +kernel
theorem dX12_readStool_86 : decode cX12_readStool 86 = .ok (.dup, 1) := by decide +kernel
theorem dX12_readStool_87 : decode cX12_readStool 87 = .ok (.getfield 355, 3) := by decide +kernel
theorem dX12_readStool_90 : decode cX12_readStool 90 = .ok (.iconst 1, 1) := by decide +kernel
theorem dX12_readStool_91 : decode cX12_readStool 91 = .ok (.iadd, 1) := by decide +kernel
theorem dX12_readStool_92 : decode cX12_readStool 92 = .ok (.putfield 355, 3) := by decide +kernel
theorem dX12_readStool_95 : decode cX12_readStool 95 = .ok (.return_, 1) := by decide +kernel
theorem dX12_readLine_0 : decode cX12_readLine 0 = .ok (.aload_n 0, 1) := by decide +kernel
theorem dX12_readLine_1 : decode cX12_readLine 1 = .ok (.ldc2_w 209, 3) := by decide +kernel
theorem dX12_readLine_4 : decode cX12_readLine 4 = .ok (.invokevirtual 251, 3) := by decide +kernel
theorem dX12_readLine_7 : decode cX12_readLine 7 = .ok (.ifCond .eq 19, 3) := by decide +kernel
theorem dX12_readLine_10 : decode cX12_readLine 10 = .ok (.aload_n 0, 1) := by decide +kernel
theorem dX12_readLine_11 : decode cX12_readLine 11 = .ok (.getfield 346, 3) := by decide +kernel
theorem dX12_readLine_14 : decode cX12_readLine 14 = .ok (.bipush 6, 2) := by decide +kernel
theorem dX12_readLine_16 : decode cX12_readLine 16 = .ok (.if_icmp .ge 10, 3) := by decide +kernel
theorem dX12_readLine_19 : decode cX12_readLine 19 = .ok (.aload_n 0, 1) := by decide +kernel
theorem dX12_readLine_20 : decode cX12_readLine 20 = .ok (.invokevirtual 358, 3) := by decide +kernel
theorem dX12_readLine_23 : decode cX12_readLine 23 = .ok (.goto 205, 3) := by decide +kernel
theorem dX12_readLine_26 : decode cX12_readLine 26 = .ok (.aload_n 0, 1) := by decide +kernel
theorem dX12_readLine_27 : decode cX12_readLine 27 = .ok (.ldc2_w 219, 3) := by decide +kernel
theorem dX12_readLine_30 : decode cX12_readLine 30 = .ok (.invokevirtual 251, 3) := by decide +kernel
theorem dX12_readLine_33 : decode cX12_readLine 33 = .ok (.ifCond .eq 18, 3) := by decide +kernel
theorem dX12_readLine_36 : decode cX12_readLine 36 = .ok (.aload_n 0, 1) := by decide +kernel
theorem dX12_readLine_37 : decode cX12_readLine 37 = .ok (.getfield 355, 3) := by decide +kernel
theorem dX12_readLine_40 : decode cX12_readLine 40 = .ok (.iconst 5, 1) := by decide +kernel
theorem dX12_readLine_41 : decode cX12_readLine 41 = .ok (.if_icmp .ge 10, 3) := by decide +kernel
theorem dX12_readLine_44 : decode cX12_readLine 44 = .ok (.aload_n 0, 1) := by decide +kernel
theorem dX12_readLine_45 : decode cX12_readLine 45 = .ok (.invokevirtual 361, 3) := by decide +kernel
theorem dX12_readLine_48 : decode cX12_readLine 48 = .ok (.goto 180, 3) := by decide +kernel
theorem dX12_readLine_51 : decode cX12_readLine 51 = .ok (.aload_n 0, 1) := by decide +kernel
theorem dX12_readLine_52 : decode cX12_readLine 52 = .ok (.ldc2_w 227, 3) := by decide +kernel
theorem dX12_readLine_55 : decode cX12_readLine 55 = .ok (.invokevirtual 251, 3) := by decide +kernel
theorem dX12_readLine_58 : decode cX12_readLine 58 = .ok (.ifCond .eq 20, 3) := by decide +kernel
theorem dX12_readLine_61 : decode cX12_readLine 61 = .ok (.aload_n 0, 1) := by decide +kernel
theorem dX12_readLine_62 : decode cX12_readLine 62 = .ok (.getfield 45, 3) := by decide +kernel
theorem dX12_readLine_65 : decode cX12_readLine 65 = .ok (.iconst 0, 1) := by decide +kernel
theorem dX12_readLine_66 : decode cX12_readLine 66 = .ok (.baload, 1) := by decide +kernel
theorem dX12_readLine_67 : decode cX12_readLine 67 = .ok (.ifCond .ne 11, 3) := by decide +kernel
theorem dX12_readLine_70 : decode cX12_readLine 70 = .ok (.aload_n 0, 1) := by decide +kernel
theorem dX12_readLine_71 : decode cX12_readLine 71 = .ok (.iconst 0, 1) := by decide +kernel
theorem dX12_readLine_72 : decode cX12_readLine 72 = .ok (.invokevirtual 364, 3) := by decide +kernel
theorem dX12_readLine_75 : decode cX12_readLine 75 = .ok (.goto 153, 3) := by decide +kernel
theorem dX12_readLine_78 : decode cX12_readLine 78 = .ok (.aload_n 0, 1) := by decide +kernel
theorem dX12_readLine_79 : decode cX12_readLine 79 = .ok (.ldc2_w 229, 3) := by decide +kernel
theorem dX12_readLine_82 : decode cX12_readLine 82 = .ok (.invokevirtual 251, 3) := by decide +kernel
theorem dX12_readLine_85 : decode cX12_readLine 85 = .ok (.ifCond .eq 20, 3) := by decide +kernel
theorem dX12_readLine_88 : decode cX12_readLine 88 = .ok (.aload_n 0, 1) := by decide +kernel
theorem dX12_readLine_89 : decode cX12_readLine 89 = .ok (.getfield 45, 3) := by decide +kernel
theorem dX12_readLine_92 : decode cX12_readLine 92 = .ok (.iconst 1, 1) := by decide +kernel
theorem dX12_readLine_93 : decode cX12_readLine 93 = .ok (.baload, 1) := by decide +kernel
theorem dX12_readLine_94 : decode cX12_readLine 94 = .ok (.ifCond .ne 11, 3) := by decide +kernel
theorem dX12_readLine_97 : decode cX12_readLine 97 = .ok (.aload_n 0, 1) := by decide +kernel
theorem dX12_readLine_98 : decode cX12_readLine 98 = .ok (.iconst 1, 1) := by decide +kernel
theorem dX12_readLine_99 : decode cX12_readLine 99 = .ok (.invokevirtual 364, 3) := by decide +kernel
theorem dX12_readLine_102 : decode cX12_readLine 102 = .ok (.goto 126, 3) := by decide +kernel
theorem dX12_readLine_105 : decode cX12_readLine 105 = .ok (.aload_n 0, 1) := by decide +kernel
theorem dX12_readLine_106 : decode cX12_readLine 106 = .ok (.ldc2_w 231, 3) := by decide +kernel
theorem dX12_readLine_109 : decode cX12_readLine 109 = .ok (.invokevirtual 251, 3) := by decide +kernel
theorem dX12_readLine_112 : decode cX12_readLine 112 = .ok (.ifCond .eq 32, 3) := by decide +kernel
theorem dX12_readLine_115 : decode cX12_readLine 115 = .ok (.aload_n 0, 1) := by decide +kernel
theorem dX12_readLine_116 : decode cX12_readLine 116 = .ok (.getfield 367, 3) := by decide +kernel
theorem dX12_readLine_119 : decode cX12_readLine 119 = .ok (.ifCond .ne 25, 3) := by decide +kernel
theorem dX12_readLine_122 : decode cX12_readLine 122 = .ok (.aload_n 0, 1) := by decide +kernel
theorem dX12_readLine_123 : decode cX12_readLine 123 = .ok (.iconst 1, 1) := by decide +kernel
theorem dX12_readLine_124 : decode cX12_readLine 124 = .ok (.putfield 367, 3) := by decide +kernel
theorem dX12_readLine_127 : decode cX12_readLine 127 = .ok (.aload_n 0, 1) := by decide +kernel
theorem dX12_readLine_128 : decode cX12_readLine 128 = .ok (.aload_n 0, 1) := by decide +kernel
theorem dX12_readLine_129 : decode cX12_readLine 129 = .ok (.ldc2_w 231, 3) := by decide +kernel
theorem dX12_readLine_132 : decode cX12_readLine 132 = .ok (.iconst 1, 1) := by decide +kernel
theorem dX12_readLine_133 : decode cX12_readLine 133 = .ok (.bipush 99, 2) := by decide +kernel
theorem dX12_readLine_135 : decode cX12_readLine 135 = .ok (.invokevirtual 269, 3) := by decide +kernel
theorem dX12_readLine_138 : decode cX12_readLine 138 = .ok (.putfield 371, 3) := by decide +kernel
theorem dX12_readLine_141 : decode cX12_readLine 141 = .ok (.goto 87, 3) := by decide +kernel
theorem dX12_readLine_144 : decode cX12_readLine 144 = .ok (.aload_n 0, 1) := by decide +kernel
theorem dX12_readLine_145 : decode cX12_readLine 145 = .ok (.ldc2_w 233, 3) := by decide +kernel
theorem dX12_readLine_148 : decode cX12_readLine 148 = .ok (.invokevirtual 251, 3) := by decide +kernel
theorem dX12_readLine_151 : decode cX12_readLine 151 = .ok (.ifCond .eq 32, 3) := by decide +kernel
theorem dX12_readLine_154 : decode cX12_readLine 154 = .ok (.aload_n 0, 1) := by decide +kernel
theorem dX12_readLine_155 : decode cX12_readLine 155 = .ok (.getfield 374, 3) := by decide +kernel
theorem dX12_readLine_158 : decode cX12_readLine 158 = .ok (.ifCond .ne 25, 3) := by decide +kernel
theorem dX12_readLine_161 : decode cX12_readLine 161 = .ok (.aload_n 0, 1) := by decide +kernel
theorem dX12_readLine_162 : decode cX12_readLine 162 = .ok (.iconst 1, 1) := by decide +kernel
theorem dX12_readLine_163 : decode cX12_readLine 163 = .ok (.putfield 374, 3) := by decide +kernel
theorem dX12_readLine_166 : decode cX12_readLine 166 = .ok (.aload_n 0, 1) := by decide +kernel
theorem dX12_readLine_167 : decode cX12_readLine 167 = .ok (.aload_n 0, 1) := by decide +kernel
theorem dX12_readLine_168 : decode cX12_readLine 168 = .ok (.ldc2_w 233, 3) := by decide +kernel
theorem dX12_readLine_171 : decode cX12_readLine 171 = .ok (.iconst 0, 1) := by decide +kernel
theorem dX12_readLine_172 : decode cX12_readLine 172 = .ok (.bipush 100, 2) := by decide +kernel
theorem dX12_readLine_174 : decode cX12_readLine 174 = .ok (.invokevirtual 269, 3) := by decide +kernel
theorem dX12_readLine_177 : decode cX12_readLine 177 = .ok (.putfield 377, 3) := by decide +kernel
theorem dX12_readLine_180 : decode cX12_readLine 180 = .ok (.goto 48, 3) := by decide +kernel
theorem dX12_readLine_183 : decode cX12_readLine 183 = .ok (.aload_n 0, 1) := by decide +kernel
theorem dX12_readLine_184 : decode cX12_readLine 184 = .ok (.ldc2_w 235, 3) := by decide +kernel
theorem dX12_readLine_187 : decode cX12_readLine 187 = .ok (.invokevirtual 251, 3) := by decide +kernel
theorem dX12_readLine_190 : decode cX12_readLine 190 = .ok (.ifCond .eq 33, 3) := by decide +kernel
theorem dX12_readLine_193 : decode cX12_readLine 193 = .ok (.aload_n 0, 1) := by decide +kernel
theorem dX12_readLine_194 : decode cX12_readLine 194 = .ok (.getfield 380, 3) := by decide +kernel
theorem dX12_readLine_197 : decode cX12_readLine 197 = .ok (.ifCond .ne 26, 3) := by decide +kernel
theorem dX12_readLine_200 : decode cX12_readLine 200 = .ok (.aload_n 0, 1) := by decide +kernel
theorem dX12_readLine_201 : decode cX12_readLine 201 = .ok (.iconst 1, 1) := by decide +kernel
theorem dX12_readLine_202 : decode cX12_readLine 202 = .ok (.putfield 380, 3) := by decide +kernel
theorem dX12_readLine_205 : decode cX12_readLine 205 = .ok (.aload_n 0, 1) := by decide +kernel
theorem dX12_readLine_206 : decode cX12_readLine 206 = .ok (.aload_n 0, 1) := by decide +kernel
theorem dX12_readLine_207 : decode cX12_readLine 207 = .ok (.ldc2_w 235, 3) := by decide +kernel
theorem dX12_readLine_210 : decode cX12_readLine 210 = .ok (.iconst 0, 1) := by decide +kernel
theorem dX12_readLine_211 : decode cX12_readLine 211 = .ok (.sipush 999, 3) := by decide +kernel
theorem dX12_readLine_214 : decode cX12_readLine 214 = .ok (.invokevirtual 269, 3) := by decide +kernel
theorem dX12_readLine_217 : decode cX12_readLine 217 = .ok (.putfield 383, 3) := by decide +kernel
theorem dX12_readLine_220 : decode cX12_readLine 220 = .ok (.goto 8, 3) := by decide +kernel
theorem dX12_readLine_223 : decode cX12_readLine 223 = .ok (.aload_n 0, 1) := by decide +kernel
theorem dX12_readLine_224 : decode cX12_readLine 224 = .ok (.iconst 2, 1) := by decide +kernel
theorem dX12_readLine_225 : decode cX12_readLine 225 = .ok (.invokevirtual 255, 3) := by decide +kernel
theorem dX12_readLine_228 : decode cX12_readLine 228 = .ok (.aload_n 0, 1) := by decide +kernel
theorem dX12_readLine_229 : decode cX12_readLine 229 = .ok (.getfield 206, 3) := by decide +kernel
theorem dX12_readLine_232 : decode cX12_readLine 232 = .ok (.ifCond .ne 17, 3) := by decide +kernel
theorem dX12_readLine_235 : decode cX12_readLine 235 = .ok (.aload_n 0, 1) := by decide +kernel
theorem dX12_readLine_236 : decode cX12_readLine 236 = .ok (.getfield 193, 3) := by decide +kernel
theorem dX12_readLine_239 : decode cX12_readLine 239 = .ok (.bipush 59, 2) := by decide +kernel
theorem dX12_readLine_241 : decode cX12_readLine 241 = .ok (.if_icmp .eq 8, 3) := by decide +kernel
theorem dX12_readLine_244 : decode cX12_readLine 244 = .ok (.aload_n 0, 1) := by decide +kernel
theorem dX12_readLine_245 : decode cX12_readLine 245 = .ok (.iconst 2, 1) := by decide +kernel
theorem dX12_readLine_246 : decode cX12_readLine 246 = .ok (.invokevirtual 255, 3) := by decide +kernel
theorem dX12_readLine_249 : decode cX12_readLine 249 = .ok (.aload_n 0, 1) := by decide +kernel
theorem dX12_readLine_250 : decode cX12_readLine 250 = .ok (.getfield 206, 3) := by decide +kernel
theorem dX12_readLine_253 : decode cX12_readLine 253 = .ok (.ifCond .ne 7, 3) := by decide +kernel
theorem dX12_readLine_256 : decode cX12_readLine 256 = .ok (.aload_n 0, 1) := by decide +kernel
theorem dX12_readLine_257 : decode cX12_readLine 257 = .ok (.invokevirtual 258, 3) := by decide +kernel
theorem dX12_readLine_260 : decode cX12_readLine 260 = .ok (.return_, 1) := by decide +kernel
theorem dX12_readAll_0 : decode cX12_readAll 0 = .ok (.aload_n 0, 1) := by decide +kernel
theorem dX12_readAll_1 : decode cX12_readAll 1 = .ok (.aload_n 0, 1) := by decide +kernel
theorem dX12_readAll_2 : decode cX12_readAll 2 = .ok (.getfield 166, 3) := by decide +kernel
theorem dX12_readAll_5 : decode cX12_readAll 5 = .ok (.putfield 176, 3) := by decide +kernel
theorem dX12_readAll_8 : decode cX12_readAll 8 = .ok (.aload_n 0, 1) := by decide +kernel
theorem dX12_readAll_9 : decode cX12_readAll 9 = .ok (.iconst 0, 1) := by decide +kernel
theorem dX12_readAll_10 : decode cX12_readAll 10 = .ok (.putfield 166, 3) := by decide +kernel
theorem dX12_readAll_13 : decode cX12_readAll 13 = .ok (.aload_n 0, 1) := by decide +kernel
theorem dX12_readAll_14 : decode cX12_readAll 14 = .ok (.iconst 0, 1) := by decide +kernel
theorem dX12_readAll_15 : decode cX12_readAll 15 = .ok (.putfield 173, 3) := by decide +kernel
theorem dX12_readAll_18 : decode cX12_readAll 18 = .ok (.aload_n 0, 1) := by decide +kernel
theorem dX12_readAll_19 : decode cX12_readAll 19 = .ok (.iconst 0, 1) := by decide +kernel
theorem dX12_readAll_20 : decode cX12_readAll 20 = .ok (.putfield 206, 3) := by decide +kernel
theorem dX12_readAll_23 : decode cX12_readAll 23 = .ok (.aload_n 0, 1) := by decide +kernel
theorem dX12_readAll_24 : decode cX12_readAll 24 = .ok (.iconst (-1), 1) := by decide +kernel
theorem dX12_readAll_25 : decode cX12_readAll 25 = .ok (.putfield 13, 3) := by decide +kernel
theorem dX12_readAll_28 : decode cX12_readAll 28 = .ok (.aload_n 0, 1) := by decide +kernel
theorem dX12_readAll_29 : decode cX12_readAll 29 = .ok (.iconst 0, 1) := by decide +kernel
theorem dX12_readAll_30 : decode cX12_readAll 30 = .ok (.putfield 346, 3) := by decide +kernel
theorem dX12_readAll_33 : decode cX12_readAll 33 = .ok (.aload_n 0, 1) := by decide +kernel
theorem dX12_readAll_34 : decode cX12_readAll 34 = .ok (.iconst 0, 1) := by decide +kernel
theorem dX12_readAll_35 : decode cX12_readAll 35 = .ok (.putfield 355, 3) := by decide +kernel
theorem dX12_readAll_38 : decode cX12_readAll 38 = .ok (.aload_n 0, 1) := by decide +kernel
theorem dX12_readAll_39 : decode cX12_readAll 39 = .ok (.bipush 7, 2) := by decide +kernel
theorem dX12_readAll_41 : decode cX12_readAll 41 = .ok (.putfield 371, 3) := by decide +kernel
theorem dX12_readAll_44 : decode cX12_readAll 44 = .ok (.aload_n 0, 1) := by decide +kernel
theorem dX12_readAll_45 : decode cX12_readAll 45 = .ok (.iconst 0, 1) := by decide +kernel
theorem dX12_readAll_46 : decode cX12_readAll 46 = .ok (.putfield 377, 3) := by decide +kernel
theorem dX12_readAll_49 : decode cX12_readAll 49 = .ok (.aload_n 0, 1) := by decide +kernel
theorem dX12_readAll_50 : decode cX12_readAll 50 = .ok (.iconst 0, 1) := by decide +kernel
theorem dX12_readAll_51 : decode cX12_readAll 51 = .ok (.putfield 383, 3) := by decide +kernel
theorem dX12_readAll_54 : decode cX12_readAll 54 = .ok (.aload_n 0, 1) := by decide +kernel
theorem dX12_readAll_55 : decode cX12_readAll 55 = .ok (.iconst 0, 1) := by decide +kernel
theorem dX12_readAll_56 : decode cX12_readAll 56 = .ok (.putfield 367, 3) := by decide +kernel
theorem dX12_readAll_59 : decode cX12_readAll 59 = .ok (.aload_n 0, 1) := by decide +kernel
theorem dX12_readAll_60 : decode cX12_readAll 60 = .ok (.iconst 0, 1) := by decide +kernel
theorem dX12_readAll_61 : decode cX12_readAll 61 = .ok (.putfield 374, 3) := by decide +kernel
theorem dX12_readAll_64 : decode cX12_readAll 64 = .ok (.aload_n 0, 1) := by decide +kernel
theorem dX12_readAll_65 : decode cX12_readAll 65 = .ok (.iconst 0, 1) := by decide +kernel
theorem dX12_readAll_66 : decode cX12_readAll 66 = .ok (.putfield 380, 3) := by decide +kernel
theorem dX12_readAll_69 : decode cX12_readAll 69 = .ok (.aload_n 0, 1) := by decide +kernel
theorem dX12_readAll_70 : decode cX12_readAll 70 = .ok (.getfield 45, 3) := by decide +kernel
theorem dX12_readAll_73 : decode cX12_readAll 73 = .ok (.iconst 0, 1) := by decide +kernel
theorem dX12_readAll_74 : decode cX12_readAll 74 = .ok (.iconst 0, 1) := by decide +kernel
theorem dX12_readAll_75 : decode cX12_readAll 75 = .ok (.bastore, 1) := by decide +kernel
theorem dX12_readAll_76 : decode cX12_readAll 76 = .ok (.aload_n 0, 1) := by decide +kernel
theorem dX12_readAll_77 : decode cX12_readAll 77 = .ok (.getfield 45, 3) := by decide +kernel
theorem dX12_readAll_80 : decode cX12_readAll 80 = .ok (.iconst 1, 1) := by decide +kernel
theorem dX12_readAll_81 : decode cX12_readAll 81 = .ok (.iconst 0, 1) := by decide +kernel
theorem dX12_readAll_82 : decode cX12_readAll 82 = .ok (.bastore, 1) := by decide +kernel
theorem dX12_readAll_83 : decode cX12_readAll 83 = .ok (.aload_n 0, 1) := by decide +kernel
theorem dX12_readAll_84 : decode cX12_readAll 84 = .ok (.iconst 0, 1) := by decide +kernel
theorem dX12_readAll_85 : decode cX12_readAll 85 = .ok (.putfield 292, 3) := by decide +kernel
theorem dX12_readAll_88 : decode cX12_readAll 88 = .ok (.aload_n 0, 1) := by decide +kernel
theorem dX12_readAll_89 : decode cX12_readAll 89 = .ok (.invokevirtual 258, 3) := by decide +kernel
theorem dX12_readAll_92 : decode cX12_readAll 92 = .ok (.aload_n 0, 1) := by decide +kernel
theorem dX12_readAll_93 : decode cX12_readAll 93 = .ok (.getfield 206, 3) := by decide +kernel
theorem dX12_readAll_96 : decode cX12_readAll 96 = .ok (.ifCond .ne 17, 3) := by decide +kernel
theorem dX12_readAll_99 : decode cX12_readAll 99 = .ok (.aload_n 0, 1) := by decide +kernel
theorem dX12_readAll_100 : decode cX12_readAll 100 = .ok (.getfield 193, 3) := by decide +kernel
theorem dX12_readAll_103 : decode cX12_readAll 103 = .ok (.ifCond .eq 10, 3) := by decide +kernel
theorem dX12_readAll_106 : decode cX12_readAll 106 = .ok (.aload_n 0, 1) := by decide +kernel
theorem dX12_readAll_107 : decode cX12_readAll 107 = .ok (.invokevirtual 386, 3) := by decide +kernel
theorem dX12_readAll_110 : decode cX12_readAll 110 = .ok (.goto (-18), 3) := by decide +kernel
theorem dX12_readAll_113 : decode cX12_readAll 113 = .ok (.return_, 1) := by decide +kernel
theorem dX12_chapel_0 : decode cX12_chapel 0 = .ok (.aload_n 0, 1) := by decide +kernel
theorem dX12_chapel_1 : decode cX12_chapel 1 = .ok (.invokevirtual 389, 3) := by decide +kernel
theorem dX12_chapel_4 : decode cX12_chapel 4 = .ok (.aload_n 0, 1) := by decide +kernel
theorem dX12_chapel_5 : decode cX12_chapel 5 = .ok (.getfield 206, 3) := by decide +kernel
theorem dX12_chapel_8 : decode cX12_chapel 8 = .ok (.ifCond .le 5, 3) := by decide +kernel
theorem dX12_chapel_11 : decode cX12_chapel 11 = .ok (.iconst (-1), 1) := by decide +kernel
theorem dX12_chapel_12 : decode cX12_chapel 12 = .ok (.ireturn, 1) := by decide +kernel
theorem dX12_chapel_13 : decode cX12_chapel 13 = .ok (.aload_n 0, 1) := by decide +kernel
theorem dX12_chapel_14 : decode cX12_chapel 14 = .ok (.aload_n 0, 1) := by decide +kernel
theorem dX12_chapel_15 : decode cX12_chapel 15 = .ok (.getfield 346, 3) := by decide +kernel
theorem dX12_chapel_18 : decode cX12_chapel 18 = .ok (.putfield 392, 3) := by decide +kernel
theorem dX12_chapel_21 : decode cX12_chapel 21 = .ok (.aload_n 0, 1) := by decide +kernel
theorem dX12_chapel_22 : decode cX12_chapel 22 = .ok (.aload_n 0, 1) := by decide +kernel
theorem dX12_chapel_23 : decode cX12_chapel 23 = .ok (.getfield 355, 3) := by decide +kernel
theorem dX12_chapel_26 : decode cX12_chapel 26 = .ok (.putfield 395, 3) := by decide +kernel
theorem dX12_chapel_29 : decode cX12_chapel 29 = .ok (.aload_n 0, 1) := by decide +kernel
theorem dX12_chapel_30 : decode cX12_chapel 30 = .ok (.aload_n 0, 1) := by decide +kernel
theorem dX12_chapel_31 : decode cX12_chapel 31 = .ok (.getfield 371, 3) := by decide +kernel
theorem dX12_chapel_34 : decode cX12_chapel 34 = .ok (.putfield 100, 3) := by decide +kernel
theorem dX12_chapel_37 : decode cX12_chapel 37 = .ok (.aload_n 0, 1) := by decide +kernel
theorem dX12_chapel_38 : decode cX12_chapel 38 = .ok (.aload_n 0, 1) := by decide +kernel
theorem dX12_chapel_39 : decode cX12_chapel 39 = .ok (.getfield 377, 3) := by decide +kernel
theorem dX12_chapel_42 : decode cX12_chapel 42 = .ok (.putfield 398, 3) := by decide +kernel
theorem dX12_chapel_45 : decode cX12_chapel 45 = .ok (.aload_n 0, 1) := by decide +kernel
theorem dX12_chapel_46 : decode cX12_chapel 46 = .ok (.aload_n 0, 1) := by decide +kernel
theorem dX12_chapel_47 : decode cX12_chapel 47 = .ok (.getfield 292, 3) := by decide +kernel
theorem dX12_chapel_50 : decode cX12_chapel 50 = .ok (.putfield 401, 3) := by decide +kernel
theorem dX12_chapel_53 : decode cX12_chapel 53 = .ok (.iconst 0, 1) := by decide +kernel
theorem dX12_chapel_54 : decode cX12_chapel 54 = .ok (.istore_n 1, 1) := by decide +kernel
theorem dX12_chapel_55 : decode cX12_chapel 55 = .ok (.iload_n 1, 1) := by decide +kernel
theorem dX12_chapel_56 : decode cX12_chapel 56 = .ok (.iconst 2, 1) := by decide +kernel
theorem dX12_chapel_57 : decode cX12_chapel 57 = .ok (.if_icmp .ge 86, 3) := by decide +kernel
theorem dX12_chapel_60 : decode cX12_chapel 60 = .ok (.aload_n 0, 1) := by decide +kernel
theorem dX12_chapel_61 : decode cX12_chapel 61 = .ok (.getfield 36, 3) := by decide +kernel
theorem dX12_chapel_64 : decode cX12_chapel 64 = .ok (.iload_n 1, 1) := by decide +kernel
theorem dX12_chapel_65 : decode cX12_chapel 65 = .ok (.aload_n 0, 1) := by decide +kernel
theorem dX12_chapel_66 : decode cX12_chapel 66 = .ok (.getfield 45, 3) := by decide +kernel
theorem dX12_chapel_69 : decode cX12_chapel 69 = .ok (.iload_n 1, 1) := by decide +kernel
theorem dX12_chapel_70 : decode cX12_chapel 70 = .ok (.baload, 1) := by decide +kernel
theorem dX12_chapel_71 : decode cX12_chapel 71 = .ok (.ifCond .eq 12, 3) := by decide +kernel
theorem dX12_chapel_74 : decode cX12_chapel 74 = .ok (.aload_n 0, 1) := by decide +kernel
theorem dX12_chapel_75 : decode cX12_chapel 75 = .ok (.getfield 27, 3) := by decide +kernel
theorem dX12_chapel_78 : decode cX12_chapel 78 = .ok (.iload_n 1, 1) := by decide +kernel
theorem dX12_chapel_79 : decode cX12_chapel 79 = .ok (.iaload, 1) := by decide +kernel
theorem dX12_chapel_80 : decode cX12_chapel 80 = .ok (.goto 4, 3) := by decide +kernel
theorem dX12_chapel_83 : decode cX12_chapel 83 = .ok (.iconst 0, 1) := by decide +kernel
theorem dX12_chapel_84 : decode cX12_chapel 84 = .ok (.iastore, 1) := by decide +kernel
theorem dX12_chapel_85 : decode cX12_chapel 85 = .ok (.sipush 320, 3) := by decide +kernel
theorem dX12_chapel_88 : decode cX12_chapel 88 = .ok (.iload_n 1, 1) := by decide +kernel
theorem dX12_chapel_89 : decode cX12_chapel 89 = .ok (.imul, 1) := by decide +kernel
theorem dX12_chapel_90 : decode cX12_chapel 90 = .ok (.istore_n 2, 1) := by decide +kernel
theorem dX12_chapel_91 : decode cX12_chapel 91 = .ok (.iload_n 2, 1) := by decide +kernel
theorem dX12_chapel_92 : decode cX12_chapel 92 = .ok (.sipush 320, 3) := by decide +kernel
theorem dX12_chapel_95 : decode cX12_chapel 95 = .ok (.iload_n 1, 1) := by decide +kernel
theorem dX12_chapel_96 : decode cX12_chapel 96 = .ok (.imul, 1) := by decide +kernel
theorem dX12_chapel_97 : decode cX12_chapel 97 = .ok (.aload_n 0, 1) := by decide +kernel
theorem dX12_chapel_98 : decode cX12_chapel 98 = .ok (.getfield 36, 3) := by decide +kernel
theorem dX12_chapel_101 : decode cX12_chapel 101 = .ok (.iload_n 1, 1) := by decide +kernel
theorem dX12_chapel_102 : decode cX12_chapel 102 = .ok (.iaload, 1) := by decide +kernel
theorem dX12_chapel_103 : decode cX12_chapel 103 = .ok (.iadd, 1) := by decide +kernel
theorem dX12_chapel_104 : decode cX12_chapel 104 = .ok (.if_icmp .ge 33, 3) := by decide +kernel
theorem dX12_chapel_107 : decode cX12_chapel 107 = .ok (.aload_n 0, 1) := by decide +kernel
theorem dX12_chapel_108 : decode cX12_chapel 108 = .ok (.getfield 30, 3) := by decide +kernel
theorem dX12_chapel_111 : decode cX12_chapel 111 = .ok (.iload_n 2, 1) := by decide +kernel
theorem dX12_chapel_112 : decode cX12_chapel 112 = .ok (.aload_n 0, 1) := by decide +kernel
theorem dX12_chapel_113 : decode cX12_chapel 113 = .ok (.getfield 21, 3) := by decide +kernel
theorem dX12_chapel_116 : decode cX12_chapel 116 = .ok (.iload_n 2, 1) := by decide +kernel
theorem dX12_chapel_117 : decode cX12_chapel 117 = .ok (.iaload, 1) := by decide +kernel
theorem dX12_chapel_118 : decode cX12_chapel 118 = .ok (.iastore, 1) := by decide +kernel
theorem dX12_chapel_119 : decode cX12_chapel 119 = .ok (.aload_n 0, 1) := by decide +kernel
theorem dX12_chapel_120 : decode cX12_chapel 120 = .ok (.getfield 33, 3) := by decide +kernel
theorem dX12_chapel_123 : decode cX12_chapel 123 = .ok (.iload_n 2, 1) := by decide +kernel
theorem dX12_chapel_124 : decode cX12_chapel 124 = .ok (.aload_n 0, 1) := by decide +kernel
theorem dX12_chapel_125 : decode cX12_chapel 125 = .ok (.getfield 24, 3) := by decide +kernel
theorem dX12_chapel_128 : decode cX12_chapel 128 = .ok (.iload_n 2, 1) := by decide +kernel
theorem dX12_chapel_129 : decode cX12_chapel 129 = .ok (.iaload, 1) := by decide +kernel
theorem dX12_chapel_130 : decode cX12_chapel 130 = .ok (.iastore, 1) := by decide +kernel
theorem dX12_chapel_131 : decode cX12_chapel 131 = .ok (.iinc 2 1, 3) := by decide +kernel
theorem dX12_chapel_134 : decode cX12_chapel 134 = .ok (.goto (-43), 3) := by decide +kernel
theorem dX12_chapel_137 : decode cX12_chapel 137 = .ok (.iinc 1 1, 3) := by decide +kernel
theorem dX12_chapel_140 : decode cX12_chapel 140 = .ok (.goto (-85), 3) := by decide +kernel
theorem dX12_chapel_143 : decode cX12_chapel 143 = .ok (.iconst 0, 1) := by decide +kernel
theorem dX12_chapel_144 : decode cX12_chapel 144 = .ok (.istore_n 1, 1) := by decide +kernel
theorem dX12_chapel_145 : decode cX12_chapel 145 = .ok (.iload_n 1, 1) := by decide +kernel
theorem dX12_chapel_146 : decode cX12_chapel 146 = .ok (.aload_n 0, 1) := by decide +kernel
theorem dX12_chapel_147 : decode cX12_chapel 147 = .ok (.getfield 392, 3) := by decide +kernel
theorem dX12_chapel_150 : decode cX12_chapel 150 = .ok (.if_icmp .ge 57, 3) := by decide +kernel
theorem dX12_chapel_153 : decode cX12_chapel 153 = .ok (.aload_n 0, 1) := by decide +kernel
theorem dX12_chapel_154 : decode cX12_chapel 154 = .ok (.getfield 76, 3) := by decide +kernel
theorem dX12_chapel_157 : decode cX12_chapel 157 = .ok (.iload_n 1, 1) := by decide +kernel
theorem dX12_chapel_158 : decode cX12_chapel 158 = .ok (.aload_n 0, 1) := by decide +kernel
theorem dX12_chapel_159 : decode cX12_chapel 159 = .ok (.getfield 52, 3) := by decide +kernel
theorem dX12_chapel_162 : decode cX12_chapel 162 = .ok (.iload_n 1, 1) := by decide +kernel
theorem dX12_chapel_163 : decode cX12_chapel 163 = .ok (.iaload, 1) := by decide +kernel
theorem dX12_chapel_164 : decode cX12_chapel 164 = .ok (.iastore, 1) := by decide +kernel
theorem dX12_chapel_165 : decode cX12_chapel 165 = .ok (.aload_n 0, 1) := by decide +kernel
theorem dX12_chapel_166 : decode cX12_chapel 166 = .ok (.getfield 79, 3) := by decide +kernel
theorem dX12_chapel_169 : decode cX12_chapel 169 = .ok (.iload_n 1, 1) := by decide +kernel
theorem dX12_chapel_170 : decode cX12_chapel 170 = .ok (.aload_n 0, 1) := by decide +kernel
theorem dX12_chapel_171 : decode cX12_chapel 171 = .ok (.getfield 55, 3) := by decide +kernel
theorem dX12_chapel_174 : decode cX12_chapel 174 = .ok (.iload_n 1, 1) := by decide +kernel
theorem dX12_chapel_175 : decode cX12_chapel 175 = .ok (.iaload, 1) := by decide +kernel
theorem dX12_chapel_176 : decode cX12_chapel 176 = .ok (.iastore, 1) := by decide +kernel
theorem dX12_chapel_177 : decode cX12_chapel 177 = .ok (.aload_n 0, 1) := by decide +kernel
theorem dX12_chapel_178 : decode cX12_chapel 178 = .ok (.getfield 82, 3) := by decide +kernel
theorem dX12_chapel_181 : decode cX12_chapel 181 = .ok (.iload_n 1, 1) := by decide +kernel
theorem dX12_chapel_182 : decode cX12_chapel 182 = .ok (.aload_n 0, 1) := by decide +kernel
theorem dX12_chapel_183 : decode cX12_chapel 183 = .ok (.getfield 58, 3) := by decide +kernel
theorem dX12_chapel_186 : decode cX12_chapel 186 = .ok (.iload_n 1, 1) := by decide +kernel
theorem dX12_chapel_187 : decode cX12_chapel 187 = .ok (.iaload, 1) := by decide +kernel
theorem dX12_chapel_188 : decode cX12_chapel 188 = .ok (.iastore, 1) := by decide +kernel
theorem dX12_chapel_189 : decode cX12_chapel 189 = .ok (.aload_n 0, 1) := by decide +kernel
theorem dX12_chapel_190 : decode cX12_chapel 190 = .ok (.getfield 85, 3) := by decide +kernel
theorem dX12_chapel_193 : decode cX12_chapel 193 = .ok (.iload_n 1, 1) := by decide +kernel
theorem dX12_chapel_194 : decode cX12_chapel 194 = .ok (.aload_n 0, 1) := by decide +kernel
theorem dX12_chapel_195 : decode cX12_chapel 195 = .ok (.getfield 61, 3) := by decide +kernel
theorem dX12_chapel_198 : decode cX12_chapel 198 = .ok (.iload_n 1, 1) := by decide +kernel
theorem dX12_chapel_199 : decode cX12_chapel 199 = .ok (.iaload, 1) := by decide +kernel
theorem dX12_chapel_200 : decode cX12_chapel 200 = .ok (.iastore, 1) := by decide +kernel
theorem dX12_chapel_201 : decode cX12_chapel 201 = .ok (.iinc 1 1, 3) := by decide +kernel
theorem dX12_chapel_204 : decode cX12_chapel 204 = .ok (.goto (-59), 3) := by decide +kernel
theorem dX12_chapel_207 : decode cX12_chapel 207 = .ok (.iconst 0, 1) := by decide +kernel
theorem dX12_chapel_208 : decode cX12_chapel 208 = .ok (.istore_n 1, 1) := by decide +kernel
theorem dX12_chapel_209 : decode cX12_chapel 209 = .ok (.iload_n 1, 1) := by decide +kernel
theorem dX12_chapel_210 : decode cX12_chapel 210 = .ok (.aload_n 0, 1) := by decide +kernel
theorem dX12_chapel_211 : decode cX12_chapel 211 = .ok (.getfield 395, 3) := by decide +kernel
theorem dX12_chapel_214 : decode cX12_chapel 214 = .ok (.if_icmp .ge 57, 3) := by decide +kernel
theorem dX12_chapel_217 : decode cX12_chapel 217 = .ok (.aload_n 0, 1) := by decide +kernel
theorem dX12_chapel_218 : decode cX12_chapel 218 = .ok (.getfield 88, 3) := by decide +kernel
theorem dX12_chapel_221 : decode cX12_chapel 221 = .ok (.iload_n 1, 1) := by decide +kernel
theorem dX12_chapel_222 : decode cX12_chapel 222 = .ok (.aload_n 0, 1) := by decide +kernel
theorem dX12_chapel_223 : decode cX12_chapel 223 = .ok (.getfield 64, 3) := by decide +kernel
theorem dX12_chapel_226 : decode cX12_chapel 226 = .ok (.iload_n 1, 1) := by decide +kernel
theorem dX12_chapel_227 : decode cX12_chapel 227 = .ok (.iaload, 1) := by decide +kernel
theorem dX12_chapel_228 : decode cX12_chapel 228 = .ok (.iastore, 1) := by decide +kernel
theorem dX12_chapel_229 : decode cX12_chapel 229 = .ok (.aload_n 0, 1) := by decide +kernel
theorem dX12_chapel_230 : decode cX12_chapel 230 = .ok (.getfield 91, 3) := by decide +kernel
theorem dX12_chapel_233 : decode cX12_chapel 233 = .ok (.iload_n 1, 1) := by decide +kernel
theorem dX12_chapel_234 : decode cX12_chapel 234 = .ok (.aload_n 0, 1) := by decide +kernel
theorem dX12_chapel_235 : decode cX12_chapel 235 = .ok (.getfield 67, 3) := by decide +kernel
theorem dX12_chapel_238 : decode cX12_chapel 238 = .ok (.iload_n 1, 1) := by decide +kernel
theorem dX12_chapel_239 : decode cX12_chapel 239 = .ok (.iaload, 1) := by decide +kernel
theorem dX12_chapel_240 : decode cX12_chapel 240 = .ok (.iastore, 1) := by decide +kernel
theorem dX12_chapel_241 : decode cX12_chapel 241 = .ok (.aload_n 0, 1) := by decide +kernel
theorem dX12_chapel_242 : decode cX12_chapel 242 = .ok (.getfield 94, 3) := by decide +kernel
theorem dX12_chapel_245 : decode cX12_chapel 245 = .ok (.iload_n 1, 1) := by decide +kernel
theorem dX12_chapel_246 : decode cX12_chapel 246 = .ok (.aload_n 0, 1) := by decide +kernel
theorem dX12_chapel_247 : decode cX12_chapel 247 = .ok (.getfield 70, 3) := by decide +kernel
theorem dX12_chapel_250 : decode cX12_chapel 250 = .ok (.iload_n 1, 1) := by decide +kernel
theorem dX12_chapel_251 : decode cX12_chapel 251 = .ok (.iaload, 1) := by decide +kernel
theorem dX12_chapel_252 : decode cX12_chapel 252 = .ok (.iastore, 1) := by decide +kernel
theorem dX12_chapel_253 : decode cX12_chapel 253 = .ok (.aload_n 0, 1) := by decide +kernel
theorem dX12_chapel_254 : decode cX12_chapel 254 = .ok (.getfield 97, 3) := by decide +kernel
theorem dX12_chapel_257 : decode cX12_chapel 257 = .ok (.iload_n 1, 1) := by decide +kernel
theorem dX12_chapel_258 : decode cX12_chapel 258 = .ok (.aload_n 0, 1) := by decide +kernel
theorem dX12_chapel_259 : decode cX12_chapel 259 = .ok (.getfield 73, 3) := by decide +kernel
theorem dX12_chapel_262 : decode cX12_chapel 262 = .ok (.iload_n 1, 1) := by decide +kernel
theorem dX12_chapel_263 : decode cX12_chapel 263 = .ok (.iaload, 1) := by decide +kernel
theorem dX12_chapel_264 : decode cX12_chapel 264 = .ok (.iastore, 1) := by decide +kernel
theorem dX12_chapel_265 : decode cX12_chapel 265 = .ok (.iinc 1 1, 3) := by decide +kernel
theorem dX12_chapel_268 : decode cX12_chapel 268 = .ok (.goto (-59), 3) := by decide +kernel
theorem dX12_chapel_271 : decode cX12_chapel 271 = .ok (.aload_n 0, 1) := by decide +kernel
theorem dX12_chapel_272 : decode cX12_chapel 272 = .ok (.invokevirtual 404, 3) := by decide +kernel
theorem dX12_chapel_275 : decode cX12_chapel 275 = .ok (.aload_n 0, 1) := by decide +kernel
theorem dX12_chapel_276 : decode cX12_chapel 276 = .ok (.getfield 106, 3) := by decide +kernel
theorem dX12_chapel_279 : decode cX12_chapel 279 = .ok (.bipush 21, 2) := by decide +kernel
theorem dX12_chapel_281 : decode cX12_chapel 281 = .ok (.aload_n 0, 1) := by decide +kernel
theorem dX12_chapel_282 : decode cX12_chapel 282 = .ok (.getfield 383, 3) := by decide +kernel
theorem dX12_chapel_285 : decode cX12_chapel 285 = .ok (.iastore, 1) := by decide +kernel
theorem dX12_chapel_286 : decode cX12_chapel 286 = .ok (.aload_n 0, 1) := by decide +kernel
theorem dX12_chapel_287 : decode cX12_chapel 287 = .ok (.invokevirtual 407, 3) := by decide +kernel
theorem dX12_chapel_290 : decode cX12_chapel 290 = .ok (.aload_n 0, 1) := by decide +kernel
theorem dX12_chapel_291 : decode cX12_chapel 291 = .ok (.iconst 0, 1) := by decide +kernel
theorem dX12_chapel_292 : decode cX12_chapel 292 = .ok (.putfield 410, 3) := by decide +kernel
theorem dX12_chapel_295 : decode cX12_chapel 295 = .ok (.aload_n 0, 1) := by decide +kernel
theorem dX12_chapel_296 : decode cX12_chapel 296 = .ok (.iconst 0, 1) := by decide +kernel
theorem dX12_chapel_297 : decode cX12_chapel 297 = .ok (.putfield 413, 3) := by decide +kernel
theorem dX12_chapel_300 : decode cX12_chapel 300 = .ok (.aload_n 0, 1) := by decide +kernel
theorem dX12_chapel_301 : decode cX12_chapel 301 = .ok (.iconst 0, 1) := by decide +kernel
theorem dX12_chapel_302 : decode cX12_chapel 302 = .ok (.putfield 416, 3) := by decide +kernel
theorem dX12_chapel_305 : decode cX12_chapel 305 = .ok (.aload_n 0, 1) := by decide +kernel
theorem dX12_chapel_306 : decode cX12_chapel 306 = .ok (.iconst 0, 1) := by decide +kernel
theorem dX12_chapel_307 : decode cX12_chapel 307 = .ok (.putfield 419, 3) := by decide +kernel
theorem dX12_chapel_310 : decode cX12_chapel 310 = .ok (.iconst 0, 1) := by decide +kernel
theorem dX12_chapel_311 : decode cX12_chapel 311 = .ok (.istore_n 1, 1) := by decide +kernel
theorem dX12_chapel_312 : decode cX12_chapel 312 = .ok (.iload_n 1, 1) := by decide +kernel
theorem dX12_chapel_313 : decode cX12_chapel 313 = .ok (.iconst 3, 1) := by decide +kernel
theorem dX12_chapel_314 : decode cX12_chapel 314 = .ok (.if_icmp .ge 16, 3) := by decide +kernel
theorem dX12_chapel_317 : decode cX12_chapel 317 = .ok (.aload_n 0, 1) := by decide +kernel
theorem dX12_chapel_318 : decode cX12_chapel 318 = .ok (.getfield 160, 3) := by decide +kernel
theorem dX12_chapel_321 : decode cX12_chapel 321 = .ok (.iload_n 1, 1) := by decide +kernel
theorem dX12_chapel_322 : decode cX12_chapel 322 = .ok (.iconst 0, 1) := by decide +kernel
theorem dX12_chapel_323 : decode cX12_chapel 323 = .ok (.bastore, 1) := by decide +kernel
theorem dX12_chapel_324 : decode cX12_chapel 324 = .ok (.iinc 1 1, 3) := by decide +kernel
theorem dX12_chapel_327 : decode cX12_chapel 327 = .ok (.goto (-15), 3) := by decide +kernel
theorem dX12_chapel_330 : decode cX12_chapel 330 = .ok (.aload_n 0, 1) := by decide +kernel
theorem dX12_chapel_331 : decode cX12_chapel 331 = .ok (.getfield 395, 3) := by decide +kernel
theorem dX12_chapel_334 : decode cX12_chapel 334 = .ok (.ireturn, 1) := by decide +kernel
theorem dX12_fault_0 : decode cX12_fault 0 = .ok (.iload_n 1, 1) := by decide +kernel
theorem dX12_fault_1 : decode cX12_fault 1 = .ok (.ifCond .ne 10, 3) := by decide +kernel
theorem dX12_fault_4 : decode cX12_fault 4 = .ok (.aload_n 0, 1) := by decide +kernel
theorem dX12_fault_5 : decode cX12_fault 5 = .ok (.getfield 206, 3) := by decide +kernel
theorem dX12_fault_8 : decode cX12_fault 8 = .ok (.goto 16, 3) := by decide +kernel
theorem dX12_fault_11 : decode cX12_fault 11 = .ok (.iload_n 1, 1) := by decide +kernel
theorem dX12_fault_12 : decode cX12_fault 12 = .ok (.iconst 1, 1) := by decide +kernel
theorem dX12_fault_13 : decode cX12_fault 13 = .ok (.if_icmp .ne 10, 3) := by decide +kernel
theorem dX12_fault_16 : decode cX12_fault 16 = .ok (.aload_n 0, 1) := by decide +kernel
theorem dX12_fault_17 : decode cX12_fault 17 = .ok (.getfield 13, 3) := by decide +kernel
theorem dX12_fault_20 : decode cX12_fault 20 = .ok (.goto 4, 3) := by decide +kernel
theorem dX12_fault_23 : decode cX12_fault 23 = .ok (.iconst (-1), 1) := by decide +kernel
theorem dX12_fault_24 : decode cX12_fault 24 = .ok (.ireturn, 1) := by decide +kernel
theorem dX12_isIn_0 : decode cX12_isIn 0 = .ok (.iload_n 0, 1) := by decide +kernel
theorem dX12_isIn_1 : decode cX12_isIn 1 = .ok (.iload_n 1, 1) := by decide +kernel
theorem dX12_isIn_2 : decode cX12_isIn 2 = .ok (.if_icmp .lt 12, 3) := by decide +kernel
theorem dX12_isIn_5 : decode cX12_isIn 5 = .ok (.iload_n 0, 1) := by decide +kernel
theorem dX12_isIn_6 : decode cX12_isIn 6 = .ok (.iload_n 2, 1) := by decide +kernel
theorem dX12_isIn_7 : decode cX12_isIn 7 = .ok (.if_icmp .gt 7, 3) := by decide +kernel
theorem dX12_isIn_10 : decode cX12_isIn 10 = .ok (.iconst 1, 1) := by decide +kernel
theorem dX12_isIn_11 : decode cX12_isIn 11 = .ok (.goto 4, 3) := by decide +kernel
theorem dX12_isIn_14 : decode cX12_isIn 14 = .ok (.iconst 0, 1) := by decide +kernel
theorem dX12_isIn_15 : decode cX12_isIn 15 = .ok (.ireturn, 1) := by decide +kernel
theorem dX12_isHearth_0 : decode cX12_isHearth 0 = .ok (.iload_n 1, 1) := by decide +kernel
theorem dX12_isHearth_1 : decode cX12_isHearth 1 = .ok (.iconst 0, 1) := by decide +kernel
theorem dX12_isHearth_2 : decode cX12_isHearth 2 = .ok (.aload_n 0, 1) := by decide +kernel
theorem dX12_isHearth_3 : decode cX12_isHearth 3 = .ok (.getfield 392, 3) := by decide +kernel
theorem dX12_isHearth_6 : decode cX12_isHearth 6 = .ok (.iconst 1, 1) := by decide +kernel
theorem dX12_isHearth_7 : decode cX12_isHearth 7 = .ok (.isub, 1) := by decide +kernel
theorem dX12_isHearth_8 : decode cX12_isHearth 8 = .ok (.invokestatic 422, 3) := by decide +kernel
theorem dX12_isHearth_11 : decode cX12_isHearth 11 = .ok (.ireturn, 1) := by decide +kernel
theorem dX12_isStool_0 : decode cX12_isStool 0 = .ok (.iload_n 1, 1) := by decide +kernel
theorem dX12_isStool_1 : decode cX12_isStool 1 = .ok (.iconst 0, 1) := by decide +kernel
theorem dX12_isStool_2 : decode cX12_isStool 2 = .ok (.aload_n 0, 1) := by decide +kernel
theorem dX12_isStool_3 : decode cX12_isStool 3 = .ok (.getfield 395, 3) := by decide +kernel
theorem dX12_isStool_6 : decode cX12_isStool 6 = .ok (.iconst 1, 1) := by decide +kernel
theorem dX12_isStool_7 : decode cX12_isStool 7 = .ok (.isub, 1) := by decide +kernel
theorem dX12_isStool_8 : decode cX12_isStool 8 = .ok (.invokestatic 422, 3) := by decide +kernel
theorem dX12_isStool_11 : decode cX12_isStool 11 = .ok (.ireturn, 1) := by decide +kernel
theorem dX12_members_0 : decode cX12_members 0 = .ok (.iconst 0, 1) := by decide +kernel
theorem dX12_members_1 : decode cX12_members 1 = .ok (.istore_n 1, 1) := by decide +kernel
theorem dX12_members_2 : decode cX12_members 2 = .ok (.iconst 0, 1) := by decide +kernel
theorem dX12_members_3 : decode cX12_members 3 = .ok (.istore_n 2, 1) := by decide +kernel
theorem dX12_members_4 : decode cX12_members 4 = .ok (.iload_n 2, 1) := by decide +kernel
theorem dX12_members_5 : decode cX12_members 5 = .ok (.bipush 6, 2) := by decide +kernel
theorem dX12_members_7 : decode cX12_members 7 = .ok (.if_icmp .ge 17, 3) := by decide +kernel
theorem dX12_members_10 : decode cX12_members 10 = .ok (.iload_n 1, 1) := by decide +kernel
theorem dX12_members_11 : decode cX12_members 11 = .ok (.iload_n 0, 1) := by decide +kernel
theorem dX12_members_12 : decode cX12_members 12 = .ok (.iload_n 2, 1) := by decide +kernel
theorem dX12_members_13 : decode cX12_members 13 = .ok (.ishr, 1) := by decide +kernel
theorem dX12_members_14 : decode cX12_members 14 = .ok (.iconst 1, 1) := by decide +kernel
theorem dX12_members_15 : decode cX12_members 15 = .ok (.iand, 1) := by decide +kernel
theorem dX12_members_16 : decode cX12_members 16 = .ok (.iadd, 1) := by decide +kernel
theorem dX12_members_17 : decode cX12_members 17 = .ok (.istore_n 1, 1) := by decide +kernel
theorem dX12_members_18 : decode cX12_members 18 = .ok (.iinc 2 1, 3) := by decide +kernel
theorem dX12_members_21 : decode cX12_members 21 = .ok (.goto (-17), 3) := by decide +kernel
theorem dX12_members_24 : decode cX12_members 24 = .ok (.iload_n 1, 1) := by decide +kernel
theorem dX12_members_25 : decode cX12_members 25 = .ok (.ireturn, 1) := by decide +kernel
theorem dX12_plain_0 : decode cX12_plain 0 = .ok (.iload_n 0, 1) := by decide +kernel
theorem dX12_plain_1 : decode cX12_plain 1 = .ok (.ifCond .ge 8, 3) := by decide +kernel
theorem dX12_plain_4 : decode cX12_plain 4 = .ok (.iload_n 0, 1) := by decide +kernel
theorem dX12_plain_5 : decode cX12_plain 5 = .ok (.ineg, 1) := by decide +kernel
theorem dX12_plain_6 : decode cX12_plain 6 = .ok (.goto 4, 3) := by decide +kernel
theorem dX12_plain_9 : decode cX12_plain 9 = .ok (.iload_n 0, 1) := by decide +kernel
theorem dX12_plain_10 : decode cX12_plain 10 = .ok (.ireturn, 1) := by decide +kernel
theorem dX12_fill_0 : decode cX12_fill 0 = .ok (.iconst 0, 1) := by decide +kernel
theorem dX12_fill_1 : decode cX12_fill 1 = .ok (.istore_n 1, 1) := by decide +kernel
theorem dX12_fill_2 : decode cX12_fill 2 = .ok (.iload_n 1, 1) := by decide +kernel
theorem dX12_fill_3 : decode cX12_fill 3 = .ok (.bipush 22, 2) := by decide +kernel
theorem dX12_fill_5 : decode cX12_fill 5 = .ok (.if_icmp .ge 21, 3) := by decide +kernel
theorem dX12_fill_8 : decode cX12_fill 8 = .ok (.aload_n 0, 1) := by decide +kernel
theorem dX12_fill_9 : decode cX12_fill 9 = .ok (.getfield 106, 3) := by decide +kernel
theorem dX12_fill_12 : decode cX12_fill 12 = .ok (.iload_n 1, 1) := by decide +kernel
theorem dX12_fill_13 : decode cX12_fill 13 = .ok (.aload_n 0, 1) := by decide +kernel
theorem dX12_fill_14 : decode cX12_fill 14 = .ok (.getfield 103, 3) := by decide +kernel
theorem dX12_fill_17 : decode cX12_fill 17 = .ok (.iload_n 1, 1) := by decide +kernel
theorem dX12_fill_18 : decode cX12_fill 18 = .ok (.iaload, 1) := by decide +kernel
theorem dX12_fill_19 : decode cX12_fill 19 = .ok (.iastore, 1) := by decide +kernel
theorem dX12_fill_20 : decode cX12_fill 20 = .ok (.iinc 1 1, 3) := by decide +kernel
theorem dX12_fill_23 : decode cX12_fill 23 = .ok (.goto (-21), 3) := by decide +kernel
theorem dX12_fill_26 : decode cX12_fill 26 = .ok (.return_, 1) := by decide +kernel
theorem dX12_keepAir_0 : decode cX12_keepAir 0 = .ok (.iconst 0, 1) := by decide +kernel
theorem dX12_keepAir_1 : decode cX12_keepAir 1 = .ok (.istore_n 1, 1) := by decide +kernel
theorem dX12_keepAir_2 : decode cX12_keepAir 2 = .ok (.iload_n 1, 1) := by decide +kernel
theorem dX12_keepAir_3 : decode cX12_keepAir 3 = .ok (.bipush 22, 2) := by decide +kernel
theorem dX12_keepAir_5 : decode cX12_keepAir 5 = .ok (.if_icmp .ge 21, 3) := by decide +kernel
theorem dX12_keepAir_8 : decode cX12_keepAir 8 = .ok (.aload_n 0, 1) := by decide +kernel
theorem dX12_keepAir_9 : decode cX12_keepAir 9 = .ok (.getfield 103, 3) := by decide +kernel
theorem dX12_keepAir_12 : decode cX12_keepAir 12 = .ok (.iload_n 1, 1) := by decide +kernel
theorem dX12_keepAir_13 : decode cX12_keepAir 13 = .ok (.aload_n 0, 1) := by decide +kernel
theorem dX12_keepAir_14 : decode cX12_keepAir 14 = .ok (.getfield 106, 3) := by decide +kernel
theorem dX12_keepAir_17 : decode cX12_keepAir 17 = .ok (.iload_n 1, 1) := by decide +kernel
theorem dX12_keepAir_18 : decode cX12_keepAir 18 = .ok (.iaload, 1) := by decide +kernel
theorem dX12_keepAir_19 : decode cX12_keepAir 19 = .ok (.iastore, 1) := by decide +kernel
theorem dX12_keepAir_20 : decode cX12_keepAir 20 = .ok (.iinc 1 1, 3) := by decide +kernel
theorem dX12_keepAir_23 : decode cX12_keepAir 23 = .ok (.goto (-21), 3) := by decide +kernel
theorem dX12_keepAir_26 : decode cX12_keepAir 26 = .ok (.return_, 1) := by decide +kernel
theorem dX12_begin_0 : decode cX12_begin 0 = .ok (.iconst 0, 1) := by decide +kernel
theorem dX12_begin_1 : decode cX12_begin 1 = .ok (.istore_n 1, 1) := by decide +kernel
theorem dX12_begin_2 : decode cX12_begin 2 = .ok (.iload_n 1, 1) := by decide +kernel
theorem dX12_begin_3 : decode cX12_begin 3 = .ok (.bipush 22, 2) := by decide +kernel
theorem dX12_begin_5 : decode cX12_begin 5 = .ok (.if_icmp .ge 16, 3) := by decide +kernel
theorem dX12_begin_8 : decode cX12_begin 8 = .ok (.aload_n 0, 1) := by decide +kernel
theorem dX12_begin_9 : decode cX12_begin 9 = .ok (.getfield 106, 3) := by decide +kernel
theorem dX12_begin_12 : decode cX12_begin 12 = .ok (.iload_n 1, 1) := by decide +kernel
theorem dX12_begin_13 : decode cX12_begin 13 = .ok (.iconst 0, 1) := by decide +kernel
theorem dX12_begin_14 : decode cX12_begin 14 = .ok (.iastore, 1) := by decide +kernel
theorem dX12_begin_15 : decode cX12_begin 15 = .ok (.iinc 1 1, 3) := by decide +kernel
theorem dX12_begin_18 : decode cX12_begin 18 = .ok (.goto (-16), 3) := by decide +kernel
theorem dX12_begin_21 : decode cX12_begin 21 = .ok (.iconst 0, 1) := by decide +kernel
theorem dX12_begin_22 : decode cX12_begin 22 = .ok (.istore_n 1, 1) := by decide +kernel
theorem dX12_begin_23 : decode cX12_begin 23 = .ok (.iload_n 1, 1) := by decide +kernel
theorem dX12_begin_24 : decode cX12_begin 24 = .ok (.aload_n 0, 1) := by decide +kernel
theorem dX12_begin_25 : decode cX12_begin 25 = .ok (.getfield 395, 3) := by decide +kernel
theorem dX12_begin_28 : decode cX12_begin 28 = .ok (.if_icmp .ge 45, 3) := by decide +kernel
theorem dX12_begin_31 : decode cX12_begin 31 = .ok (.aload_n 0, 1) := by decide +kernel
theorem dX12_begin_32 : decode cX12_begin 32 = .ok (.getfield 106, 3) := by decide +kernel
theorem dX12_begin_35 : decode cX12_begin 35 = .ok (.iload_n 1, 1) := by decide +kernel
theorem dX12_begin_36 : decode cX12_begin 36 = .ok (.aload_n 0, 1) := by decide +kernel
theorem dX12_begin_37 : decode cX12_begin 37 = .ok (.getfield 91, 3) := by decide +kernel
theorem dX12_begin_40 : decode cX12_begin 40 = .ok (.iload_n 1, 1) := by decide +kernel
theorem dX12_begin_41 : decode cX12_begin 41 = .ok (.iaload, 1) := by decide +kernel
theorem dX12_begin_42 : decode cX12_begin 42 = .ok (.iastore, 1) := by decide +kernel
theorem dX12_begin_43 : decode cX12_begin 43 = .ok (.aload_n 0, 1) := by decide +kernel
theorem dX12_begin_44 : decode cX12_begin 44 = .ok (.getfield 106, 3) := by decide +kernel
theorem dX12_begin_47 : decode cX12_begin 47 = .ok (.iconst 5, 1) := by decide +kernel
theorem dX12_begin_48 : decode cX12_begin 48 = .ok (.iload_n 1, 1) := by decide +kernel
theorem dX12_begin_49 : decode cX12_begin 49 = .ok (.iadd, 1) := by decide +kernel
theorem dX12_begin_50 : decode cX12_begin 50 = .ok (.aload_n 0, 1) := by decide +kernel
theorem dX12_begin_51 : decode cX12_begin 51 = .ok (.getfield 97, 3) := by decide +kernel
theorem dX12_begin_54 : decode cX12_begin 54 = .ok (.iload_n 1, 1) := by decide +kernel
theorem dX12_begin_55 : decode cX12_begin 55 = .ok (.iaload, 1) := by decide +kernel
theorem dX12_begin_56 : decode cX12_begin 56 = .ok (.iastore, 1) := by decide +kernel
theorem dX12_begin_57 : decode cX12_begin 57 = .ok (.aload_n 0, 1) := by decide +kernel
theorem dX12_begin_58 : decode cX12_begin 58 = .ok (.getfield 106, 3) := by decide +kernel
theorem dX12_begin_61 : decode cX12_begin 61 = .ok (.bipush 15, 2) := by decide +kernel
theorem dX12_begin_63 : decode cX12_begin 63 = .ok (.iload_n 1, 1) := by decide +kernel
theorem dX12_begin_64 : decode cX12_begin 64 = .ok (.iadd, 1) := by decide +kernel
theorem dX12_begin_65 : decode cX12_begin 65 = .ok (.iconst (-1), 1) := by decide +kernel
theorem dX12_begin_66 : decode cX12_begin 66 = .ok (.iastore, 1) := by decide +kernel
theorem dX12_begin_67 : decode cX12_begin 67 = .ok (.iinc 1 1, 3) := by decide +kernel
theorem dX12_begin_70 : decode cX12_begin 70 = .ok (.goto (-47), 3) := by decide +kernel
theorem dX12_begin_73 : decode cX12_begin 73 = .ok (.return_, 1) := by decide +kernel
theorem dX12_callAll_0 : decode cX12_callAll 0 = .ok (.iconst 0, 1) := by decide +kernel
theorem dX12_callAll_1 : decode cX12_callAll 1 = .ok (.istore_n 1, 1) := by decide +kernel
theorem dX12_callAll_2 : decode cX12_callAll 2 = .ok (.iload_n 1, 1) := by decide +kernel
theorem dX12_callAll_3 : decode cX12_callAll 3 = .ok (.aload_n 0, 1) := by decide +kernel
theorem dX12_callAll_4 : decode cX12_callAll 4 = .ok (.getfield 395, 3) := by decide +kernel
theorem dX12_callAll_7 : decode cX12_callAll 7 = .ok (.if_icmp .ge 19, 3) := by decide +kernel
theorem dX12_callAll_10 : decode cX12_callAll 10 = .ok (.aload_n 0, 1) := by decide +kernel
theorem dX12_callAll_11 : decode cX12_callAll 11 = .ok (.getfield 106, 3) := by decide +kernel
theorem dX12_callAll_14 : decode cX12_callAll 14 = .ok (.bipush 15, 2) := by decide +kernel
theorem dX12_callAll_16 : decode cX12_callAll 16 = .ok (.iload_n 1, 1) := by decide +kernel
theorem dX12_callAll_17 : decode cX12_callAll 17 = .ok (.iadd, 1) := by decide +kernel
theorem dX12_callAll_18 : decode cX12_callAll 18 = .ok (.iconst (-1), 1) := by decide +kernel
theorem dX12_callAll_19 : decode cX12_callAll 19 = .ok (.iastore, 1) := by decide +kernel
theorem dX12_callAll_20 : decode cX12_callAll 20 = .ok (.iinc 1 1, 3) := by decide +kernel
theorem dX12_callAll_23 : decode cX12_callAll 23 = .ok (.goto (-21), 3) := by decide +kernel
theorem dX12_callAll_26 : decode cX12_callAll 26 = .ok (.return_, 1) := by decide +kernel
theorem dX12_sentTo_0 : decode cX12_sentTo 0 = .ok (.iconst 0, 1) := by decide +kernel
theorem dX12_sentTo_1 : decode cX12_sentTo 1 = .ok (.istore_n 2, 1) := by decide +kernel
theorem dX12_sentTo_2 : decode cX12_sentTo 2 = .ok (.iconst 0, 1) := by decide +kernel
theorem dX12_sentTo_3 : decode cX12_sentTo 3 = .ok (.istore_n 3, 1) := by decide +kernel
theorem dX12_sentTo_4 : decode cX12_sentTo 4 = .ok (.iload_n 3, 1) := by decide +kernel
theorem dX12_sentTo_5 : decode cX12_sentTo 5 = .ok (.aload_n 0, 1) := by decide +kernel
theorem dX12_sentTo_6 : decode cX12_sentTo 6 = .ok (.getfield 395, 3) := by decide +kernel
theorem dX12_sentTo_9 : decode cX12_sentTo 9 = .ok (.if_icmp .ge 35, 3) := by decide +kernel
theorem dX12_sentTo_12 : decode cX12_sentTo 12 = .ok (.iload_n 2, 1) := by decide +kernel
theorem dX12_sentTo_13 : decode cX12_sentTo 13 = .ok (.aload_n 0, 1) := by decide +kernel
theorem dX12_sentTo_14 : decode cX12_sentTo 14 = .ok (.getfield 106, 3) := by decide +kernel
theorem dX12_sentTo_17 : decode cX12_sentTo 17 = .ok (.bipush 15, 2) := by decide +kernel
theorem dX12_sentTo_19 : decode cX12_sentTo 19 = .ok (.iload_n 3, 1) := by decide +kernel
theorem dX12_sentTo_20 : decode cX12_sentTo 20 = .ok (.iadd, 1) := by decide +kernel
theorem dX12_sentTo_21 : decode cX12_sentTo 21 = .ok (.iaload, 1) := by decide +kernel
theorem dX12_sentTo_22 : decode cX12_sentTo 22 = .ok (.iload_n 1, 1) := by decide +kernel
theorem dX12_sentTo_23 : decode cX12_sentTo 23 = .ok (.if_icmp .ne 7, 3) := by decide +kernel
theorem dX12_sentTo_26 : decode cX12_sentTo 26 = .ok (.iconst 1, 1) := by decide +kernel
theorem dX12_sentTo_27 : decode cX12_sentTo 27 = .ok (.goto 4, 3) := by decide +kernel
theorem dX12_sentTo_30 : decode cX12_sentTo 30 = .ok (.iconst 0, 1) := by decide +kernel
theorem dX12_sentTo_31 : decode cX12_sentTo 31 = .ok (.invokestatic 329, 3) := by decide +kernel
theorem dX12_sentTo_34 : decode cX12_sentTo 34 = .ok (.iload_n 3, 1) := by decide +kernel
theorem dX12_sentTo_35 : decode cX12_sentTo 35 = .ok (.ishl, 1) := by decide +kernel
theorem dX12_sentTo_36 : decode cX12_sentTo 36 = .ok (.ior, 1) := by decide +kernel
theorem dX12_sentTo_37 : decode cX12_sentTo 37 = .ok (.istore_n 2, 1) := by decide +kernel
theorem dX12_sentTo_38 : decode cX12_sentTo 38 = .ok (.iinc 3 1, 3) := by decide +kernel
theorem dX12_sentTo_41 : decode cX12_sentTo 41 = .ok (.goto (-37), 3) := by decide +kernel
theorem dX12_sentTo_44 : decode cX12_sentTo 44 = .ok (.iload_n 2, 1) := by decide +kernel
theorem dX12_sentTo_45 : decode cX12_sentTo 45 = .ok (.ireturn, 1) := by decide +kernel
theorem dX12_quarrels_0 : decode cX12_quarrels 0 = .ok (.iconst 0, 1) := by decide +kernel
theorem dX12_quarrels_1 : decode cX12_quarrels 1 = .ok (.istore_n 2, 1) := by decide +kernel
theorem dX12_quarrels_2 : decode cX12_quarrels 2 = .ok (.iconst 0, 1) := by decide +kernel
theorem dX12_quarrels_3 : decode cX12_quarrels 3 = .ok (.istore_n 3, 1) := by decide +kernel
theorem dX12_quarrels_4 : decode cX12_quarrels 4 = .ok (.iload_n 3, 1) := by decide +kernel
theorem dX12_quarrels_5 : decode cX12_quarrels 5 = .ok (.aload_n 0, 1) := by decide +kernel
theorem dX12_quarrels_6 : decode cX12_quarrels 6 = .ok (.getfield 395, 3) := by decide +kernel
theorem dX12_quarrels_9 : decode cX12_quarrels 9 = .ok (.if_icmp .ge 77, 3) := by decide +kernel
theorem dX12_quarrels_12 : decode cX12_quarrels 12 = .ok (.iconst 0, 1) := by decide +kernel
theorem dX12_quarrels_13 : decode cX12_quarrels 13 = .ok (.istore 4, 2) := by decide +kernel
theorem dX12_quarrels_15 : decode cX12_quarrels 15 = .ok (.iload 4, 2) := by decide +kernel
theorem dX12_quarrels_17 : decode cX12_quarrels 17 = .ok (.iload_n 3, 1) := by decide +kernel
theorem dX12_quarrels_18 : decode cX12_quarrels 18 = .ok (.if_icmp .ge 62, 3) := by decide +kernel
theorem dX12_quarrels_21 : decode cX12_quarrels 21 = .ok (.iload_n 2, 1) := by decide +kernel
theorem dX12_quarrels_22 : decode cX12_quarrels 22 = .ok (.ifCond .ne 46, 3) := by decide +kernel
theorem dX12_quarrels_25 : decode cX12_quarrels 25 = .ok (.aload_n 0, 1) := by decide +kernel
theorem dX12_quarrels_26 : decode cX12_quarrels 26 = .ok (.getfield 106, 3) := by decide +kernel
theorem dX12_quarrels_29 : decode cX12_quarrels 29 = .ok (.bipush 15, 2) := by decide +kernel
theorem dX12_quarrels_31 : decode cX12_quarrels 31 = .ok (.iload_n 3, 1) := by decide +kernel
theorem dX12_quarrels_32 : decode cX12_quarrels 32 = .ok (.iadd, 1) := by decide +kernel
theorem dX12_quarrels_33 : decode cX12_quarrels 33 = .ok (.iaload, 1) := by decide +kernel
theorem dX12_quarrels_34 : decode cX12_quarrels 34 = .ok (.iload_n 1, 1) := by decide +kernel
theorem dX12_quarrels_35 : decode cX12_quarrels 35 = .ok (.if_icmp .ne 37, 3) := by decide +kernel
theorem dX12_quarrels_38 : decode cX12_quarrels 38 = .ok (.aload_n 0, 1) := by decide +kernel
theorem dX12_quarrels_39 : decode cX12_quarrels 39 = .ok (.getfield 106, 3) := by decide +kernel
theorem dX12_quarrels_42 : decode cX12_quarrels 42 = .ok (.bipush 15, 2) := by decide +kernel
theorem dX12_quarrels_44 : decode cX12_quarrels 44 = .ok (.iload 4, 2) := by decide +kernel
theorem dX12_quarrels_46 : decode cX12_quarrels 46 = .ok (.iadd, 1) := by decide +kernel
theorem dX12_quarrels_47 : decode cX12_quarrels 47 = .ok (.iaload, 1) := by decide +kernel
theorem dX12_quarrels_48 : decode cX12_quarrels 48 = .ok (.iload_n 1, 1) := by decide +kernel
theorem dX12_quarrels_49 : decode cX12_quarrels 49 = .ok (.if_icmp .ne 23, 3) := by decide +kernel
theorem dX12_quarrels_52 : decode cX12_quarrels 52 = .ok (.aload_n 0, 1) := by decide +kernel
theorem dX12_quarrels_53 : decode cX12_quarrels 53 = .ok (.getfield 94, 3) := by decide +kernel
theorem dX12_quarrels_56 : decode cX12_quarrels 56 = .ok (.iload_n 3, 1) := by decide +kernel
theorem dX12_quarrels_57 : decode cX12_quarrels 57 = .ok (.iaload, 1) := by decide +kernel
theorem dX12_quarrels_58 : decode cX12_quarrels 58 = .ok (.aload_n 0, 1) := by decide +kernel
theorem dX12_quarrels_59 : decode cX12_quarrels 59 = .ok (.getfield 94, 3) := by decide +kernel
theorem dX12_quarrels_62 : decode cX12_quarrels 62 = .ok (.iload 4, 2) := by decide +kernel
theorem dX12_quarrels_64 : decode cX12_quarrels 64 = .ok (.iaload, 1) := by decide +kernel
theorem dX12_quarrels_65 : decode cX12_quarrels 65 = .ok (.if_icmp .eq 7, 3) := by decide +kernel
theorem dX12_quarrels_68 : decode cX12_quarrels 68 = .ok (.iconst 1, 1) := by decide +kernel
theorem dX12_quarrels_69 : decode cX12_quarrels 69 = .ok (.goto 4, 3) := by decide +kernel
theorem dX12_quarrels_72 : decode cX12_quarrels 72 = .ok (.iconst 0, 1) := by decide +kernel
theorem dX12_quarrels_73 : decode cX12_quarrels 73 = .ok (.istore_n 2, 1) := by decide +kernel
theorem dX12_quarrels_74 : decode cX12_quarrels 74 = .ok (.iinc 4 1, 3) := by decide +kernel
theorem dX12_quarrels_77 : decode cX12_quarrels 77 = .ok (.goto (-62), 3) := by decide +kernel
theorem dX12_quarrels_80 : decode cX12_quarrels 80 = .ok (.iinc 3 1, 3) := by decide +kernel
theorem dX12_quarrels_83 : decode cX12_quarrels 83 = .ok (.goto (-79), 3) := by decide +kernel
theorem dX12_quarrels_86 : decode cX12_quarrels 86 = .ok (.iload_n 2, 1) := by decide +kernel
theorem dX12_quarrels_87 : decode cX12_quarrels 87 = .ok (.ireturn, 1) := by decide +kernel
theorem dX12_loadAt_0 : decode cX12_loadAt 0 = .ok (.aload_n 0, 1) := by decide +kernel
theorem dX12_loadAt_1 : decode cX12_loadAt 1 = .ok (.iconst 0, 1) := by decide +kernel
theorem dX12_loadAt_2 : decode cX12_loadAt 2 = .ok (.iload_n 1, 1) := by decide +kernel
theorem dX12_loadAt_3 : decode cX12_loadAt 3 = .ok (.iload_n 2, 1) := by decide +kernel
theorem dX12_loadAt_4 : decode cX12_loadAt 4 = .ok (.iload_n 3, 1) := by decide +kernel
theorem dX12_loadAt_5 : decode cX12_loadAt 5 = .ok (.aload_n 0, 1) := by decide +kernel
theorem dX12_loadAt_6 : decode cX12_loadAt 6 = .ok (.iload_n 2, 1) := by decide +kernel
theorem dX12_loadAt_7 : decode cX12_loadAt 7 = .ok (.invokevirtual 336, 3) := by decide +kernel
theorem dX12_loadAt_10 : decode cX12_loadAt 10 = .ok (.iload_n 3, 1) := by decide +kernel
theorem dX12_loadAt_11 : decode cX12_loadAt 11 = .ok (.iadd, 1) := by decide +kernel
theorem dX12_loadAt_12 : decode cX12_loadAt 12 = .ok (.iconst 1, 1) := by decide +kernel
theorem dX12_loadAt_13 : decode cX12_loadAt 13 = .ok (.isub, 1) := by decide +kernel
theorem dX12_loadAt_14 : decode cX12_loadAt 14 = .ok (.iload_n 3, 1) := by decide +kernel
theorem dX12_loadAt_15 : decode cX12_loadAt 15 = .ok (.idiv, 1) := by decide +kernel
theorem dX12_loadAt_16 : decode cX12_loadAt 16 = .ok (.sipush 999, 3) := by decide +kernel
theorem dX12_loadAt_19 : decode cX12_loadAt 19 = .ok (.invokevirtual 426, 3) := by decide +kernel
theorem dX12_loadAt_22 : decode cX12_loadAt 22 = .ok (.ireturn, 1) := by decide +kernel
theorem dX12_loadOf_0 : decode cX12_loadOf 0 = .ok (.aload_n 0, 1) := by decide +kernel
theorem dX12_loadOf_1 : decode cX12_loadOf 1 = .ok (.iload_n 1, 1) := by decide +kernel
theorem dX12_loadOf_2 : decode cX12_loadOf 2 = .ok (.aload_n 0, 1) := by decide +kernel
theorem dX12_loadOf_3 : decode cX12_loadOf 3 = .ok (.getfield 106, 3) := by decide +kernel
theorem dX12_loadOf_6 : decode cX12_loadOf 6 = .ok (.bipush 15, 2) := by decide +kernel
theorem dX12_loadOf_8 : decode cX12_loadOf 8 = .ok (.iload_n 1, 1) := by decide +kernel
theorem dX12_loadOf_9 : decode cX12_loadOf 9 = .ok (.iadd, 1) := by decide +kernel
theorem dX12_loadOf_10 : decode cX12_loadOf 10 = .ok (.iaload, 1) := by decide +kernel
theorem dX12_loadOf_11 : decode cX12_loadOf 11 = .ok (.aload_n 0, 1) := by decide +kernel
theorem dX12_loadOf_12 : decode cX12_loadOf 12 = .ok (.aload_n 0, 1) := by decide +kernel
theorem dX12_loadOf_13 : decode cX12_loadOf 13 = .ok (.getfield 106, 3) := by decide +kernel
theorem dX12_loadOf_16 : decode cX12_loadOf 16 = .ok (.bipush 15, 2) := by decide +kernel
theorem dX12_loadOf_18 : decode cX12_loadOf 18 = .ok (.iload_n 1, 1) := by decide +kernel
theorem dX12_loadOf_19 : decode cX12_loadOf 19 = .ok (.iadd, 1) := by decide +kernel
theorem dX12_loadOf_20 : decode cX12_loadOf 20 = .ok (.iaload, 1) := by decide +kernel
theorem dX12_loadOf_21 : decode cX12_loadOf 21 = .ok (.invokevirtual 430, 3) := by decide +kernel
theorem dX12_loadOf_24 : decode cX12_loadOf 24 = .ok (.invokestatic 433, 3) := by decide +kernel
theorem dX12_loadOf_27 : decode cX12_loadOf 27 = .ok (.invokevirtual 436, 3) := by decide +kernel
theorem dX12_loadOf_30 : decode cX12_loadOf 30 = .ok (.ireturn, 1) := by decide +kernel
theorem dX12_fareOf_0 : decode cX12_fareOf 0 = .ok (.aload_n 0, 1) := by decide +kernel
theorem dX12_fareOf_1 : decode cX12_fareOf 1 = .ok (.getfield 106, 3) := by decide +kernel
theorem dX12_fareOf_4 : decode cX12_fareOf 4 = .ok (.bipush 15, 2) := by decide +kernel
theorem dX12_fareOf_6 : decode cX12_fareOf 6 = .ok (.iload_n 1, 1) := by decide +kernel
theorem dX12_fareOf_7 : decode cX12_fareOf 7 = .ok (.iadd, 1) := by decide +kernel
theorem dX12_fareOf_8 : decode cX12_fareOf 8 = .ok (.iaload, 1) := by decide +kernel
theorem dX12_fareOf_9 : decode cX12_fareOf 9 = .ok (.istore_n 2, 1) := by decide +kernel
theorem dX12_fareOf_10 : decode cX12_fareOf 10 = .ok (.iload_n 2, 1) := by decide +kernel
theorem dX12_fareOf_11 : decode cX12_fareOf 11 = .ok (.ifCond .ge 5, 3) := by decide +kernel
theorem dX12_fareOf_14 : decode cX12_fareOf 14 = .ok (.iconst 0, 1) := by decide +kernel
theorem dX12_fareOf_15 : decode cX12_fareOf 15 = .ok (.ireturn, 1) := by decide +kernel
theorem dX12_fareOf_16 : decode cX12_fareOf 16 = .ok (.aload_n 0, 1) := by decide +kernel
theorem dX12_fareOf_17 : decode cX12_fareOf 17 = .ok (.iload_n 2, 1) := by decide +kernel
theorem dX12_fareOf_18 : decode cX12_fareOf 18 = .ok (.invokevirtual 439, 3) := by decide +kernel
theorem dX12_fareOf_21 : decode cX12_fareOf 21 = .ok (.ifCond .eq 5, 3) := by decide +kernel
theorem dX12_fareOf_24 : decode cX12_fareOf 24 = .ok (.iconst 3, 1) := by decide +kernel
theorem dX12_fareOf_25 : decode cX12_fareOf 25 = .ok (.ireturn, 1) := by decide +kernel
theorem dX12_fareOf_26 : decode cX12_fareOf 26 = .ok (.aload_n 0, 1) := by decide +kernel
theorem dX12_fareOf_27 : decode cX12_fareOf 27 = .ok (.iload_n 1, 1) := by decide +kernel
theorem dX12_fareOf_28 : decode cX12_fareOf 28 = .ok (.invokevirtual 442, 3) := by decide +kernel
theorem dX12_fareOf_31 : decode cX12_fareOf 31 = .ok (.aload_n 0, 1) := by decide +kernel
theorem dX12_fareOf_32 : decode cX12_fareOf 32 = .ok (.getfield 106, 3) := by decide +kernel
theorem dX12_fareOf_35 : decode cX12_fareOf 35 = .ok (.iload_n 1, 1) := by decide +kernel
theorem dX12_fareOf_36 : decode cX12_fareOf 36 = .ok (.iaload, 1) := by decide +kernel
theorem dX12_fareOf_37 : decode cX12_fareOf 37 = .ok (.if_icmp .gt 7, 3) := by decide +kernel
theorem dX12_fareOf_40 : decode cX12_fareOf 40 = .ok (.iconst 1, 1) := by decide +kernel
theorem dX12_fareOf_41 : decode cX12_fareOf 41 = .ok (.goto 4, 3) := by decide +kernel
theorem dX12_fareOf_44 : decode cX12_fareOf 44 = .ok (.iconst 2, 1) := by decide +kernel
theorem dX12_fareOf_45 : decode cX12_fareOf 45 = .ok (.ireturn, 1) := by decide +kernel
theorem dX12_whoFares_0 : decode cX12_whoFares 0 = .ok (.iconst 0, 1) := by decide +kernel
theorem dX12_whoFares_1 : decode cX12_whoFares 1 = .ok (.istore_n 2, 1) := by decide +kernel
theorem dX12_whoFares_2 : decode cX12_whoFares 2 = .ok (.iconst 0, 1) := by decide +kernel
theorem dX12_whoFares_3 : decode cX12_whoFares 3 = .ok (.istore_n 3, 1) := by decide +kernel
theorem dX12_whoFares_4 : decode cX12_whoFares 4 = .ok (.iload_n 3, 1) := by decide +kernel
theorem dX12_whoFares_5 : decode cX12_whoFares 5 = .ok (.aload_n 0, 1) := by decide +kernel
theorem dX12_whoFares_6 : decode cX12_whoFares 6 = .ok (.getfield 395, 3) := by decide +kernel
theorem dX12_whoFares_9 : decode cX12_whoFares 9 = .ok (.if_icmp .ge 31, 3) := by decide +kernel
theorem dX12_whoFares_12 : decode cX12_whoFares 12 = .ok (.iload_n 2, 1) := by decide +kernel
theorem dX12_whoFares_13 : decode cX12_whoFares 13 = .ok (.aload_n 0, 1) := by decide +kernel
theorem dX12_whoFares_14 : decode cX12_whoFares 14 = .ok (.iload_n 3, 1) := by decide +kernel
theorem dX12_whoFares_15 : decode cX12_whoFares 15 = .ok (.invokevirtual 445, 3) := by decide +kernel
theorem dX12_whoFares_18 : decode cX12_whoFares 18 = .ok (.iload_n 1, 1) := by decide +kernel
theorem dX12_whoFares_19 : decode cX12_whoFares 19 = .ok (.if_icmp .ne 7, 3) := by decide +kernel
theorem dX12_whoFares_22 : decode cX12_whoFares 22 = .ok (.iconst 1, 1) := by decide +kernel
theorem dX12_whoFares_23 : decode cX12_whoFares 23 = .ok (.goto 4, 3) := by decide +kernel
theorem dX12_whoFares_26 : decode cX12_whoFares 26 = .ok (.iconst 0, 1) := by decide +kernel
theorem dX12_whoFares_27 : decode cX12_whoFares 27 = .ok (.invokestatic 329, 3) := by decide +kernel
theorem dX12_whoFares_30 : decode cX12_whoFares 30 = .ok (.iload_n 3, 1) := by decide +kernel
theorem dX12_whoFares_31 : decode cX12_whoFares 31 = .ok (.ishl, 1) := by decide +kernel
theorem dX12_whoFares_32 : decode cX12_whoFares 32 = .ok (.ior, 1) := by decide +kernel
theorem dX12_whoFares_33 : decode cX12_whoFares 33 = .ok (.istore_n 2, 1) := by decide +kernel
theorem dX12_whoFares_34 : decode cX12_whoFares 34 = .ok (.iinc 3 1, 3) := by decide +kernel
theorem dX12_whoFares_37 : decode cX12_whoFares 37 = .ok (.goto (-33), 3) := by decide +kernel
theorem dX12_whoFares_40 : decode cX12_whoFares 40 = .ok (.iload_n 2, 1) := by decide +kernel
theorem dX12_whoFares_41 : decode cX12_whoFares 41 = .ok (.ireturn, 1) := by decide +kernel
theorem dX12_goEvening_0 : decode cX12_goEvening 0 = .ok (.iconst 0, 1) := by decide +kernel
theorem dX12_goEvening_1 : decode cX12_goEvening 1 = .ok (.istore_n 2, 1) := by decide +kernel
theorem dX12_goEvening_2 : decode cX12_goEvening 2 = .ok (.iload_n 2, 1) := by decide +kernel
theorem dX12_goEvening_3 : decode cX12_goEvening 3 = .ok (.aload_n 0, 1) := by decide +kernel
theorem dX12_goEvening_4 : decode cX12_goEvening 4 = .ok (.getfield 395, 3) := by decide +kernel
theorem dX12_goEvening_7 : decode cX12_goEvening 7 = .ok (.if_icmp .ge 99, 3) := by decide +kernel
theorem dX12_goEvening_10 : decode cX12_goEvening 10 = .ok (.aload_n 0, 1) := by decide +kernel
theorem dX12_goEvening_11 : decode cX12_goEvening 11 = .ok (.getfield 106, 3) := by decide +kernel
theorem dX12_goEvening_14 : decode cX12_goEvening 14 = .ok (.bipush 15, 2) := by decide +kernel
theorem dX12_goEvening_16 : decode cX12_goEvening 16 = .ok (.iload_n 2, 1) := by decide +kernel
theorem dX12_goEvening_17 : decode cX12_goEvening 17 = .ok (.iadd, 1) := by decide +kernel
theorem dX12_goEvening_18 : decode cX12_goEvening 18 = .ok (.iaload, 1) := by decide +kernel
theorem dX12_goEvening_19 : decode cX12_goEvening 19 = .ok (.istore_n 3, 1) := by decide +kernel
theorem dX12_goEvening_20 : decode cX12_goEvening 20 = .ok (.aload_n 0, 1) := by decide +kernel
theorem dX12_goEvening_21 : decode cX12_goEvening 21 = .ok (.getfield 109, 3) := by decide +kernel
theorem dX12_goEvening_24 : decode cX12_goEvening 24 = .ok (.iload_n 2, 1) := by decide +kernel
theorem dX12_goEvening_25 : decode cX12_goEvening 25 = .ok (.iload_n 3, 1) := by decide +kernel
theorem dX12_goEvening_26 : decode cX12_goEvening 26 = .ok (.ifCond .lt 16, 3) := by decide +kernel
theorem dX12_goEvening_29 : decode cX12_goEvening 29 = .ok (.iload_n 1, 1) := by decide +kernel
theorem dX12_goEvening_30 : decode cX12_goEvening 30 = .ok (.iload_n 3, 1) := by decide +kernel
theorem dX12_goEvening_31 : decode cX12_goEvening 31 = .ok (.ishr, 1) := by decide +kernel
theorem dX12_goEvening_32 : decode cX12_goEvening 32 = .ok (.iconst 1, 1) := by decide +kernel
theorem dX12_goEvening_33 : decode cX12_goEvening 33 = .ok (.iand, 1) := by decide +kernel
theorem dX12_goEvening_34 : decode cX12_goEvening 34 = .ok (.iconst 1, 1) := by decide +kernel
theorem dX12_goEvening_35 : decode cX12_goEvening 35 = .ok (.if_icmp .ne 7, 3) := by decide +kernel
theorem dX12_goEvening_38 : decode cX12_goEvening 38 = .ok (.iconst 3, 1) := by decide +kernel
theorem dX12_goEvening_39 : decode cX12_goEvening 39 = .ok (.goto 8, 3) := by decide +kernel
theorem dX12_goEvening_42 : decode cX12_goEvening 42 = .ok (.aload_n 0, 1) := by decide +kernel
theorem dX12_goEvening_43 : decode cX12_goEvening 43 = .ok (.iload_n 2, 1) := by decide +kernel
theorem dX12_goEvening_44 : decode cX12_goEvening 44 = .ok (.invokevirtual 445, 3) := by decide +kernel
theorem dX12_goEvening_47 : decode cX12_goEvening 47 = .ok (.iastore, 1) := by decide +kernel
theorem dX12_goEvening_48 : decode cX12_goEvening 48 = .ok (.aload_n 0, 1) := by decide +kernel
theorem dX12_goEvening_49 : decode cX12_goEvening 49 = .ok (.getfield 109, 3) := by decide +kernel
theorem dX12_goEvening_52 : decode cX12_goEvening 52 = .ok (.iload_n 2, 1) := by decide +kernel
theorem dX12_goEvening_53 : decode cX12_goEvening 53 = .ok (.iaload, 1) := by decide +kernel
theorem dX12_goEvening_54 : decode cX12_goEvening 54 = .ok (.iconst 1, 1) := by decide +kernel
theorem dX12_goEvening_55 : decode cX12_goEvening 55 = .ok (.if_icmp .eq 6, 3) := by decide +kernel
theorem dX12_goEvening_58 : decode cX12_goEvening 58 = .ok (.goto 42, 3) := by decide +kernel
theorem dX12_goEvening_61 : decode cX12_goEvening 61 = .ok (.aload_n 0, 1) := by decide +kernel
theorem dX12_goEvening_62 : decode cX12_goEvening 62 = .ok (.getfield 112, 3) := by decide +kernel
theorem dX12_goEvening_65 : decode cX12_goEvening 65 = .ok (.iload_n 2, 1) := by decide +kernel
theorem dX12_goEvening_66 : decode cX12_goEvening 66 = .ok (.aload_n 0, 1) := by decide +kernel
theorem dX12_goEvening_67 : decode cX12_goEvening 67 = .ok (.iload_n 2, 1) := by decide +kernel
theorem dX12_goEvening_68 : decode cX12_goEvening 68 = .ok (.invokevirtual 442, 3) := by decide +kernel
theorem dX12_goEvening_71 : decode cX12_goEvening 71 = .ok (.iastore, 1) := by decide +kernel
theorem dX12_goEvening_72 : decode cX12_goEvening 72 = .ok (.aload_n 0, 1) := by decide +kernel
theorem dX12_goEvening_73 : decode cX12_goEvening 73 = .ok (.getfield 115, 3) := by decide +kernel
theorem dX12_goEvening_76 : decode cX12_goEvening 76 = .ok (.iload_n 2, 1) := by decide +kernel
theorem dX12_goEvening_77 : decode cX12_goEvening 77 = .ok (.aload_n 0, 1) := by decide +kernel
theorem dX12_goEvening_78 : decode cX12_goEvening 78 = .ok (.iconst 1, 1) := by decide +kernel
theorem dX12_goEvening_79 : decode cX12_goEvening 79 = .ok (.iload_n 2, 1) := by decide +kernel
theorem dX12_goEvening_80 : decode cX12_goEvening 80 = .ok (.iload_n 3, 1) := by decide +kernel
theorem dX12_goEvening_81 : decode cX12_goEvening 81 = .ok (.aload_n 0, 1) := by decide +kernel
theorem dX12_goEvening_82 : decode cX12_goEvening 82 = .ok (.iload_n 3, 1) := by decide +kernel
theorem dX12_goEvening_83 : decode cX12_goEvening 83 = .ok (.invokevirtual 430, 3) := by decide +kernel
theorem dX12_goEvening_86 : decode cX12_goEvening 86 = .ok (.invokestatic 433, 3) := by decide +kernel
theorem dX12_goEvening_89 : decode cX12_goEvening 89 = .ok (.iconst 1, 1) := by decide +kernel
theorem dX12_goEvening_90 : decode cX12_goEvening 90 = .ok (.aload_n 0, 1) := by decide +kernel
theorem dX12_goEvening_91 : decode cX12_goEvening 91 = .ok (.getfield 106, 3) := by decide +kernel
theorem dX12_goEvening_94 : decode cX12_goEvening 94 = .ok (.iload_n 2, 1) := by decide +kernel
theorem dX12_goEvening_95 : decode cX12_goEvening 95 = .ok (.iaload, 1) := by decide +kernel
theorem dX12_goEvening_96 : decode cX12_goEvening 96 = .ok (.invokevirtual 426, 3) := by decide +kernel
theorem dX12_goEvening_99 : decode cX12_goEvening 99 = .ok (.iastore, 1) := by decide +kernel
theorem dX12_goEvening_100 : decode cX12_goEvening 100 = .ok (.iinc 2 1, 3) := by decide +kernel
theorem dX12_goEvening_103 : decode cX12_goEvening 103 = .ok (.goto (-101), 3) := by decide +kernel
theorem dX12_goEvening_106 : decode cX12_goEvening 106 = .ok (.iconst 0, 1) := by decide +kernel
theorem dX12_goEvening_107 : decode cX12_goEvening 107 = .ok (.istore_n 2, 1) := by decide +kernel
theorem dX12_goEvening_108 : decode cX12_goEvening 108 = .ok (.iload_n 2, 1) := by decide +kernel
theorem dX12_goEvening_109 : decode cX12_goEvening 109 = .ok (.aload_n 0, 1) := by decide +kernel
theorem dX12_goEvening_110 : decode cX12_goEvening 110 = .ok (.getfield 395, 3) := by decide +kernel
theorem dX12_goEvening_113 : decode cX12_goEvening 113 = .ok (.if_icmp .ge 147, 3) := by decide +kernel
theorem dX12_goEvening_116 : decode cX12_goEvening 116 = .ok (.aload_n 0, 1) := by decide +kernel
theorem dX12_goEvening_117 : decode cX12_goEvening 117 = .ok (.getfield 109, 3) := by decide +kernel
theorem dX12_goEvening_120 : decode cX12_goEvening 120 = .ok (.iload_n 2, 1) := by decide +kernel
theorem dX12_goEvening_121 : decode cX12_goEvening 121 = .ok (.iaload, 1) := by decide +kernel
theorem dX12_goEvening_122 : decode cX12_goEvening 122 = .ok (.ifCond .ne 29, 3) := by decide +kernel
theorem dX12_goEvening_125 : decode cX12_goEvening 125 = .ok (.aload_n 0, 1) := by decide +kernel
theorem dX12_goEvening_126 : decode cX12_goEvening 126 = .ok (.getfield 106, 3) := by decide +kernel
theorem dX12_goEvening_129 : decode cX12_goEvening 129 = .ok (.iload_n 2, 1) := by decide +kernel
theorem dX12_goEvening_130 : decode cX12_goEvening 130 = .ok (.aload_n 0, 1) := by decide +kernel
theorem dX12_goEvening_131 : decode cX12_goEvening 131 = .ok (.getfield 106, 3) := by decide +kernel
theorem dX12_goEvening_134 : decode cX12_goEvening 134 = .ok (.iload_n 2, 1) := by decide +kernel
theorem dX12_goEvening_135 : decode cX12_goEvening 135 = .ok (.iaload, 1) := by decide +kernel
theorem dX12_goEvening_136 : decode cX12_goEvening 136 = .ok (.iconst 2, 1) := by decide +kernel
theorem dX12_goEvening_137 : decode cX12_goEvening 137 = .ok (.iadd, 1) := by decide +kernel
theorem dX12_goEvening_138 : decode cX12_goEvening 138 = .ok (.aload_n 0, 1) := by decide +kernel
theorem dX12_goEvening_139 : decode cX12_goEvening 139 = .ok (.getfield 91, 3) := by decide +kernel
theorem dX12_goEvening_142 : decode cX12_goEvening 142 = .ok (.iload_n 2, 1) := by decide +kernel
theorem dX12_goEvening_143 : decode cX12_goEvening 143 = .ok (.iaload, 1) := by decide +kernel
theorem dX12_goEvening_144 : decode cX12_goEvening 144 = .ok (.invokestatic 343, 3) := by decide +kernel
theorem dX12_goEvening_147 : decode cX12_goEvening 147 = .ok (.iastore, 1) := by decide +kernel
theorem dX12_goEvening_148 : decode cX12_goEvening 148 = .ok (.goto 106, 3) := by decide +kernel
theorem dX12_goEvening_151 : decode cX12_goEvening 151 = .ok (.aload_n 0, 1) := by decide +kernel
theorem dX12_goEvening_152 : decode cX12_goEvening 152 = .ok (.getfield 109, 3) := by decide +kernel
theorem dX12_goEvening_155 : decode cX12_goEvening 155 = .ok (.iload_n 2, 1) := by decide +kernel
theorem dX12_goEvening_156 : decode cX12_goEvening 156 = .ok (.iaload, 1) := by decide +kernel
theorem dX12_goEvening_157 : decode cX12_goEvening 157 = .ok (.iconst 1, 1) := by decide +kernel
theorem dX12_goEvening_158 : decode cX12_goEvening 158 = .ok (.if_icmp .ne 76, 3) := by decide +kernel
theorem dX12_goEvening_161 : decode cX12_goEvening 161 = .ok (.aload_n 0, 1) := by decide +kernel
theorem dX12_goEvening_162 : decode cX12_goEvening 162 = .ok (.getfield 106, 3) := by decide +kernel
theorem dX12_goEvening_165 : decode cX12_goEvening 165 = .ok (.bipush 10, 2) := by decide +kernel
theorem dX12_goEvening_167 : decode cX12_goEvening 167 = .ok (.iload_n 2, 1) := by decide +kernel
theorem dX12_goEvening_168 : decode cX12_goEvening 168 = .ok (.iadd, 1) := by decide +kernel
theorem dX12_goEvening_169 : decode cX12_goEvening 169 = .ok (.aload_n 0, 1) := by decide +kernel
theorem dX12_goEvening_170 : decode cX12_goEvening 170 = .ok (.getfield 106, 3) := by decide +kernel
theorem dX12_goEvening_173 : decode cX12_goEvening 173 = .ok (.bipush 10, 2) := by decide +kernel
theorem dX12_goEvening_175 : decode cX12_goEvening 175 = .ok (.iload_n 2, 1) := by decide +kernel
theorem dX12_goEvening_176 : decode cX12_goEvening 176 = .ok (.iadd, 1) := by decide +kernel
theorem dX12_goEvening_177 : decode cX12_goEvening 177 = .ok (.iaload, 1) := by decide +kernel
theorem dX12_goEvening_178 : decode cX12_goEvening 178 = .ok (.iconst 1, 1) := by decide +kernel
theorem dX12_goEvening_179 : decode cX12_goEvening 179 = .ok (.iadd, 1) := by decide +kernel
theorem dX12_goEvening_180 : decode cX12_goEvening 180 = .ok (.bipush 99, 2) := by decide +kernel
theorem dX12_goEvening_182 : decode cX12_goEvening 182 = .ok (.invokestatic 343, 3) := by decide +kernel
theorem dX12_goEvening_185 : decode cX12_goEvening 185 = .ok (.iastore, 1) := by decide +kernel
theorem dX12_goEvening_186 : decode cX12_goEvening 186 = .ok (.aload_n 0, 1) := by decide +kernel
theorem dX12_goEvening_187 : decode cX12_goEvening 187 = .ok (.getfield 106, 3) := by decide +kernel
theorem dX12_goEvening_190 : decode cX12_goEvening 190 = .ok (.iconst 5, 1) := by decide +kernel
theorem dX12_goEvening_191 : decode cX12_goEvening 191 = .ok (.iload_n 2, 1) := by decide +kernel
theorem dX12_goEvening_192 : decode cX12_goEvening 192 = .ok (.iadd, 1) := by decide +kernel
theorem dX12_goEvening_193 : decode cX12_goEvening 193 = .ok (.aload_n 0, 1) := by decide +kernel
theorem dX12_goEvening_194 : decode cX12_goEvening 194 = .ok (.getfield 106, 3) := by decide +kernel
theorem dX12_goEvening_197 : decode cX12_goEvening 197 = .ok (.iconst 5, 1) := by decide +kernel
theorem dX12_goEvening_198 : decode cX12_goEvening 198 = .ok (.iload_n 2, 1) := by decide +kernel
theorem dX12_goEvening_199 : decode cX12_goEvening 199 = .ok (.iadd, 1) := by decide +kernel
theorem dX12_goEvening_200 : decode cX12_goEvening 200 = .ok (.iaload, 1) := by decide +kernel
theorem dX12_goEvening_201 : decode cX12_goEvening 201 = .ok (.aload_n 0, 1) := by decide +kernel
theorem dX12_goEvening_202 : decode cX12_goEvening 202 = .ok (.getfield 112, 3) := by decide +kernel
theorem dX12_goEvening_205 : decode cX12_goEvening 205 = .ok (.iload_n 2, 1) := by decide +kernel
theorem dX12_goEvening_206 : decode cX12_goEvening 206 = .ok (.iaload, 1) := by decide +kernel
theorem dX12_goEvening_207 : decode cX12_goEvening 207 = .ok (.iconst 5, 1) := by decide +kernel
theorem dX12_goEvening_208 : decode cX12_goEvening 208 = .ok (.idiv, 1) := by decide +kernel
theorem dX12_goEvening_209 : decode cX12_goEvening 209 = .ok (.iadd, 1) := by decide +kernel
theorem dX12_goEvening_210 : decode cX12_goEvening 210 = .ok (.bipush 99, 2) := by decide +kernel
theorem dX12_goEvening_212 : decode cX12_goEvening 212 = .ok (.invokestatic 343, 3) := by decide +kernel
theorem dX12_goEvening_215 : decode cX12_goEvening 215 = .ok (.iastore, 1) := by decide +kernel
theorem dX12_goEvening_216 : decode cX12_goEvening 216 = .ok (.aload_n 0, 1) := by decide +kernel
theorem dX12_goEvening_217 : decode cX12_goEvening 217 = .ok (.getfield 106, 3) := by decide +kernel
theorem dX12_goEvening_220 : decode cX12_goEvening 220 = .ok (.iload_n 2, 1) := by decide +kernel
theorem dX12_goEvening_221 : decode cX12_goEvening 221 = .ok (.dup2, 1) := by decide +kernel
theorem dX12_goEvening_222 : decode cX12_goEvening 222 = .ok (.iaload, 1) := by decide +kernel
theorem dX12_goEvening_223 : decode cX12_goEvening 223 = .ok (.aload_n 0, 1) := by decide +kernel
theorem dX12_goEvening_224 : decode cX12_goEvening 224 = .ok (.getfield 115, 3) := by decide +kernel
theorem dX12_goEvening_227 : decode cX12_goEvening 227 = .ok (.iload_n 2, 1) := by decide +kernel
theorem dX12_goEvening_228 : decode cX12_goEvening 228 = .ok (.iaload, 1) := by decide +kernel
theorem dX12_goEvening_229 : decode cX12_goEvening 229 = .ok (.isub, 1) := by decide +kernel
theorem dX12_goEvening_230 : decode cX12_goEvening 230 = .ok (.iastore, 1) := by decide +kernel
theorem dX12_goEvening_231 : decode cX12_goEvening 231 = .ok (.goto 23, 3) := by decide +kernel
theorem dX12_goEvening_234 : decode cX12_goEvening 234 = .ok (.aload_n 0, 1) := by decide +kernel
theorem dX12_goEvening_235 : decode cX12_goEvening 235 = .ok (.getfield 109, 3) := by decide +kernel
theorem dX12_goEvening_238 : decode cX12_goEvening 238 = .ok (.iload_n 2, 1) := by decide +kernel
theorem dX12_goEvening_239 : decode cX12_goEvening 239 = .ok (.iaload, 1) := by decide +kernel
theorem dX12_goEvening_240 : decode cX12_goEvening 240 = .ok (.iconst 2, 1) := by decide +kernel
theorem dX12_goEvening_241 : decode cX12_goEvening 241 = .ok (.if_icmp .ne 13, 3) := by decide +kernel
theorem dX12_goEvening_244 : decode cX12_goEvening 244 = .ok (.aload_n 0, 1) := by decide +kernel
theorem dX12_goEvening_245 : decode cX12_goEvening 245 = .ok (.getfield 106, 3) := by decide +kernel
theorem dX12_goEvening_248 : decode cX12_goEvening 248 = .ok (.iload_n 2, 1) := by decide +kernel
theorem dX12_goEvening_249 : decode cX12_goEvening 249 = .ok (.dup2, 1) := by decide +kernel
theorem dX12_goEvening_250 : decode cX12_goEvening 250 = .ok (.iaload, 1) := by decide +kernel
theorem dX12_goEvening_251 : decode cX12_goEvening 251 = .ok (.iconst 2, 1) := by decide +kernel
theorem dX12_goEvening_252 : decode cX12_goEvening 252 = .ok (.idiv, 1) := by decide +kernel
theorem dX12_goEvening_253 : decode cX12_goEvening 253 = .ok (.iastore, 1) := by decide +kernel
theorem dX12_goEvening_254 : decode cX12_goEvening 254 = .ok (.iinc 2 1, 3) := by decide +kernel
theorem dX12_goEvening_257 : decode cX12_goEvening 257 = .ok (.goto (-149), 3) := by decide +kernel
theorem dX12_goEvening_260 : decode cX12_goEvening 260 = .ok (.aload_n 0, 1) := by decide +kernel
theorem dX12_goEvening_261 : decode cX12_goEvening 261 = .ok (.getfield 106, 3) := by decide +kernel
theorem dX12_goEvening_264 : decode cX12_goEvening 264 = .ok (.bipush 20, 2) := by decide +kernel
theorem dX12_goEvening_266 : decode cX12_goEvening 266 = .ok (.dup2, 1) := by decide +kernel
theorem dX12_goEvening_267 : decode cX12_goEvening 267 = .ok (.iaload, 1) := by decide +kernel
theorem dX12_goEvening_268 : decode cX12_goEvening 268 = .ok (.iconst 1, 1) := by decide +kernel
theorem dX12_goEvening_269 : decode cX12_goEvening 269 = .ok (.iadd, 1) := by decide +kernel
theorem dX12_goEvening_270 : decode cX12_goEvening 270 = .ok (.iastore, 1) := by decide +kernel
theorem dX12_goEvening_271 : decode cX12_goEvening 271 = .ok (.return_, 1) := by decide +kernel
theorem dX12_drawCold_0 : decode cX12_drawCold 0 = .ok (.iconst 0, 1) := by decide +kernel
theorem dX12_drawCold_1 : decode cX12_drawCold 1 = .ok (.istore_n 1, 1) := by decide +kernel
theorem dX12_drawCold_2 : decode cX12_drawCold 2 = .ok (.iconst 0, 1) := by decide +kernel
theorem dX12_drawCold_3 : decode cX12_drawCold 3 = .ok (.istore_n 2, 1) := by decide +kernel
theorem dX12_drawCold_4 : decode cX12_drawCold 4 = .ok (.iload_n 2, 1) := by decide +kernel
theorem dX12_drawCold_5 : decode cX12_drawCold 5 = .ok (.aload_n 0, 1) := by decide +kernel
theorem dX12_drawCold_6 : decode cX12_drawCold 6 = .ok (.getfield 392, 3) := by decide +kernel
theorem dX12_drawCold_9 : decode cX12_drawCold 9 = .ok (.if_icmp .ge 64, 3) := by decide +kernel
theorem dX12_drawCold_12 : decode cX12_drawCold 12 = .ok (.aload_n 0, 1) := by decide +kernel
theorem dX12_drawCold_13 : decode cX12_drawCold 13 = .ok (.getfield 106, 3) := by decide +kernel
theorem dX12_drawCold_16 : decode cX12_drawCold 16 = .ok (.bipush 21, 2) := by decide +kernel
theorem dX12_drawCold_18 : decode cX12_drawCold 18 = .ok (.aload_n 0, 1) := by decide +kernel
theorem dX12_drawCold_19 : decode cX12_drawCold 19 = .ok (.getfield 106, 3) := by decide +kernel
theorem dX12_drawCold_22 : decode cX12_drawCold 22 = .ok (.bipush 21, 2) := by decide +kernel
theorem dX12_drawCold_24 : decode cX12_drawCold 24 = .ok (.iaload, 1) := by decide +kernel
theorem dX12_drawCold_25 : decode cX12_drawCold 25 = .ok (.sipush 137, 3) := by decide +kernel
theorem dX12_drawCold_28 : decode cX12_drawCold 28 = .ok (.imul, 1) := by decide +kernel
theorem dX12_drawCold_29 : decode cX12_drawCold 29 = .ok (.bipush 71, 2) := by decide +kernel
theorem dX12_drawCold_31 : decode cX12_drawCold 31 = .ok (.iadd, 1) := by decide +kernel
theorem dX12_drawCold_32 : decode cX12_drawCold 32 = .ok (.sipush 1000, 3) := by decide +kernel
theorem dX12_drawCold_35 : decode cX12_drawCold 35 = .ok (.irem, 1) := by decide +kernel
theorem dX12_drawCold_36 : decode cX12_drawCold 36 = .ok (.iastore, 1) := by decide +kernel
theorem dX12_drawCold_37 : decode cX12_drawCold 37 = .ok (.iload_n 1, 1) := by decide +kernel
theorem dX12_drawCold_38 : decode cX12_drawCold 38 = .ok (.aload_n 0, 1) := by decide +kernel
theorem dX12_drawCold_39 : decode cX12_drawCold 39 = .ok (.getfield 106, 3) := by decide +kernel
theorem dX12_drawCold_42 : decode cX12_drawCold 42 = .ok (.bipush 21, 2) := by decide +kernel
theorem dX12_drawCold_44 : decode cX12_drawCold 44 = .ok (.iaload, 1) := by decide +kernel
theorem dX12_drawCold_45 : decode cX12_drawCold 45 = .ok (.bipush 100, 2) := by decide +kernel
theorem dX12_drawCold_47 : decode cX12_drawCold 47 = .ok (.irem, 1) := by decide +kernel
theorem dX12_drawCold_48 : decode cX12_drawCold 48 = .ok (.aload_n 0, 1) := by decide +kernel
theorem dX12_drawCold_49 : decode cX12_drawCold 49 = .ok (.getfield 398, 3) := by decide +kernel
theorem dX12_drawCold_52 : decode cX12_drawCold 52 = .ok (.if_icmp .ge 7, 3) := by decide +kernel
theorem dX12_drawCold_55 : decode cX12_drawCold 55 = .ok (.iconst 1, 1) := by decide +kernel
theorem dX12_drawCold_56 : decode cX12_drawCold 56 = .ok (.goto 4, 3) := by decide +kernel
theorem dX12_drawCold_59 : decode cX12_drawCold 59 = .ok (.iconst 0, 1) := by decide +kernel
theorem dX12_drawCold_60 : decode cX12_drawCold 60 = .ok (.invokestatic 329, 3) := by decide +kernel
theorem dX12_drawCold_63 : decode cX12_drawCold 63 = .ok (.iload_n 2, 1) := by decide +kernel
theorem dX12_drawCold_64 : decode cX12_drawCold 64 = .ok (.ishl, 1) := by decide +kernel
theorem dX12_drawCold_65 : decode cX12_drawCold 65 = .ok (.ior, 1) := by decide +kernel
theorem dX12_drawCold_66 : decode cX12_drawCold 66 = .ok (.istore_n 1, 1) := by decide +kernel
theorem dX12_drawCold_67 : decode cX12_drawCold 67 = .ok (.iinc 2 1, 3) := by decide +kernel
theorem dX12_drawCold_70 : decode cX12_drawCold 70 = .ok (.goto (-66), 3) := by decide +kernel
theorem dX12_drawCold_73 : decode cX12_drawCold 73 = .ok (.iload_n 1, 1) := by decide +kernel
theorem dX12_drawCold_74 : decode cX12_drawCold 74 = .ok (.ireturn, 1) := by decide +kernel
theorem dX12_isSaved_0 : decode cX12_isSaved 0 = .ok (.aload_n 0, 1) := by decide +kernel
theorem dX12_isSaved_1 : decode cX12_isSaved 1 = .ok (.getfield 106, 3) := by decide +kernel
theorem dX12_isSaved_4 : decode cX12_isSaved 4 = .ok (.bipush 10, 2) := by decide +kernel
theorem dX12_isSaved_6 : decode cX12_isSaved 6 = .ok (.iload_n 1, 1) := by decide +kernel
theorem dX12_isSaved_7 : decode cX12_isSaved 7 = .ok (.iadd, 1) := by decide +kernel
theorem dX12_isSaved_8 : decode cX12_isSaved 8 = .ok (.iaload, 1) := by decide +kernel
theorem dX12_isSaved_9 : decode cX12_isSaved 9 = .ok (.aload_n 0, 1) := by decide +kernel
theorem dX12_isSaved_10 : decode cX12_isSaved 10 = .ok (.getfield 100, 3) := by decide +kernel
theorem dX12_isSaved_13 : decode cX12_isSaved 13 = .ok (.if_icmp .lt 7, 3) := by decide +kernel
theorem dX12_isSaved_16 : decode cX12_isSaved 16 = .ok (.iconst 1, 1) := by decide +kernel
theorem dX12_isSaved_17 : decode cX12_isSaved 17 = .ok (.goto 4, 3) := by decide +kernel
theorem dX12_isSaved_20 : decode cX12_isSaved 20 = .ok (.iconst 0, 1) := by decide +kernel
theorem dX12_isSaved_21 : decode cX12_isSaved 21 = .ok (.ireturn, 1) := by decide +kernel
theorem dX12_hearth_0 : decode cX12_hearth 0 = .ok (.aload_n 0, 1) := by decide +kernel
theorem dX12_hearth_1 : decode cX12_hearth 1 = .ok (.iload_n 1, 1) := by decide +kernel
theorem dX12_hearth_2 : decode cX12_hearth 2 = .ok (.invokevirtual 448, 3) := by decide +kernel
theorem dX12_hearth_5 : decode cX12_hearth 5 = .ok (.ifCond .ne 5, 3) := by decide +kernel
theorem dX12_hearth_8 : decode cX12_hearth 8 = .ok (.iconst (-1), 1) := by decide +kernel
theorem dX12_hearth_9 : decode cX12_hearth 9 = .ok (.ireturn, 1) := by decide +kernel
theorem dX12_hearth_10 : decode cX12_hearth 10 = .ok (.aload_n 0, 1) := by decide +kernel
theorem dX12_hearth_11 : decode cX12_hearth 11 = .ok (.invokevirtual 451, 3) := by decide +kernel
theorem dX12_hearth_14 : decode cX12_hearth 14 = .ok (.iload_n 2, 1) := by decide +kernel
theorem dX12_hearth_15 : decode cX12_hearth 15 = .ok (.tableswitch 80 0 5 #[37, 44, 51, 58, 65, 71], 37) := by decide +kernel
theorem dX12_hearth_52 : decode cX12_hearth 52 = .ok (.aload_n 0, 1) := by decide +kernel
theorem dX12_hearth_53 : decode cX12_hearth 53 = .ok (.getfield 76, 3) := by decide +kernel
theorem dX12_hearth_56 : decode cX12_hearth 56 = .ok (.iload_n 1, 1) := by decide +kernel
theorem dX12_hearth_57 : decode cX12_hearth 57 = .ok (.iaload, 1) := by decide +kernel
theorem dX12_hearth_58 : decode cX12_hearth 58 = .ok (.ireturn, 1) := by decide +kernel
theorem dX12_hearth_59 : decode cX12_hearth 59 = .ok (.aload_n 0, 1) := by decide +kernel
theorem dX12_hearth_60 : decode cX12_hearth 60 = .ok (.getfield 79, 3) := by decide +kernel
theorem dX12_hearth_63 : decode cX12_hearth 63 = .ok (.iload_n 1, 1) := by decide +kernel
theorem dX12_hearth_64 : decode cX12_hearth 64 = .ok (.iaload, 1) := by decide +kernel
theorem dX12_hearth_65 : decode cX12_hearth 65 = .ok (.ireturn, 1) := by decide +kernel
theorem dX12_hearth_66 : decode cX12_hearth 66 = .ok (.aload_n 0, 1) := by decide +kernel
theorem dX12_hearth_67 : decode cX12_hearth 67 = .ok (.getfield 82, 3) := by decide +kernel
theorem dX12_hearth_70 : decode cX12_hearth 70 = .ok (.iload_n 1, 1) := by decide +kernel
theorem dX12_hearth_71 : decode cX12_hearth 71 = .ok (.iaload, 1) := by decide +kernel
theorem dX12_hearth_72 : decode cX12_hearth 72 = .ok (.ireturn, 1) := by decide +kernel
theorem dX12_hearth_73 : decode cX12_hearth 73 = .ok (.aload_n 0, 1) := by decide +kernel
theorem dX12_hearth_74 : decode cX12_hearth 74 = .ok (.getfield 85, 3) := by decide +kernel
theorem dX12_hearth_77 : decode cX12_hearth 77 = .ok (.iload_n 1, 1) := by decide +kernel
theorem dX12_hearth_78 : decode cX12_hearth 78 = .ok (.iaload, 1) := by decide +kernel
theorem dX12_hearth_79 : decode cX12_hearth 79 = .ok (.ireturn, 1) := by decide +kernel
theorem dX12_hearth_80 : decode cX12_hearth 80 = .ok (.aload_n 0, 1) := by decide +kernel
theorem dX12_hearth_81 : decode cX12_hearth 81 = .ok (.iload_n 1, 1) := by decide +kernel
theorem dX12_hearth_82 : decode cX12_hearth 82 = .ok (.invokevirtual 430, 3) := by decide +kernel
theorem dX12_hearth_85 : decode cX12_hearth 85 = .ok (.ireturn, 1) := by decide +kernel
theorem dX12_hearth_86 : decode cX12_hearth 86 = .ok (.aload_n 0, 1) := by decide +kernel
theorem dX12_hearth_87 : decode cX12_hearth 87 = .ok (.iload_n 1, 1) := by decide +kernel
theorem dX12_hearth_88 : decode cX12_hearth 88 = .ok (.invokevirtual 439, 3) := by decide +kernel
theorem dX12_hearth_91 : decode cX12_hearth 91 = .ok (.invokestatic 329, 3) := by decide +kernel
theorem dX12_hearth_94 : decode cX12_hearth 94 = .ok (.ireturn, 1) := by decide +kernel
theorem dX12_hearth_95 : decode cX12_hearth 95 = .ok (.iconst (-1), 1) := by decide +kernel
theorem dX12_hearth_96 : decode cX12_hearth 96 = .ok (.ireturn, 1) := by decide +kernel
theorem dX12_stool_0 : decode cX12_stool 0 = .ok (.aload_n 0, 1) := by decide +kernel
theorem dX12_stool_1 : decode cX12_stool 1 = .ok (.iload_n 1, 1) := by decide +kernel
theorem dX12_stool_2 : decode cX12_stool 2 = .ok (.invokevirtual 454, 3) := by decide +kernel
theorem dX12_stool_5 : decode cX12_stool 5 = .ok (.ifCond .ne 6, 3) := by decide +kernel
theorem dX12_stool_8 : decode cX12_stool 8 = .ok (.bipush (-2), 2) := by decide +kernel
theorem dX12_stool_10 : decode cX12_stool 10 = .ok (.ireturn, 1) := by decide +kernel
theorem dX12_stool_11 : decode cX12_stool 11 = .ok (.aload_n 0, 1) := by decide +kernel
theorem dX12_stool_12 : decode cX12_stool 12 = .ok (.invokevirtual 451, 3) := by decide +kernel
theorem dX12_stool_15 : decode cX12_stool 15 = .ok (.iload_n 2, 1) := by decide +kernel
theorem dX12_stool_16 : decode cX12_stool 16 = .ok (.tableswitch 103 0 6 #[44, 51, 58, 65, 74, 84, 94], 44) := by decide +kernel
theorem dX12_stool_60 : decode cX12_stool 60 = .ok (.aload_n 0, 1) := by decide +kernel
theorem dX12_stool_61 : decode cX12_stool 61 = .ok (.getfield 88, 3) := by decide +kernel
theorem dX12_stool_64 : decode cX12_stool 64 = .ok (.iload_n 1, 1) := by decide +kernel
theorem dX12_stool_65 : decode cX12_stool 65 = .ok (.iaload, 1) := by decide +kernel
theorem dX12_stool_66 : decode cX12_stool 66 = .ok (.ireturn, 1) := by decide +kernel
theorem dX12_stool_67 : decode cX12_stool 67 = .ok (.aload_n 0, 1) := by decide +kernel
theorem dX12_stool_68 : decode cX12_stool 68 = .ok (.getfield 106, 3) := by decide +kernel
theorem dX12_stool_71 : decode cX12_stool 71 = .ok (.iload_n 1, 1) := by decide +kernel
theorem dX12_stool_72 : decode cX12_stool 72 = .ok (.iaload, 1) := by decide +kernel
theorem dX12_stool_73 : decode cX12_stool 73 = .ok (.ireturn, 1) := by decide +kernel
theorem dX12_stool_74 : decode cX12_stool 74 = .ok (.aload_n 0, 1) := by decide +kernel
theorem dX12_stool_75 : decode cX12_stool 75 = .ok (.getfield 94, 3) := by decide +kernel
theorem dX12_stool_78 : decode cX12_stool 78 = .ok (.iload_n 1, 1) := by decide +kernel
theorem dX12_stool_79 : decode cX12_stool 79 = .ok (.iaload, 1) := by decide +kernel
theorem dX12_stool_80 : decode cX12_stool 80 = .ok (.ireturn, 1) := by decide +kernel
theorem dX12_stool_81 : decode cX12_stool 81 = .ok (.aload_n 0, 1) := by decide +kernel
theorem dX12_stool_82 : decode cX12_stool 82 = .ok (.getfield 106, 3) := by decide +kernel
theorem dX12_stool_85 : decode cX12_stool 85 = .ok (.iconst 5, 1) := by decide +kernel
theorem dX12_stool_86 : decode cX12_stool 86 = .ok (.iload_n 1, 1) := by decide +kernel
theorem dX12_stool_87 : decode cX12_stool 87 = .ok (.iadd, 1) := by decide +kernel
theorem dX12_stool_88 : decode cX12_stool 88 = .ok (.iaload, 1) := by decide +kernel
theorem dX12_stool_89 : decode cX12_stool 89 = .ok (.ireturn, 1) := by decide +kernel
theorem dX12_stool_90 : decode cX12_stool 90 = .ok (.aload_n 0, 1) := by decide +kernel
theorem dX12_stool_91 : decode cX12_stool 91 = .ok (.getfield 106, 3) := by decide +kernel
theorem dX12_stool_94 : decode cX12_stool 94 = .ok (.bipush 10, 2) := by decide +kernel
theorem dX12_stool_96 : decode cX12_stool 96 = .ok (.iload_n 1, 1) := by decide +kernel
theorem dX12_stool_97 : decode cX12_stool 97 = .ok (.iadd, 1) := by decide +kernel
theorem dX12_stool_98 : decode cX12_stool 98 = .ok (.iaload, 1) := by decide +kernel
theorem dX12_stool_99 : decode cX12_stool 99 = .ok (.ireturn, 1) := by decide +kernel
theorem dX12_stool_100 : decode cX12_stool 100 = .ok (.aload_n 0, 1) := by decide +kernel
theorem dX12_stool_101 : decode cX12_stool 101 = .ok (.getfield 106, 3) := by decide +kernel
theorem dX12_stool_104 : decode cX12_stool 104 = .ok (.bipush 15, 2) := by decide +kernel
theorem dX12_stool_106 : decode cX12_stool 106 = .ok (.iload_n 1, 1) := by decide +kernel
theorem dX12_stool_107 : decode cX12_stool 107 = .ok (.iadd, 1) := by decide +kernel
theorem dX12_stool_108 : decode cX12_stool 108 = .ok (.iaload, 1) := by decide +kernel
theorem dX12_stool_109 : decode cX12_stool 109 = .ok (.ireturn, 1) := by decide +kernel
theorem dX12_stool_110 : decode cX12_stool 110 = .ok (.aload_n 0, 1) := by decide +kernel
theorem dX12_stool_111 : decode cX12_stool 111 = .ok (.iload_n 1, 1) := by decide +kernel
theorem dX12_stool_112 : decode cX12_stool 112 = .ok (.invokevirtual 457, 3) := by decide +kernel
theorem dX12_stool_115 : decode cX12_stool 115 = .ok (.invokestatic 329, 3) := by decide +kernel
theorem dX12_stool_118 : decode cX12_stool 118 = .ok (.ireturn, 1) := by decide +kernel
theorem dX12_stool_119 : decode cX12_stool 119 = .ok (.bipush (-2), 2) := by decide +kernel
theorem dX12_stool_121 : decode cX12_stool 121 = .ok (.ireturn, 1) := by decide +kernel
theorem dX12_load_0 : decode cX12_load 0 = .ok (.aload_n 0, 1) := by decide +kernel
theorem dX12_load_1 : decode cX12_load 1 = .ok (.invokevirtual 451, 3) := by decide +kernel
theorem dX12_load_4 : decode cX12_load 4 = .ok (.aload_n 0, 1) := by decide +kernel
theorem dX12_load_5 : decode cX12_load 5 = .ok (.iload_n 1, 1) := by decide +kernel
theorem dX12_load_6 : decode cX12_load 6 = .ok (.invokevirtual 454, 3) := by decide +kernel
theorem dX12_load_9 : decode cX12_load 9 = .ok (.ifCond .eq 23, 3) := by decide +kernel
theorem dX12_load_12 : decode cX12_load 12 = .ok (.aload_n 0, 1) := by decide +kernel
theorem dX12_load_13 : decode cX12_load 13 = .ok (.getfield 106, 3) := by decide +kernel
theorem dX12_load_16 : decode cX12_load 16 = .ok (.bipush 15, 2) := by decide +kernel
theorem dX12_load_18 : decode cX12_load 18 = .ok (.iload_n 1, 1) := by decide +kernel
theorem dX12_load_19 : decode cX12_load 19 = .ok (.iadd, 1) := by decide +kernel
theorem dX12_load_20 : decode cX12_load 20 = .ok (.iaload, 1) := by decide +kernel
theorem dX12_load_21 : decode cX12_load 21 = .ok (.ifCond .lt 11, 3) := by decide +kernel
theorem dX12_load_24 : decode cX12_load 24 = .ok (.aload_n 0, 1) := by decide +kernel
theorem dX12_load_25 : decode cX12_load 25 = .ok (.iload_n 1, 1) := by decide +kernel
theorem dX12_load_26 : decode cX12_load 26 = .ok (.invokevirtual 442, 3) := by decide +kernel
theorem dX12_load_29 : decode cX12_load 29 = .ok (.goto 4, 3) := by decide +kernel
theorem dX12_load_32 : decode cX12_load 32 = .ok (.iconst (-1), 1) := by decide +kernel
theorem dX12_load_33 : decode cX12_load 33 = .ok (.ireturn, 1) := by decide +kernel
theorem dX12_act_0 : decode cX12_act 0 = .ok (.aload_n 0, 1) := by decide +kernel
theorem dX12_act_1 : decode cX12_act 1 = .ok (.getfield 410, 3) := by decide +kernel
theorem dX12_act_4 : decode cX12_act 4 = .ok (.bipush 40, 2) := by decide +kernel
theorem dX12_act_6 : decode cX12_act 6 = .ok (.if_icmp .ne 43, 3) := by decide +kernel
theorem dX12_act_9 : decode cX12_act 9 = .ok (.iconst 0, 1) := by decide +kernel
theorem dX12_act_10 : decode cX12_act 10 = .ok (.istore_n 1, 1) := by decide +kernel
theorem dX12_act_11 : decode cX12_act 11 = .ok (.iload_n 1, 1) := by decide +kernel
theorem dX12_act_12 : decode cX12_act 12 = .ok (.sipush 858, 3) := by decide +kernel
theorem dX12_act_15 : decode cX12_act 15 = .ok (.if_icmp .ge 24, 3) := by decide +kernel
theorem dX12_act_18 : decode cX12_act 18 = .ok (.aload_n 0, 1) := by decide +kernel
theorem dX12_act_19 : decode cX12_act 19 = .ok (.getfield 118, 3) := by decide +kernel
theorem dX12_act_22 : decode cX12_act 22 = .ok (.iload_n 1, 1) := by decide +kernel
theorem dX12_act_23 : decode cX12_act 23 = .ok (.aload_n 0, 1) := by decide +kernel
theorem dX12_act_24 : decode cX12_act 24 = .ok (.getfield 118, 3) := by decide +kernel
theorem dX12_act_27 : decode cX12_act 27 = .ok (.bipush 22, 2) := by decide +kernel
theorem dX12_act_29 : decode cX12_act 29 = .ok (.iload_n 1, 1) := by decide +kernel
theorem dX12_act_30 : decode cX12_act 30 = .ok (.iadd, 1) := by decide +kernel
theorem dX12_act_31 : decode cX12_act 31 = .ok (.iaload, 1) := by decide +kernel
theorem dX12_act_32 : decode cX12_act 32 = .ok (.iastore, 1) := by decide +kernel
theorem dX12_act_33 : decode cX12_act 33 = .ok (.iinc 1 1, 3) := by decide +kernel
theorem dX12_act_36 : decode cX12_act 36 = .ok (.goto (-25), 3) := by decide +kernel
theorem dX12_act_39 : decode cX12_act 39 = .ok (.aload_n 0, 1) := by decide +kernel
theorem dX12_act_40 : decode cX12_act 40 = .ok (.dup, 1) := by decide +kernel
theorem dX12_act_41 : decode cX12_act 41 = .ok (.getfield 410, 3) := by decide +kernel
theorem dX12_act_44 : decode cX12_act 44 = .ok (.iconst 1, 1) := by decide +kernel
theorem dX12_act_45 : decode cX12_act 45 = .ok (.isub, 1) := by decide +kernel
theorem dX12_act_46 : decode cX12_act 46 = .ok (.putfield 410, 3) := by decide +kernel
theorem dX12_act_49 : decode cX12_act 49 = .ok (.iconst 0, 1) := by decide +kernel
theorem dX12_act_50 : decode cX12_act 50 = .ok (.istore_n 1, 1) := by decide +kernel
theorem dX12_act_51 : decode cX12_act 51 = .ok (.iload_n 1, 1) := by decide +kernel
theorem dX12_act_52 : decode cX12_act 52 = .ok (.bipush 22, 2) := by decide +kernel
theorem dX12_act_54 : decode cX12_act 54 = .ok (.if_icmp .ge 29, 3) := by decide +kernel
theorem dX12_act_57 : decode cX12_act 57 = .ok (.aload_n 0, 1) := by decide +kernel
theorem dX12_act_58 : decode cX12_act 58 = .ok (.getfield 118, 3) := by decide +kernel
theorem dX12_act_61 : decode cX12_act 61 = .ok (.bipush 22, 2) := by decide +kernel
theorem dX12_act_63 : decode cX12_act 63 = .ok (.aload_n 0, 1) := by decide +kernel
theorem dX12_act_64 : decode cX12_act 64 = .ok (.getfield 410, 3) := by decide +kernel
theorem dX12_act_67 : decode cX12_act 67 = .ok (.imul, 1) := by decide +kernel
theorem dX12_act_68 : decode cX12_act 68 = .ok (.iload_n 1, 1) := by decide +kernel
theorem dX12_act_69 : decode cX12_act 69 = .ok (.iadd, 1) := by decide +kernel
theorem dX12_act_70 : decode cX12_act 70 = .ok (.aload_n 0, 1) := by decide +kernel
theorem dX12_act_71 : decode cX12_act 71 = .ok (.getfield 103, 3) := by decide +kernel
theorem dX12_act_74 : decode cX12_act 74 = .ok (.iload_n 1, 1) := by decide +kernel
theorem dX12_act_75 : decode cX12_act 75 = .ok (.iaload, 1) := by decide +kernel
theorem dX12_act_76 : decode cX12_act 76 = .ok (.iastore, 1) := by decide +kernel
theorem dX12_act_77 : decode cX12_act 77 = .ok (.iinc 1 1, 3) := by decide +kernel
theorem dX12_act_80 : decode cX12_act 80 = .ok (.goto (-29), 3) := by decide +kernel
theorem dX12_act_83 : decode cX12_act 83 = .ok (.aload_n 0, 1) := by decide +kernel
theorem dX12_act_84 : decode cX12_act 84 = .ok (.dup, 1) := by decide +kernel
theorem dX12_act_85 : decode cX12_act 85 = .ok (.getfield 410, 3) := by decide +kernel
theorem dX12_act_88 : decode cX12_act 88 = .ok (.iconst 1, 1) := by decide +kernel
theorem dX12_act_89 : decode cX12_act 89 = .ok (.iadd, 1) := by decide +kernel
theorem dX12_act_90 : decode cX12_act 90 = .ok (.putfield 410, 3) := by decide +kernel
theorem dX12_act_93 : decode cX12_act 93 = .ok (.aload_n 0, 1) := by decide +kernel
theorem dX12_act_94 : decode cX12_act 94 = .ok (.iconst 0, 1) := by decide +kernel
theorem dX12_act_95 : decode cX12_act 95 = .ok (.putfield 413, 3) := by decide +kernel
theorem dX12_act_98 : decode cX12_act 98 = .ok (.aload_n 0, 1) := by decide +kernel
theorem dX12_act_99 : decode cX12_act 99 = .ok (.invokevirtual 451, 3) := by decide +kernel
theorem dX12_act_102 : decode cX12_act 102 = .ok (.return_, 1) := by decide +kernel
theorem dX12_exchange_0 : decode cX12_exchange 0 = .ok (.iconst 0, 1) := by decide +kernel
theorem dX12_exchange_1 : decode cX12_exchange 1 = .ok (.istore_n 2, 1) := by decide +kernel
theorem dX12_exchange_2 : decode cX12_exchange 2 = .ok (.iload_n 2, 1) := by decide +kernel
theorem dX12_exchange_3 : decode cX12_exchange 3 = .ok (.bipush 22, 2) := by decide +kernel
theorem dX12_exchange_5 : decode cX12_exchange 5 = .ok (.if_icmp .ge 39, 3) := by decide +kernel
theorem dX12_exchange_8 : decode cX12_exchange 8 = .ok (.aload_n 0, 1) := by decide +kernel
theorem dX12_exchange_9 : decode cX12_exchange 9 = .ok (.getfield 118, 3) := by decide +kernel
theorem dX12_exchange_12 : decode cX12_exchange 12 = .ok (.iload_n 1, 1) := by decide +kernel
theorem dX12_exchange_13 : decode cX12_exchange 13 = .ok (.iload_n 2, 1) := by decide +kernel
theorem dX12_exchange_14 : decode cX12_exchange 14 = .ok (.iadd, 1) := by decide +kernel
theorem dX12_exchange_15 : decode cX12_exchange 15 = .ok (.iaload, 1) := by decide +kernel
theorem dX12_exchange_16 : decode cX12_exchange 16 = .ok (.istore_n 3, 1) := by decide +kernel
theorem dX12_exchange_17 : decode cX12_exchange 17 = .ok (.aload_n 0, 1) := by decide +kernel
theorem dX12_exchange_18 : decode cX12_exchange 18 = .ok (.getfield 118, 3) := by decide +kernel
theorem dX12_exchange_21 : decode cX12_exchange 21 = .ok (.iload_n 1, 1) := by decide +kernel
theorem dX12_exchange_22 : decode cX12_exchange 22 = .ok (.iload_n 2, 1) := by decide +kernel
theorem dX12_exchange_23 : decode cX12_exchange 23 = .ok (.iadd, 1) := by decide +kernel
theorem dX12_exchange_24 : decode cX12_exchange 24 = .ok (.aload_n 0, 1) := by decide +kernel
theorem dX12_exchange_25 : decode cX12_exchange 25 = .ok (.getfield 103, 3) := by decide +kernel
theorem dX12_exchange_28 : decode cX12_exchange 28 = .ok (.iload_n 2, 1) := by decide +kernel
theorem dX12_exchange_29 : decode cX12_exchange 29 = .ok (.iaload, 1) := by decide +kernel
theorem dX12_exchange_30 : decode cX12_exchange 30 = .ok (.iastore, 1) := by decide +kernel
theorem dX12_exchange_31 : decode cX12_exchange 31 = .ok (.aload_n 0, 1) := by decide +kernel
theorem dX12_exchange_32 : decode cX12_exchange 32 = .ok (.getfield 103, 3) := by decide +kernel
theorem dX12_exchange_35 : decode cX12_exchange 35 = .ok (.iload_n 2, 1) := by decide +kernel
theorem dX12_exchange_36 : decode cX12_exchange 36 = .ok (.iload_n 3, 1) := by decide +kernel
theorem dX12_exchange_37 : decode cX12_exchange 37 = .ok (.iastore, 1) := by decide +kernel
theorem dX12_exchange_38 : decode cX12_exchange 38 = .ok (.iinc 2 1, 3) := by decide +kernel
theorem dX12_exchange_41 : decode cX12_exchange 41 = .ok (.goto (-39), 3) := by decide +kernel
theorem dX12_exchange_44 : decode cX12_exchange 44 = .ok (.return_, 1) := by decide +kernel
theorem dX12_hasRoom_0 : decode cX12_hasRoom 0 = .ok (.aload_n 0, 1) := by decide +kernel
theorem dX12_hasRoom_1 : decode cX12_hasRoom 1 = .ok (.iload_n 1, 1) := by decide +kernel
theorem dX12_hasRoom_2 : decode cX12_hasRoom 2 = .ok (.invokevirtual 430, 3) := by decide +kernel
theorem dX12_hasRoom_5 : decode cX12_hasRoom 5 = .ok (.invokestatic 433, 3) := by decide +kernel
theorem dX12_hasRoom_8 : decode cX12_hasRoom 8 = .ok (.aload_n 0, 1) := by decide +kernel
theorem dX12_hasRoom_9 : decode cX12_hasRoom 9 = .ok (.getfield 82, 3) := by decide +kernel
theorem dX12_hasRoom_12 : decode cX12_hasRoom 12 = .ok (.iload_n 1, 1) := by decide +kernel
theorem dX12_hasRoom_13 : decode cX12_hasRoom 13 = .ok (.iaload, 1) := by decide +kernel
theorem dX12_hasRoom_14 : decode cX12_hasRoom 14 = .ok (.if_icmp .ge 7, 3) := by decide +kernel
theorem dX12_hasRoom_17 : decode cX12_hasRoom 17 = .ok (.iconst 1, 1) := by decide +kernel
theorem dX12_hasRoom_18 : decode cX12_hasRoom 18 = .ok (.goto 4, 3) := by decide +kernel
theorem dX12_hasRoom_21 : decode cX12_hasRoom 21 = .ok (.iconst 0, 1) := by decide +kernel
theorem dX12_hasRoom_22 : decode cX12_hasRoom 22 = .ok (.ireturn, 1) := by decide +kernel
theorem dX12_send_0 : decode cX12_send 0 = .ok (.aload_n 0, 1) := by decide +kernel
theorem dX12_send_1 : decode cX12_send 1 = .ok (.invokevirtual 451, 3) := by decide +kernel
theorem dX12_send_4 : decode cX12_send 4 = .ok (.aload_n 0, 1) := by decide +kernel
theorem dX12_send_5 : decode cX12_send 5 = .ok (.iload_n 1, 1) := by decide +kernel
theorem dX12_send_6 : decode cX12_send 6 = .ok (.invokevirtual 454, 3) := by decide +kernel
theorem dX12_send_9 : decode cX12_send 9 = .ok (.ifCond .eq 32, 3) := by decide +kernel
theorem dX12_send_12 : decode cX12_send 12 = .ok (.aload_n 0, 1) := by decide +kernel
theorem dX12_send_13 : decode cX12_send 13 = .ok (.iload_n 2, 1) := by decide +kernel
theorem dX12_send_14 : decode cX12_send 14 = .ok (.invokevirtual 448, 3) := by decide +kernel
theorem dX12_send_17 : decode cX12_send 17 = .ok (.ifCond .eq 24, 3) := by decide +kernel
theorem dX12_send_20 : decode cX12_send 20 = .ok (.aload_n 0, 1) := by decide +kernel
theorem dX12_send_21 : decode cX12_send 21 = .ok (.getfield 106, 3) := by decide +kernel
theorem dX12_send_24 : decode cX12_send 24 = .ok (.bipush 15, 2) := by decide +kernel
theorem dX12_send_26 : decode cX12_send 26 = .ok (.iload_n 1, 1) := by decide +kernel
theorem dX12_send_27 : decode cX12_send 27 = .ok (.iadd, 1) := by decide +kernel
theorem dX12_send_28 : decode cX12_send 28 = .ok (.iaload, 1) := by decide +kernel
theorem dX12_send_29 : decode cX12_send 29 = .ok (.iload_n 2, 1) := by decide +kernel
theorem dX12_send_30 : decode cX12_send 30 = .ok (.if_icmp .eq 11, 3) := by decide +kernel
theorem dX12_send_33 : decode cX12_send 33 = .ok (.aload_n 0, 1) := by decide +kernel
theorem dX12_send_34 : decode cX12_send 34 = .ok (.iload_n 2, 1) := by decide +kernel
theorem dX12_send_35 : decode cX12_send 35 = .ok (.invokevirtual 460, 3) := by decide +kernel
theorem dX12_send_38 : decode cX12_send 38 = .ok (.ifCond .ne 6, 3) := by decide +kernel
theorem dX12_send_41 : decode cX12_send 41 = .ok (.bipush (-2), 2) := by decide +kernel
theorem dX12_send_43 : decode cX12_send 43 = .ok (.ireturn, 1) := by decide +kernel
theorem dX12_send_44 : decode cX12_send 44 = .ok (.aload_n 0, 1) := by decide +kernel
theorem dX12_send_45 : decode cX12_send 45 = .ok (.invokevirtual 463, 3) := by decide +kernel
theorem dX12_send_48 : decode cX12_send 48 = .ok (.aload_n 0, 1) := by decide +kernel
theorem dX12_send_49 : decode cX12_send 49 = .ok (.getfield 103, 3) := by decide +kernel
theorem dX12_send_52 : decode cX12_send 52 = .ok (.bipush 15, 2) := by decide +kernel
theorem dX12_send_54 : decode cX12_send 54 = .ok (.iload_n 1, 1) := by decide +kernel
theorem dX12_send_55 : decode cX12_send 55 = .ok (.iadd, 1) := by decide +kernel
theorem dX12_send_56 : decode cX12_send 56 = .ok (.iaload, 1) := by decide +kernel
theorem dX12_send_57 : decode cX12_send 57 = .ok (.istore_n 3, 1) := by decide +kernel
theorem dX12_send_58 : decode cX12_send 58 = .ok (.aload_n 0, 1) := by decide +kernel
theorem dX12_send_59 : decode cX12_send 59 = .ok (.getfield 103, 3) := by decide +kernel
theorem dX12_send_62 : decode cX12_send 62 = .ok (.bipush 15, 2) := by decide +kernel
theorem dX12_send_64 : decode cX12_send 64 = .ok (.iload_n 1, 1) := by decide +kernel
theorem dX12_send_65 : decode cX12_send 65 = .ok (.iadd, 1) := by decide +kernel
theorem dX12_send_66 : decode cX12_send 66 = .ok (.iload_n 2, 1) := by decide +kernel
theorem dX12_send_67 : decode cX12_send 67 = .ok (.iastore, 1) := by decide +kernel
theorem dX12_send_68 : decode cX12_send 68 = .ok (.iload_n 3, 1) := by decide +kernel
theorem dX12_send_69 : decode cX12_send 69 = .ok (.ireturn, 1) := by decide +kernel
theorem dX12_call_0 : decode cX12_call 0 = .ok (.aload_n 0, 1) := by decide +kernel
theorem dX12_call_1 : decode cX12_call 1 = .ok (.iload_n 1, 1) := by decide +kernel
theorem dX12_call_2 : decode cX12_call 2 = .ok (.invokevirtual 454, 3) := by decide +kernel
theorem dX12_call_5 : decode cX12_call 5 = .ok (.ifCond .eq 15, 3) := by decide +kernel
theorem dX12_call_8 : decode cX12_call 8 = .ok (.aload_n 0, 1) := by decide +kernel
theorem dX12_call_9 : decode cX12_call 9 = .ok (.getfield 103, 3) := by decide +kernel
theorem dX12_call_12 : decode cX12_call 12 = .ok (.bipush 15, 2) := by decide +kernel
theorem dX12_call_14 : decode cX12_call 14 = .ok (.iload_n 1, 1) := by decide +kernel
theorem dX12_call_15 : decode cX12_call 15 = .ok (.iadd, 1) := by decide +kernel
theorem dX12_call_16 : decode cX12_call 16 = .ok (.iaload, 1) := by decide +kernel
theorem dX12_call_17 : decode cX12_call 17 = .ok (.ifCond .ge 5, 3) := by decide +kernel
theorem dX12_call_20 : decode cX12_call 20 = .ok (.iconst (-1), 1) := by decide +kernel
theorem dX12_call_21 : decode cX12_call 21 = .ok (.ireturn, 1) := by decide +kernel
theorem dX12_call_22 : decode cX12_call 22 = .ok (.aload_n 0, 1) := by decide +kernel
theorem dX12_call_23 : decode cX12_call 23 = .ok (.invokevirtual 463, 3) := by decide +kernel
theorem dX12_call_26 : decode cX12_call 26 = .ok (.aload_n 0, 1) := by decide +kernel
theorem dX12_call_27 : decode cX12_call 27 = .ok (.getfield 103, 3) := by decide +kernel
theorem dX12_call_30 : decode cX12_call 30 = .ok (.bipush 15, 2) := by decide +kernel
theorem dX12_call_32 : decode cX12_call 32 = .ok (.iload_n 1, 1) := by decide +kernel
theorem dX12_call_33 : decode cX12_call 33 = .ok (.iadd, 1) := by decide +kernel
theorem dX12_call_34 : decode cX12_call 34 = .ok (.iaload, 1) := by decide +kernel
theorem dX12_call_35 : decode cX12_call 35 = .ok (.istore_n 2, 1) := by decide +kernel
theorem dX12_call_36 : decode cX12_call 36 = .ok (.aload_n 0, 1) := by decide +kernel
theorem dX12_call_37 : decode cX12_call 37 = .ok (.getfield 103, 3) := by decide +kernel
theorem dX12_call_40 : decode cX12_call 40 = .ok (.bipush 15, 2) := by decide +kernel
theorem dX12_call_42 : decode cX12_call 42 = .ok (.iload_n 1, 1) := by decide +kernel
theorem dX12_call_43 : decode cX12_call 43 = .ok (.iadd, 1) := by decide +kernel
theorem dX12_call_44 : decode cX12_call 44 = .ok (.iconst (-1), 1) := by decide +kernel
theorem dX12_call_45 : decode cX12_call 45 = .ok (.iastore, 1) := by decide +kernel
theorem dX12_call_46 : decode cX12_call 46 = .ok (.iload_n 2, 1) := by decide +kernel
theorem dX12_call_47 : decode cX12_call 47 = .ok (.ireturn, 1) := by decide +kernel
theorem dX12_evening_0 : decode cX12_evening 0 = .ok (.aload_n 0, 1) := by decide +kernel
theorem dX12_evening_1 : decode cX12_evening 1 = .ok (.getfield 103, 3) := by decide +kernel
theorem dX12_evening_4 : decode cX12_evening 4 = .ok (.bipush 20, 2) := by decide +kernel
theorem dX12_evening_6 : decode cX12_evening 6 = .ok (.iaload, 1) := by decide +kernel
theorem dX12_evening_7 : decode cX12_evening 7 = .ok (.sipush 999, 3) := by decide +kernel
theorem dX12_evening_10 : decode cX12_evening 10 = .ok (.if_icmp .ne 5, 3) := by decide +kernel
theorem dX12_evening_13 : decode cX12_evening 13 = .ok (.iconst (-1), 1) := by decide +kernel
theorem dX12_evening_14 : decode cX12_evening 14 = .ok (.ireturn, 1) := by decide +kernel
theorem dX12_evening_15 : decode cX12_evening 15 = .ok (.aload_n 0, 1) := by decide +kernel
theorem dX12_evening_16 : decode cX12_evening 16 = .ok (.invokevirtual 463, 3) := by decide +kernel
theorem dX12_evening_19 : decode cX12_evening 19 = .ok (.aload_n 0, 1) := by decide +kernel
theorem dX12_evening_20 : decode cX12_evening 20 = .ok (.invokevirtual 466, 3) := by decide +kernel
theorem dX12_evening_23 : decode cX12_evening 23 = .ok (.istore_n 1, 1) := by decide +kernel
theorem dX12_evening_24 : decode cX12_evening 24 = .ok (.aload_n 0, 1) := by decide +kernel
theorem dX12_evening_25 : decode cX12_evening 25 = .ok (.iload_n 1, 1) := by decide +kernel
theorem dX12_evening_26 : decode cX12_evening 26 = .ok (.invokevirtual 469, 3) := by decide +kernel
theorem dX12_evening_29 : decode cX12_evening 29 = .ok (.aload_n 0, 1) := by decide +kernel
theorem dX12_evening_30 : decode cX12_evening 30 = .ok (.invokevirtual 407, 3) := by decide +kernel
theorem dX12_evening_33 : decode cX12_evening 33 = .ok (.iload_n 1, 1) := by decide +kernel
theorem dX12_evening_34 : decode cX12_evening 34 = .ok (.ireturn, 1) := by decide +kernel
theorem dX12_undo_0 : decode cX12_undo 0 = .ok (.aload_n 0, 1) := by decide +kernel
theorem dX12_undo_1 : decode cX12_undo 1 = .ok (.getfield 410, 3) := by decide +kernel
theorem dX12_undo_4 : decode cX12_undo 4 = .ok (.ifCond .ne 5, 3) := by decide +kernel
theorem dX12_undo_7 : decode cX12_undo 7 = .ok (.iconst 0, 1) := by decide +kernel
theorem dX12_undo_8 : decode cX12_undo 8 = .ok (.ireturn, 1) := by decide +kernel
theorem dX12_undo_9 : decode cX12_undo 9 = .ok (.aload_n 0, 1) := by decide +kernel
theorem dX12_undo_10 : decode cX12_undo 10 = .ok (.dup, 1) := by decide +kernel
theorem dX12_undo_11 : decode cX12_undo 11 = .ok (.getfield 410, 3) := by decide +kernel
theorem dX12_undo_14 : decode cX12_undo 14 = .ok (.iconst 1, 1) := by decide +kernel
theorem dX12_undo_15 : decode cX12_undo 15 = .ok (.isub, 1) := by decide +kernel
theorem dX12_undo_16 : decode cX12_undo 16 = .ok (.putfield 410, 3) := by decide +kernel
theorem dX12_undo_19 : decode cX12_undo 19 = .ok (.aload_n 0, 1) := by decide +kernel
theorem dX12_undo_20 : decode cX12_undo 20 = .ok (.dup, 1) := by decide +kernel
theorem dX12_undo_21 : decode cX12_undo 21 = .ok (.getfield 413, 3) := by decide +kernel
theorem dX12_undo_24 : decode cX12_undo 24 = .ok (.iconst 1, 1) := by decide +kernel
theorem dX12_undo_25 : decode cX12_undo 25 = .ok (.iadd, 1) := by decide +kernel
theorem dX12_undo_26 : decode cX12_undo 26 = .ok (.putfield 413, 3) := by decide +kernel
theorem dX12_undo_29 : decode cX12_undo 29 = .ok (.aload_n 0, 1) := by decide +kernel
theorem dX12_undo_30 : decode cX12_undo 30 = .ok (.bipush 22, 2) := by decide +kernel
theorem dX12_undo_32 : decode cX12_undo 32 = .ok (.aload_n 0, 1) := by decide +kernel
theorem dX12_undo_33 : decode cX12_undo 33 = .ok (.getfield 410, 3) := by decide +kernel
theorem dX12_undo_36 : decode cX12_undo 36 = .ok (.imul, 1) := by decide +kernel
theorem dX12_undo_37 : decode cX12_undo 37 = .ok (.invokevirtual 472, 3) := by decide +kernel
theorem dX12_undo_40 : decode cX12_undo 40 = .ok (.iconst 1, 1) := by decide +kernel
theorem dX12_undo_41 : decode cX12_undo 41 = .ok (.ireturn, 1) := by decide +kernel
theorem dX12_redo_0 : decode cX12_redo 0 = .ok (.aload_n 0, 1) := by decide +kernel
theorem dX12_redo_1 : decode cX12_redo 1 = .ok (.getfield 413, 3) := by decide +kernel
theorem dX12_redo_4 : decode cX12_redo 4 = .ok (.ifCond .ne 5, 3) := by decide +kernel
theorem dX12_redo_7 : decode cX12_redo 7 = .ok (.iconst 0, 1) := by decide +kernel
theorem dX12_redo_8 : decode cX12_redo 8 = .ok (.ireturn, 1) := by decide +kernel
theorem dX12_redo_9 : decode cX12_redo 9 = .ok (.aload_n 0, 1) := by decide +kernel
theorem dX12_redo_10 : decode cX12_redo 10 = .ok (.bipush 22, 2) := by decide +kernel
theorem dX12_redo_12 : decode cX12_redo 12 = .ok (.aload_n 0, 1) := by decide +kernel
theorem dX12_redo_13 : decode cX12_redo 13 = .ok (.getfield 410, 3) := by decide +kernel
theorem dX12_redo_16 : decode cX12_redo 16 = .ok (.imul, 1) := by decide +kernel
theorem dX12_redo_17 : decode cX12_redo 17 = .ok (.invokevirtual 472, 3) := by decide +kernel
theorem dX12_redo_20 : decode cX12_redo 20 = .ok (.aload_n 0, 1) := by decide +kernel
theorem dX12_redo_21 : decode cX12_redo 21 = .ok (.dup, 1) := by decide +kernel
theorem dX12_redo_22 : decode cX12_redo 22 = .ok (.getfield 410, 3) := by decide +kernel
theorem dX12_redo_25 : decode cX12_redo 25 = .ok (.iconst 1, 1) := by decide +kernel
theorem dX12_redo_26 : decode cX12_redo 26 = .ok (.iadd, 1) := by decide +kernel
theorem dX12_redo_27 : decode cX12_redo 27 = .ok (.putfield 410, 3) := by decide +kernel
theorem dX12_redo_30 : decode cX12_redo 30 = .ok (.aload_n 0, 1) := by decide +kernel
theorem dX12_redo_31 : decode cX12_redo 31 = .ok (.dup, 1) := by decide +kernel
theorem dX12_redo_32 : decode cX12_redo 32 = .ok (.getfield 413, 3) := by decide +kernel
theorem dX12_redo_35 : decode cX12_redo 35 = .ok (.iconst 1, 1) := by decide +kernel
theorem dX12_redo_36 : decode cX12_redo 36 = .ok (.isub, 1) := by decide +kernel
theorem dX12_redo_37 : decode cX12_redo 37 = .ok (.putfield 413, 3) := by decide +kernel
theorem dX12_redo_40 : decode cX12_redo 40 = .ok (.iconst 1, 1) := by decide +kernel
theorem dX12_redo_41 : decode cX12_redo 41 = .ok (.ireturn, 1) := by decide +kernel
theorem dX12_tonight_0 : decode cX12_tonight 0 = .ok (.iload_n 1, 1) := by decide +kernel
theorem dX12_tonight_1 : decode cX12_tonight 1 = .ok (.iconst 0, 1) := by decide +kernel
theorem dX12_tonight_2 : decode cX12_tonight 2 = .ok (.iconst 2, 1) := by decide +kernel
theorem dX12_tonight_3 : decode cX12_tonight 3 = .ok (.invokestatic 422, 3) := by decide +kernel
theorem dX12_tonight_6 : decode cX12_tonight 6 = .ok (.ifCond .ne 5, 3) := by decide +kernel
theorem dX12_tonight_9 : decode cX12_tonight 9 = .ok (.iconst (-1), 1) := by decide +kernel
theorem dX12_tonight_10 : decode cX12_tonight 10 = .ok (.ireturn, 1) := by decide +kernel
theorem dX12_tonight_11 : decode cX12_tonight 11 = .ok (.aload_n 0, 1) := by decide +kernel
theorem dX12_tonight_12 : decode cX12_tonight 12 = .ok (.invokevirtual 451, 3) := by decide +kernel
theorem dX12_tonight_15 : decode cX12_tonight 15 = .ok (.aload_n 0, 1) := by decide +kernel
theorem dX12_tonight_16 : decode cX12_tonight 16 = .ok (.iload_n 1, 1) := by decide +kernel
theorem dX12_tonight_17 : decode cX12_tonight 17 = .ok (.iconst 1, 1) := by decide +kernel
theorem dX12_tonight_18 : decode cX12_tonight 18 = .ok (.iadd, 1) := by decide +kernel
theorem dX12_tonight_19 : decode cX12_tonight 19 = .ok (.invokevirtual 475, 3) := by decide +kernel
theorem dX12_tonight_22 : decode cX12_tonight 22 = .ok (.ireturn, 1) := by decide +kernel
theorem dX12_wayOf_0 : decode cX12_wayOf 0 = .ok (.iload_n 2, 1) := by decide +kernel
theorem dX12_wayOf_1 : decode cX12_wayOf 1 = .ok (.ifCond .ge 7, 3) := by decide +kernel
theorem dX12_wayOf_4 : decode cX12_wayOf 4 = .ok (.iconst 0, 1) := by decide +kernel
theorem dX12_wayOf_5 : decode cX12_wayOf 5 = .ok (.goto 19, 3) := by decide +kernel
theorem dX12_wayOf_8 : decode cX12_wayOf 8 = .ok (.aload_n 0, 1) := by decide +kernel
theorem dX12_wayOf_9 : decode cX12_wayOf 9 = .ok (.getfield 88, 3) := by decide +kernel
theorem dX12_wayOf_12 : decode cX12_wayOf 12 = .ok (.iload_n 1, 1) := by decide +kernel
theorem dX12_wayOf_13 : decode cX12_wayOf 13 = .ok (.iaload, 1) := by decide +kernel
theorem dX12_wayOf_14 : decode cX12_wayOf 14 = .ok (.aload_n 0, 1) := by decide +kernel
theorem dX12_wayOf_15 : decode cX12_wayOf 15 = .ok (.getfield 76, 3) := by decide +kernel
theorem dX12_wayOf_18 : decode cX12_wayOf 18 = .ok (.iload_n 2, 1) := by decide +kernel
theorem dX12_wayOf_19 : decode cX12_wayOf 19 = .ok (.iaload, 1) := by decide +kernel
theorem dX12_wayOf_20 : decode cX12_wayOf 20 = .ok (.isub, 1) := by decide +kernel
theorem dX12_wayOf_21 : decode cX12_wayOf 21 = .ok (.invokestatic 478, 3) := by decide +kernel
theorem dX12_wayOf_24 : decode cX12_wayOf 24 = .ok (.ireturn, 1) := by decide +kernel
theorem dX12_walkOf_0 : decode cX12_walkOf 0 = .ok (.iconst 0, 1) := by decide +kernel
theorem dX12_walkOf_1 : decode cX12_walkOf 1 = .ok (.istore_n 1, 1) := by decide +kernel
theorem dX12_walkOf_2 : decode cX12_walkOf 2 = .ok (.iconst 0, 1) := by decide +kernel
theorem dX12_walkOf_3 : decode cX12_walkOf 3 = .ok (.istore_n 2, 1) := by decide +kernel
theorem dX12_walkOf_4 : decode cX12_walkOf 4 = .ok (.iload_n 2, 1) := by decide +kernel
theorem dX12_walkOf_5 : decode cX12_walkOf 5 = .ok (.aload_n 0, 1) := by decide +kernel
theorem dX12_walkOf_6 : decode cX12_walkOf 6 = .ok (.getfield 395, 3) := by decide +kernel
theorem dX12_walkOf_9 : decode cX12_walkOf 9 = .ok (.if_icmp .ge 26, 3) := by decide +kernel
theorem dX12_walkOf_12 : decode cX12_walkOf 12 = .ok (.iload_n 1, 1) := by decide +kernel
theorem dX12_walkOf_13 : decode cX12_walkOf 13 = .ok (.aload_n 0, 1) := by decide +kernel
theorem dX12_walkOf_14 : decode cX12_walkOf 14 = .ok (.iload_n 2, 1) := by decide +kernel
theorem dX12_walkOf_15 : decode cX12_walkOf 15 = .ok (.aload_n 0, 1) := by decide +kernel
theorem dX12_walkOf_16 : decode cX12_walkOf 16 = .ok (.getfield 106, 3) := by decide +kernel
theorem dX12_walkOf_19 : decode cX12_walkOf 19 = .ok (.bipush 15, 2) := by decide +kernel
theorem dX12_walkOf_21 : decode cX12_walkOf 21 = .ok (.iload_n 2, 1) := by decide +kernel
theorem dX12_walkOf_22 : decode cX12_walkOf 22 = .ok (.iadd, 1) := by decide +kernel
theorem dX12_walkOf_23 : decode cX12_walkOf 23 = .ok (.iaload, 1) := by decide +kernel
theorem dX12_walkOf_24 : decode cX12_walkOf 24 = .ok (.invokevirtual 481, 3) := by decide +kernel
theorem dX12_walkOf_27 : decode cX12_walkOf 27 = .ok (.iadd, 1) := by decide +kernel
theorem dX12_walkOf_28 : decode cX12_walkOf 28 = .ok (.istore_n 1, 1) := by decide +kernel
theorem dX12_walkOf_29 : decode cX12_walkOf 29 = .ok (.iinc 2 1, 3) := by decide +kernel
theorem dX12_walkOf_32 : decode cX12_walkOf 32 = .ok (.goto (-28), 3) := by decide +kernel
theorem dX12_walkOf_35 : decode cX12_walkOf 35 = .ok (.iload_n 1, 1) := by decide +kernel
theorem dX12_walkOf_36 : decode cX12_walkOf 36 = .ok (.ireturn, 1) := by decide +kernel
theorem dX12_walk_0 : decode cX12_walk 0 = .ok (.aload_n 0, 1) := by decide +kernel
theorem dX12_walk_1 : decode cX12_walk 1 = .ok (.invokevirtual 451, 3) := by decide +kernel
theorem dX12_walk_4 : decode cX12_walk 4 = .ok (.aload_n 0, 1) := by decide +kernel
theorem dX12_walk_5 : decode cX12_walk 5 = .ok (.invokevirtual 484, 3) := by decide +kernel
theorem dX12_walk_8 : decode cX12_walk 8 = .ok (.ireturn, 1) := by decide +kernel
theorem dX12_power_0 : decode cX12_power 0 = .ok (.iconst 1, 1) := by decide +kernel
theorem dX12_power_1 : decode cX12_power 1 = .ok (.istore_n 2, 1) := by decide +kernel
theorem dX12_power_2 : decode cX12_power 2 = .ok (.iconst 0, 1) := by decide +kernel
theorem dX12_power_3 : decode cX12_power 3 = .ok (.istore_n 3, 1) := by decide +kernel
theorem dX12_power_4 : decode cX12_power 4 = .ok (.iload_n 3, 1) := by decide +kernel
theorem dX12_power_5 : decode cX12_power 5 = .ok (.iload_n 1, 1) := by decide +kernel
theorem dX12_power_6 : decode cX12_power 6 = .ok (.if_icmp .ge 13, 3) := by decide +kernel
theorem dX12_power_9 : decode cX12_power 9 = .ok (.iload_n 2, 1) := by decide +kernel
theorem dX12_power_10 : decode cX12_power 10 = .ok (.iload_n 0, 1) := by decide +kernel
theorem dX12_power_11 : decode cX12_power 11 = .ok (.imul, 1) := by decide +kernel
theorem dX12_power_12 : decode cX12_power 12 = .ok (.istore_n 2, 1) := by decide +kernel
theorem dX12_power_13 : decode cX12_power 13 = .ok (.iinc 3 1, 3) := by decide +kernel
theorem dX12_power_16 : decode cX12_power 16 = .ok (.goto (-12), 3) := by decide +kernel
theorem dX12_power_19 : decode cX12_power 19 = .ok (.iload_n 2, 1) := by decide +kernel
theorem dX12_power_20 : decode cX12_power 20 = .ok (.ireturn, 1) := by decide +kernel
theorem dX12_laySending_0 : decode cX12_laySending 0 = .ok (.iload_n 1, 1) := by decide +kernel
theorem dX12_laySending_1 : decode cX12_laySending 1 = .ok (.istore_n 2, 1) := by decide +kernel
theorem dX12_laySending_2 : decode cX12_laySending 2 = .ok (.aload_n 0, 1) := by decide +kernel
theorem dX12_laySending_3 : decode cX12_laySending 3 = .ok (.getfield 395, 3) := by decide +kernel
theorem dX12_laySending_6 : decode cX12_laySending 6 = .ok (.iconst 1, 1) := by decide +kernel
theorem dX12_laySending_7 : decode cX12_laySending 7 = .ok (.isub, 1) := by decide +kernel
theorem dX12_laySending_8 : decode cX12_laySending 8 = .ok (.istore_n 3, 1) := by decide +kernel
theorem dX12_laySending_9 : decode cX12_laySending 9 = .ok (.iload_n 3, 1) := by decide +kernel
theorem dX12_laySending_10 : decode cX12_laySending 10 = .ok (.ifCond .lt 52, 3) := by decide +kernel
theorem dX12_laySending_13 : decode cX12_laySending 13 = .ok (.iload_n 2, 1) := by decide +kernel
theorem dX12_laySending_14 : decode cX12_laySending 14 = .ok (.aload_n 0, 1) := by decide +kernel
theorem dX12_laySending_15 : decode cX12_laySending 15 = .ok (.getfield 392, 3) := by decide +kernel
theorem dX12_laySending_18 : decode cX12_laySending 18 = .ok (.iconst 1, 1) := by decide +kernel
theorem dX12_laySending_19 : decode cX12_laySending 19 = .ok (.iadd, 1) := by decide +kernel
theorem dX12_laySending_20 : decode cX12_laySending 20 = .ok (.irem, 1) := by decide +kernel
theorem dX12_laySending_21 : decode cX12_laySending 21 = .ok (.istore 4, 2) := by decide +kernel
theorem dX12_laySending_23 : decode cX12_laySending 23 = .ok (.aload_n 0, 1) := by decide +kernel
theorem dX12_laySending_24 : decode cX12_laySending 24 = .ok (.getfield 106, 3) := by decide +kernel
theorem dX12_laySending_27 : decode cX12_laySending 27 = .ok (.bipush 15, 2) := by decide +kernel
theorem dX12_laySending_29 : decode cX12_laySending 29 = .ok (.iload_n 3, 1) := by decide +kernel
theorem dX12_laySending_30 : decode cX12_laySending 30 = .ok (.iadd, 1) := by decide +kernel
theorem dX12_laySending_31 : decode cX12_laySending 31 = .ok (.iload 4, 2) := by decide +kernel
theorem dX12_laySending_33 : decode cX12_laySending 33 = .ok (.aload_n 0, 1) := by decide +kernel
theorem dX12_laySending_34 : decode cX12_laySending 34 = .ok (.getfield 392, 3) := by decide +kernel
theorem dX12_laySending_37 : decode cX12_laySending 37 = .ok (.if_icmp .ne 7, 3) := by decide +kernel
theorem dX12_laySending_40 : decode cX12_laySending 40 = .ok (.iconst (-1), 1) := by decide +kernel
theorem dX12_laySending_41 : decode cX12_laySending 41 = .ok (.goto 5, 3) := by decide +kernel
theorem dX12_laySending_44 : decode cX12_laySending 44 = .ok (.iload 4, 2) := by decide +kernel
theorem dX12_laySending_46 : decode cX12_laySending 46 = .ok (.iastore, 1) := by decide +kernel
theorem dX12_laySending_47 : decode cX12_laySending 47 = .ok (.iload_n 2, 1) := by decide +kernel
theorem dX12_laySending_48 : decode cX12_laySending 48 = .ok (.aload_n 0, 1) := by decide +kernel
theorem dX12_laySending_49 : decode cX12_laySending 49 = .ok (.getfield 392, 3) := by decide +kernel
theorem dX12_laySending_52 : decode cX12_laySending 52 = .ok (.iconst 1, 1) := by decide +kernel
theorem dX12_laySending_53 : decode cX12_laySending 53 = .ok (.iadd, 1) := by decide +kernel
theorem dX12_laySending_54 : decode cX12_laySending 54 = .ok (.idiv, 1) := by decide +kernel
theorem dX12_laySending_55 : decode cX12_laySending 55 = .ok (.istore_n 2, 1) := by decide +kernel
theorem dX12_laySending_56 : decode cX12_laySending 56 = .ok (.iinc 3 (-1), 3) := by decide +kernel
theorem dX12_laySending_59 : decode cX12_laySending 59 = .ok (.goto (-50), 3) := by decide +kernel
theorem dX12_laySending_62 : decode cX12_laySending 62 = .ok (.iconst 1, 1) := by decide +kernel
theorem dX12_laySending_63 : decode cX12_laySending 63 = .ok (.istore_n 3, 1) := by decide +kernel
theorem dX12_laySending_64 : decode cX12_laySending 64 = .ok (.iconst 0, 1) := by decide +kernel
theorem dX12_laySending_65 : decode cX12_laySending 65 = .ok (.istore 4, 2) := by decide +kernel
theorem dX12_laySending_67 : decode cX12_laySending 67 = .ok (.iload 4, 2) := by decide +kernel
theorem dX12_laySending_69 : decode cX12_laySending 69 = .ok (.aload_n 0, 1) := by decide +kernel
theorem dX12_laySending_70 : decode cX12_laySending 70 = .ok (.getfield 392, 3) := by decide +kernel
theorem dX12_laySending_73 : decode cX12_laySending 73 = .ok (.if_icmp .ge 38, 3) := by decide +kernel
theorem dX12_laySending_76 : decode cX12_laySending 76 = .ok (.iload_n 3, 1) := by decide +kernel
theorem dX12_laySending_77 : decode cX12_laySending 77 = .ok (.ifCond .eq 26, 3) := by decide +kernel
theorem dX12_laySending_80 : decode cX12_laySending 80 = .ok (.aload_n 0, 1) := by decide +kernel
theorem dX12_laySending_81 : decode cX12_laySending 81 = .ok (.iload 4, 2) := by decide +kernel
theorem dX12_laySending_83 : decode cX12_laySending 83 = .ok (.invokevirtual 430, 3) := by decide +kernel
theorem dX12_laySending_86 : decode cX12_laySending 86 = .ok (.invokestatic 433, 3) := by decide +kernel
theorem dX12_laySending_89 : decode cX12_laySending 89 = .ok (.aload_n 0, 1) := by decide +kernel
theorem dX12_laySending_90 : decode cX12_laySending 90 = .ok (.getfield 82, 3) := by decide +kernel
theorem dX12_laySending_93 : decode cX12_laySending 93 = .ok (.iload 4, 2) := by decide +kernel
theorem dX12_laySending_95 : decode cX12_laySending 95 = .ok (.iaload, 1) := by decide +kernel
theorem dX12_laySending_96 : decode cX12_laySending 96 = .ok (.if_icmp .gt 7, 3) := by decide +kernel
theorem dX12_laySending_99 : decode cX12_laySending 99 = .ok (.iconst 1, 1) := by decide +kernel
theorem dX12_laySending_100 : decode cX12_laySending 100 = .ok (.goto 4, 3) := by decide +kernel
theorem dX12_laySending_103 : decode cX12_laySending 103 = .ok (.iconst 0, 1) := by decide +kernel
theorem dX12_laySending_104 : decode cX12_laySending 104 = .ok (.istore_n 3, 1) := by decide +kernel
theorem dX12_laySending_105 : decode cX12_laySending 105 = .ok (.iinc 4 1, 3) := by decide +kernel
theorem dX12_laySending_108 : decode cX12_laySending 108 = .ok (.goto (-41), 3) := by decide +kernel
theorem dX12_laySending_111 : decode cX12_laySending 111 = .ok (.iload_n 3, 1) := by decide +kernel
theorem dX12_laySending_112 : decode cX12_laySending 112 = .ok (.ireturn, 1) := by decide +kernel
theorem dX12_putSending_0 : decode cX12_putSending 0 = .ok (.iconst 0, 1) := by decide +kernel
theorem dX12_putSending_1 : decode cX12_putSending 1 = .ok (.istore_n 1, 1) := by decide +kernel
theorem dX12_putSending_2 : decode cX12_putSending 2 = .ok (.iload_n 1, 1) := by decide +kernel
theorem dX12_putSending_3 : decode cX12_putSending 3 = .ok (.aload_n 0, 1) := by decide +kernel
theorem dX12_putSending_4 : decode cX12_putSending 4 = .ok (.getfield 395, 3) := by decide +kernel
theorem dX12_putSending_7 : decode cX12_putSending 7 = .ok (.if_icmp .ge 24, 3) := by decide +kernel
theorem dX12_putSending_10 : decode cX12_putSending 10 = .ok (.aload_n 0, 1) := by decide +kernel
theorem dX12_putSending_11 : decode cX12_putSending 11 = .ok (.getfield 121, 3) := by decide +kernel
theorem dX12_putSending_14 : decode cX12_putSending 14 = .ok (.iload_n 1, 1) := by decide +kernel
theorem dX12_putSending_15 : decode cX12_putSending 15 = .ok (.aload_n 0, 1) := by decide +kernel
theorem dX12_putSending_16 : decode cX12_putSending 16 = .ok (.getfield 106, 3) := by decide +kernel
theorem dX12_putSending_19 : decode cX12_putSending 19 = .ok (.bipush 15, 2) := by decide +kernel
theorem dX12_putSending_21 : decode cX12_putSending 21 = .ok (.iload_n 1, 1) := by decide +kernel
theorem dX12_putSending_22 : decode cX12_putSending 22 = .ok (.iadd, 1) := by decide +kernel
theorem dX12_putSending_23 : decode cX12_putSending 23 = .ok (.iaload, 1) := by decide +kernel
theorem dX12_putSending_24 : decode cX12_putSending 24 = .ok (.iastore, 1) := by decide +kernel
theorem dX12_putSending_25 : decode cX12_putSending 25 = .ok (.iinc 1 1, 3) := by decide +kernel
theorem dX12_putSending_28 : decode cX12_putSending 28 = .ok (.goto (-26), 3) := by decide +kernel
theorem dX12_putSending_31 : decode cX12_putSending 31 = .ok (.aload_n 0, 1) := by decide +kernel
theorem dX12_putSending_32 : decode cX12_putSending 32 = .ok (.aload_n 0, 1) := by decide +kernel
theorem dX12_putSending_33 : decode cX12_putSending 33 = .ok (.getfield 395, 3) := by decide +kernel
theorem dX12_putSending_36 : decode cX12_putSending 36 = .ok (.putfield 419, 3) := by decide +kernel
theorem dX12_putSending_39 : decode cX12_putSending 39 = .ok (.return_, 1) := by decide +kernel
theorem dX12_round_0 : decode cX12_round 0 = .ok (.iload_n 1, 1) := by decide +kernel
theorem dX12_round_1 : decode cX12_round 1 = .ok (.iconst 0, 1) := by decide +kernel
theorem dX12_round_2 : decode cX12_round 2 = .ok (.iconst 1, 1) := by decide +kernel
theorem dX12_round_3 : decode cX12_round 3 = .ok (.invokestatic 422, 3) := by decide +kernel
theorem dX12_round_6 : decode cX12_round 6 = .ok (.ifCond .ne 5, 3) := by decide +kernel
theorem dX12_round_9 : decode cX12_round 9 = .ok (.iconst (-1), 1) := by decide +kernel
theorem dX12_round_10 : decode cX12_round 10 = .ok (.ireturn, 1) := by decide +kernel
theorem dX12_round_11 : decode cX12_round 11 = .ok (.aload_n 0, 1) := by decide +kernel
theorem dX12_round_12 : decode cX12_round 12 = .ok (.invokevirtual 451, 3) := by decide +kernel
theorem dX12_round_15 : decode cX12_round 15 = .ok (.iconst (-1), 1) := by decide +kernel
theorem dX12_round_16 : decode cX12_round 16 = .ok (.istore_n 2, 1) := by decide +kernel
theorem dX12_round_17 : decode cX12_round 17 = .ok (.iconst 0, 1) := by decide +kernel
theorem dX12_round_18 : decode cX12_round 18 = .ok (.istore_n 3, 1) := by decide +kernel
theorem dX12_round_19 : decode cX12_round 19 = .ok (.iconst 0, 1) := by decide +kernel
theorem dX12_round_20 : decode cX12_round 20 = .ok (.istore 4, 2) := by decide +kernel
theorem dX12_round_22 : decode cX12_round 22 = .ok (.iload 4, 2) := by decide +kernel
theorem dX12_round_24 : decode cX12_round 24 = .ok (.aload_n 0, 1) := by decide +kernel
theorem dX12_round_25 : decode cX12_round 25 = .ok (.getfield 392, 3) := by decide +kernel
theorem dX12_round_28 : decode cX12_round 28 = .ok (.iconst 1, 1) := by decide +kernel
theorem dX12_round_29 : decode cX12_round 29 = .ok (.iadd, 1) := by decide +kernel
theorem dX12_round_30 : decode cX12_round 30 = .ok (.aload_n 0, 1) := by decide +kernel
theorem dX12_round_31 : decode cX12_round 31 = .ok (.getfield 395, 3) := by decide +kernel
theorem dX12_round_34 : decode cX12_round 34 = .ok (.invokestatic 487, 3) := by decide +kernel
theorem dX12_round_37 : decode cX12_round 37 = .ok (.if_icmp .ge 66, 3) := by decide +kernel
theorem dX12_round_40 : decode cX12_round 40 = .ok (.aload_n 0, 1) := by decide +kernel
theorem dX12_round_41 : decode cX12_round 41 = .ok (.iload 4, 2) := by decide +kernel
theorem dX12_round_43 : decode cX12_round 43 = .ok (.invokevirtual 490, 3) := by decide +kernel
theorem dX12_round_46 : decode cX12_round 46 = .ok (.ifCond .ne 6, 3) := by decide +kernel
theorem dX12_round_49 : decode cX12_round 49 = .ok (.goto 48, 3) := by decide +kernel
theorem dX12_round_52 : decode cX12_round 52 = .ok (.aload_n 0, 1) := by decide +kernel
theorem dX12_round_53 : decode cX12_round 53 = .ok (.iconst 1, 1) := by decide +kernel
theorem dX12_round_54 : decode cX12_round 54 = .ok (.invokevirtual 475, 3) := by decide +kernel
theorem dX12_round_57 : decode cX12_round 57 = .ok (.invokestatic 433, 3) := by decide +kernel
theorem dX12_round_60 : decode cX12_round 60 = .ok (.istore 5, 2) := by decide +kernel
theorem dX12_round_62 : decode cX12_round 62 = .ok (.iload 5, 2) := by decide +kernel
theorem dX12_round_64 : decode cX12_round 64 = .ok (.iload_n 2, 1) := by decide +kernel
theorem dX12_round_65 : decode cX12_round 65 = .ok (.if_icmp .lt 32, 3) := by decide +kernel
theorem dX12_round_68 : decode cX12_round 68 = .ok (.iload 5, 2) := by decide +kernel
theorem dX12_round_70 : decode cX12_round 70 = .ok (.iload_n 2, 1) := by decide +kernel
theorem dX12_round_71 : decode cX12_round 71 = .ok (.if_icmp .ne 14, 3) := by decide +kernel
theorem dX12_round_74 : decode cX12_round 74 = .ok (.aload_n 0, 1) := by decide +kernel
theorem dX12_round_75 : decode cX12_round 75 = .ok (.invokevirtual 484, 3) := by decide +kernel
theorem dX12_round_78 : decode cX12_round 78 = .ok (.iload_n 3, 1) := by decide +kernel
theorem dX12_round_79 : decode cX12_round 79 = .ok (.if_icmp .lt 6, 3) := by decide +kernel
theorem dX12_round_82 : decode cX12_round 82 = .ok (.goto 15, 3) := by decide +kernel
theorem dX12_round_85 : decode cX12_round 85 = .ok (.iload 5, 2) := by decide +kernel
theorem dX12_round_87 : decode cX12_round 87 = .ok (.istore_n 2, 1) := by decide +kernel
theorem dX12_round_88 : decode cX12_round 88 = .ok (.aload_n 0, 1) := by decide +kernel
theorem dX12_round_89 : decode cX12_round 89 = .ok (.invokevirtual 484, 3) := by decide +kernel
theorem dX12_round_92 : decode cX12_round 92 = .ok (.istore_n 3, 1) := by decide +kernel
theorem dX12_round_93 : decode cX12_round 93 = .ok (.aload_n 0, 1) := by decide +kernel
theorem dX12_round_94 : decode cX12_round 94 = .ok (.invokevirtual 493, 3) := by decide +kernel
theorem dX12_round_97 : decode cX12_round 97 = .ok (.iinc 4 1, 3) := by decide +kernel
theorem dX12_round_100 : decode cX12_round 100 = .ok (.goto (-78), 3) := by decide +kernel
theorem dX12_round_103 : decode cX12_round 103 = .ok (.iload_n 1, 1) := by decide +kernel
theorem dX12_round_104 : decode cX12_round 104 = .ok (.ifCond .ne 7, 3) := by decide +kernel
theorem dX12_round_107 : decode cX12_round 107 = .ok (.iload_n 2, 1) := by decide +kernel
theorem dX12_round_108 : decode cX12_round 108 = .ok (.goto 4, 3) := by decide +kernel
theorem dX12_round_111 : decode cX12_round 111 = .ok (.iload_n 3, 1) := by decide +kernel
theorem dX12_round_112 : decode cX12_round 112 = .ok (.ireturn, 1) := by decide +kernel
theorem dX12_serves_0 : decode cX12_serves 0 = .ok (.aload_n 0, 1) := by decide +kernel
theorem dX12_serves_1 : decode cX12_serves 1 = .ok (.iconst 1, 1) := by decide +kernel
theorem dX12_serves_2 : decode cX12_serves 2 = .ok (.invokevirtual 475, 3) := by decide +kernel
theorem dX12_serves_5 : decode cX12_serves 5 = .ok (.istore_n 1, 1) := by decide +kernel
theorem dX12_serves_6 : decode cX12_serves 6 = .ok (.aload_n 0, 1) := by decide +kernel
theorem dX12_serves_7 : decode cX12_serves 7 = .ok (.iconst 2, 1) := by decide +kernel
theorem dX12_serves_8 : decode cX12_serves 8 = .ok (.invokevirtual 475, 3) := by decide +kernel
theorem dX12_serves_11 : decode cX12_serves 11 = .ok (.ifCond .ne 15, 3) := by decide +kernel
theorem dX12_serves_14 : decode cX12_serves 14 = .ok (.aload_n 0, 1) := by decide +kernel
theorem dX12_serves_15 : decode cX12_serves 15 = .ok (.iconst 3, 1) := by decide +kernel
theorem dX12_serves_16 : decode cX12_serves 16 = .ok (.invokevirtual 475, 3) := by decide +kernel
theorem dX12_serves_19 : decode cX12_serves 19 = .ok (.ifCond .ne 7, 3) := by decide +kernel
theorem dX12_serves_22 : decode cX12_serves 22 = .ok (.iconst 1, 1) := by decide +kernel
theorem dX12_serves_23 : decode cX12_serves 23 = .ok (.goto 4, 3) := by decide +kernel
theorem dX12_serves_26 : decode cX12_serves 26 = .ok (.iconst 0, 1) := by decide +kernel
theorem dX12_serves_27 : decode cX12_serves 27 = .ok (.istore_n 2, 1) := by decide +kernel
theorem dX12_serves_28 : decode cX12_serves 28 = .ok (.iconst 0, 1) := by decide +kernel
theorem dX12_serves_29 : decode cX12_serves 29 = .ok (.istore_n 3, 1) := by decide +kernel
theorem dX12_serves_30 : decode cX12_serves 30 = .ok (.iload_n 3, 1) := by decide +kernel
theorem dX12_serves_31 : decode cX12_serves 31 = .ok (.aload_n 0, 1) := by decide +kernel
theorem dX12_serves_32 : decode cX12_serves 32 = .ok (.getfield 392, 3) := by decide +kernel
theorem dX12_serves_35 : decode cX12_serves 35 = .ok (.if_icmp .ge 29, 3) := by decide +kernel
theorem dX12_serves_38 : decode cX12_serves 38 = .ok (.iload_n 2, 1) := by decide +kernel
theorem dX12_serves_39 : decode cX12_serves 39 = .ok (.ifCond .eq 17, 3) := by decide +kernel
theorem dX12_serves_42 : decode cX12_serves 42 = .ok (.aload_n 0, 1) := by decide +kernel
theorem dX12_serves_43 : decode cX12_serves 43 = .ok (.iload_n 3, 1) := by decide +kernel
theorem dX12_serves_44 : decode cX12_serves 44 = .ok (.invokevirtual 430, 3) := by decide +kernel
theorem dX12_serves_47 : decode cX12_serves 47 = .ok (.iload_n 1, 1) := by decide +kernel
theorem dX12_serves_48 : decode cX12_serves 48 = .ok (.iand, 1) := by decide +kernel
theorem dX12_serves_49 : decode cX12_serves 49 = .ok (.ifCond .eq 7, 3) := by decide +kernel
theorem dX12_serves_52 : decode cX12_serves 52 = .ok (.iconst 1, 1) := by decide +kernel
theorem dX12_serves_53 : decode cX12_serves 53 = .ok (.goto 4, 3) := by decide +kernel
theorem dX12_serves_56 : decode cX12_serves 56 = .ok (.iconst 0, 1) := by decide +kernel
theorem dX12_serves_57 : decode cX12_serves 57 = .ok (.istore_n 2, 1) := by decide +kernel
theorem dX12_serves_58 : decode cX12_serves 58 = .ok (.iinc 3 1, 3) := by decide +kernel
theorem dX12_serves_61 : decode cX12_serves 61 = .ok (.goto (-31), 3) := by decide +kernel
theorem dX12_serves_64 : decode cX12_serves 64 = .ok (.iload_n 2, 1) := by decide +kernel
theorem dX12_serves_65 : decode cX12_serves 65 = .ok (.ireturn, 1) := by decide +kernel
theorem dX12_service_0 : decode cX12_service 0 = .ok (.aload_n 0, 1) := by decide +kernel
theorem dX12_service_1 : decode cX12_service 1 = .ok (.invokevirtual 451, 3) := by decide +kernel
theorem dX12_service_4 : decode cX12_service 4 = .ok (.aload_n 0, 1) := by decide +kernel
theorem dX12_service_5 : decode cX12_service 5 = .ok (.iconst 0, 1) := by decide +kernel
theorem dX12_service_6 : decode cX12_service 6 = .ok (.putfield 419, 3) := by decide +kernel
theorem dX12_service_9 : decode cX12_service 9 = .ok (.ldc_w 496, 3) := by decide +kernel
theorem dX12_service_12 : decode cX12_service 12 = .ok (.istore_n 1, 1) := by decide +kernel
theorem dX12_service_13 : decode cX12_service 13 = .ok (.iconst 0, 1) := by decide +kernel
theorem dX12_service_14 : decode cX12_service 14 = .ok (.istore_n 2, 1) := by decide +kernel
theorem dX12_service_15 : decode cX12_service 15 = .ok (.iload_n 2, 1) := by decide +kernel
theorem dX12_service_16 : decode cX12_service 16 = .ok (.aload_n 0, 1) := by decide +kernel
theorem dX12_service_17 : decode cX12_service 17 = .ok (.getfield 392, 3) := by decide +kernel
theorem dX12_service_20 : decode cX12_service 20 = .ok (.iconst 1, 1) := by decide +kernel
theorem dX12_service_21 : decode cX12_service 21 = .ok (.iadd, 1) := by decide +kernel
theorem dX12_service_22 : decode cX12_service 22 = .ok (.aload_n 0, 1) := by decide +kernel
theorem dX12_service_23 : decode cX12_service 23 = .ok (.getfield 395, 3) := by decide +kernel
theorem dX12_service_26 : decode cX12_service 26 = .ok (.invokestatic 487, 3) := by decide +kernel
theorem dX12_service_29 : decode cX12_service 29 = .ok (.if_icmp .ge 44, 3) := by decide +kernel
theorem dX12_service_32 : decode cX12_service 32 = .ok (.aload_n 0, 1) := by decide +kernel
theorem dX12_service_33 : decode cX12_service 33 = .ok (.iload_n 2, 1) := by decide +kernel
theorem dX12_service_34 : decode cX12_service 34 = .ok (.invokevirtual 490, 3) := by decide +kernel
theorem dX12_service_37 : decode cX12_service 37 = .ok (.ifCond .eq 30, 3) := by decide +kernel
theorem dX12_service_40 : decode cX12_service 40 = .ok (.aload_n 0, 1) := by decide +kernel
theorem dX12_service_41 : decode cX12_service 41 = .ok (.invokevirtual 484, 3) := by decide +kernel
theorem dX12_service_44 : decode cX12_service 44 = .ok (.iload_n 1, 1) := by decide +kernel
theorem dX12_service_45 : decode cX12_service 45 = .ok (.if_icmp .ge 22, 3) := by decide +kernel
theorem dX12_service_48 : decode cX12_service 48 = .ok (.aload_n 0, 1) := by decide +kernel
theorem dX12_service_49 : decode cX12_service 49 = .ok (.invokevirtual 497, 3) := by decide +kernel
theorem dX12_service_52 : decode cX12_service 52 = .ok (.ifCond .ne 6, 3) := by decide +kernel
theorem dX12_service_55 : decode cX12_service 55 = .ok (.goto 12, 3) := by decide +kernel
theorem dX12_service_58 : decode cX12_service 58 = .ok (.aload_n 0, 1) := by decide +kernel
theorem dX12_service_59 : decode cX12_service 59 = .ok (.invokevirtual 484, 3) := by decide +kernel
theorem dX12_service_62 : decode cX12_service 62 = .ok (.istore_n 1, 1) := by decide +kernel
theorem dX12_service_63 : decode cX12_service 63 = .ok (.aload_n 0, 1) := by decide +kernel
theorem dX12_service_64 : decode cX12_service 64 = .ok (.invokevirtual 493, 3) := by decide +kernel
theorem dX12_service_67 : decode cX12_service 67 = .ok (.iinc 2 1, 3) := by decide +kernel
theorem dX12_service_70 : decode cX12_service 70 = .ok (.goto (-55), 3) := by decide +kernel
theorem dX12_service_73 : decode cX12_service 73 = .ok (.iload_n 1, 1) := by decide +kernel
theorem dX12_service_74 : decode cX12_service 74 = .ok (.ldc_w 496, 3) := by decide +kernel
theorem dX12_service_77 : decode cX12_service 77 = .ok (.if_icmp .ne 7, 3) := by decide +kernel
theorem dX12_service_80 : decode cX12_service 80 = .ok (.iconst (-1), 1) := by decide +kernel
theorem dX12_service_81 : decode cX12_service 81 = .ok (.goto 4, 3) := by decide +kernel
theorem dX12_service_84 : decode cX12_service 84 = .ok (.iload_n 1, 1) := by decide +kernel
theorem dX12_service_85 : decode cX12_service 85 = .ok (.ireturn, 1) := by decide +kernel
theorem dX12_sendJust_0 : decode cX12_sendJust 0 = .ok (.iconst 0, 1) := by decide +kernel
theorem dX12_sendJust_1 : decode cX12_sendJust 1 = .ok (.istore_n 3, 1) := by decide +kernel
theorem dX12_sendJust_2 : decode cX12_sendJust 2 = .ok (.iload_n 3, 1) := by decide +kernel
theorem dX12_sendJust_3 : decode cX12_sendJust 3 = .ok (.aload_n 0, 1) := by decide +kernel
theorem dX12_sendJust_4 : decode cX12_sendJust 4 = .ok (.getfield 395, 3) := by decide +kernel
theorem dX12_sendJust_7 : decode cX12_sendJust 7 = .ok (.if_icmp .ge 32, 3) := by decide +kernel
theorem dX12_sendJust_10 : decode cX12_sendJust 10 = .ok (.aload_n 0, 1) := by decide +kernel
theorem dX12_sendJust_11 : decode cX12_sendJust 11 = .ok (.getfield 106, 3) := by decide +kernel
theorem dX12_sendJust_14 : decode cX12_sendJust 14 = .ok (.bipush 15, 2) := by decide +kernel
theorem dX12_sendJust_16 : decode cX12_sendJust 16 = .ok (.iload_n 3, 1) := by decide +kernel
theorem dX12_sendJust_17 : decode cX12_sendJust 17 = .ok (.iadd, 1) := by decide +kernel
theorem dX12_sendJust_18 : decode cX12_sendJust 18 = .ok (.iload_n 1, 1) := by decide +kernel
theorem dX12_sendJust_19 : decode cX12_sendJust 19 = .ok (.iload_n 3, 1) := by decide +kernel
theorem dX12_sendJust_20 : decode cX12_sendJust 20 = .ok (.ishr, 1) := by decide +kernel
theorem dX12_sendJust_21 : decode cX12_sendJust 21 = .ok (.iconst 1, 1) := by decide +kernel
theorem dX12_sendJust_22 : decode cX12_sendJust 22 = .ok (.iand, 1) := by decide +kernel
theorem dX12_sendJust_23 : decode cX12_sendJust 23 = .ok (.iconst 1, 1) := by decide +kernel
theorem dX12_sendJust_24 : decode cX12_sendJust 24 = .ok (.if_icmp .ne 7, 3) := by decide +kernel
theorem dX12_sendJust_27 : decode cX12_sendJust 27 = .ok (.iload_n 2, 1) := by decide +kernel
theorem dX12_sendJust_28 : decode cX12_sendJust 28 = .ok (.goto 4, 3) := by decide +kernel
theorem dX12_sendJust_31 : decode cX12_sendJust 31 = .ok (.iconst (-1), 1) := by decide +kernel
theorem dX12_sendJust_32 : decode cX12_sendJust 32 = .ok (.iastore, 1) := by decide +kernel
theorem dX12_sendJust_33 : decode cX12_sendJust 33 = .ok (.iinc 3 1, 3) := by decide +kernel
theorem dX12_sendJust_36 : decode cX12_sendJust 36 = .ok (.goto (-34), 3) := by decide +kernel
theorem dX12_sendJust_39 : decode cX12_sendJust 39 = .ok (.return_, 1) := by decide +kernel
theorem dX12_team_0 : decode cX12_team 0 = .ok (.aload_n 0, 1) := by decide +kernel
theorem dX12_team_1 : decode cX12_team 1 = .ok (.iload_n 1, 1) := by decide +kernel
theorem dX12_team_2 : decode cX12_team 2 = .ok (.invokevirtual 448, 3) := by decide +kernel
theorem dX12_team_5 : decode cX12_team 5 = .ok (.ifCond .eq 12, 3) := by decide +kernel
theorem dX12_team_8 : decode cX12_team 8 = .ok (.iload_n 2, 1) := by decide +kernel
theorem dX12_team_9 : decode cX12_team 9 = .ok (.iconst 0, 1) := by decide +kernel
theorem dX12_team_10 : decode cX12_team 10 = .ok (.iconst 1, 1) := by decide +kernel
theorem dX12_team_11 : decode cX12_team 11 = .ok (.invokestatic 422, 3) := by decide +kernel
theorem dX12_team_14 : decode cX12_team 14 = .ok (.ifCond .ne 5, 3) := by decide +kernel
theorem dX12_team_17 : decode cX12_team 17 = .ok (.iconst (-1), 1) := by decide +kernel
theorem dX12_team_18 : decode cX12_team 18 = .ok (.ireturn, 1) := by decide +kernel
theorem dX12_team_19 : decode cX12_team 19 = .ok (.aload_n 0, 1) := by decide +kernel
theorem dX12_team_20 : decode cX12_team 20 = .ok (.invokevirtual 451, 3) := by decide +kernel
theorem dX12_team_23 : decode cX12_team 23 = .ok (.iconst (-1), 1) := by decide +kernel
theorem dX12_team_24 : decode cX12_team 24 = .ok (.istore_n 3, 1) := by decide +kernel
theorem dX12_team_25 : decode cX12_team 25 = .ok (.iconst 1, 1) := by decide +kernel
theorem dX12_team_26 : decode cX12_team 26 = .ok (.istore 4, 2) := by decide +kernel
theorem dX12_team_28 : decode cX12_team 28 = .ok (.iload 4, 2) := by decide +kernel
theorem dX12_team_30 : decode cX12_team 30 = .ok (.iconst 1, 1) := by decide +kernel
theorem dX12_team_31 : decode cX12_team 31 = .ok (.aload_n 0, 1) := by decide +kernel
theorem dX12_team_32 : decode cX12_team 32 = .ok (.getfield 395, 3) := by decide +kernel
theorem dX12_team_35 : decode cX12_team 35 = .ok (.ishl, 1) := by decide +kernel
theorem dX12_team_36 : decode cX12_team 36 = .ok (.if_icmp .ge 62, 3) := by decide +kernel
theorem dX12_team_39 : decode cX12_team 39 = .ok (.iload 4, 2) := by decide +kernel
theorem dX12_team_41 : decode cX12_team 41 = .ok (.invokestatic 433, 3) := by decide +kernel
theorem dX12_team_44 : decode cX12_team 44 = .ok (.aload_n 0, 1) := by decide +kernel
theorem dX12_team_45 : decode cX12_team 45 = .ok (.getfield 82, 3) := by decide +kernel
theorem dX12_team_48 : decode cX12_team 48 = .ok (.iload_n 1, 1) := by decide +kernel
theorem dX12_team_49 : decode cX12_team 49 = .ok (.iaload, 1) := by decide +kernel
theorem dX12_team_50 : decode cX12_team 50 = .ok (.if_icmp .gt 42, 3) := by decide +kernel
theorem dX12_team_53 : decode cX12_team 53 = .ok (.iload_n 3, 1) := by decide +kernel
theorem dX12_team_54 : decode cX12_team 54 = .ok (.ifCond .lt 18, 3) := by decide +kernel
theorem dX12_team_57 : decode cX12_team 57 = .ok (.iload 4, 2) := by decide +kernel
theorem dX12_team_59 : decode cX12_team 59 = .ok (.invokestatic 433, 3) := by decide +kernel
theorem dX12_team_62 : decode cX12_team 62 = .ok (.iload_n 3, 1) := by decide +kernel
theorem dX12_team_63 : decode cX12_team 63 = .ok (.invokestatic 433, 3) := by decide +kernel
theorem dX12_team_66 : decode cX12_team 66 = .ok (.if_icmp .lt 6, 3) := by decide +kernel
theorem dX12_team_69 : decode cX12_team 69 = .ok (.goto 23, 3) := by decide +kernel
theorem dX12_team_72 : decode cX12_team 72 = .ok (.aload_n 0, 1) := by decide +kernel
theorem dX12_team_73 : decode cX12_team 73 = .ok (.iload 4, 2) := by decide +kernel
theorem dX12_team_75 : decode cX12_team 75 = .ok (.iload_n 1, 1) := by decide +kernel
theorem dX12_team_76 : decode cX12_team 76 = .ok (.invokevirtual 500, 3) := by decide +kernel
theorem dX12_team_79 : decode cX12_team 79 = .ok (.aload_n 0, 1) := by decide +kernel
theorem dX12_team_80 : decode cX12_team 80 = .ok (.iconst 1, 1) := by decide +kernel
theorem dX12_team_81 : decode cX12_team 81 = .ok (.invokevirtual 475, 3) := by decide +kernel
theorem dX12_team_84 : decode cX12_team 84 = .ok (.iload 4, 2) := by decide +kernel
theorem dX12_team_86 : decode cX12_team 86 = .ok (.if_icmp .ne 6, 3) := by decide +kernel
theorem dX12_team_89 : decode cX12_team 89 = .ok (.iload 4, 2) := by decide +kernel
theorem dX12_team_91 : decode cX12_team 91 = .ok (.istore_n 3, 1) := by decide +kernel
theorem dX12_team_92 : decode cX12_team 92 = .ok (.iinc 4 1, 3) := by decide +kernel
theorem dX12_team_95 : decode cX12_team 95 = .ok (.goto (-67), 3) := by decide +kernel
theorem dX12_team_98 : decode cX12_team 98 = .ok (.iload_n 3, 1) := by decide +kernel
theorem dX12_team_99 : decode cX12_team 99 = .ok (.ifCond .ge 7, 3) := by decide +kernel
theorem dX12_team_102 : decode cX12_team 102 = .ok (.iconst (-1), 1) := by decide +kernel
theorem dX12_team_103 : decode cX12_team 103 = .ok (.goto 15, 3) := by decide +kernel
theorem dX12_team_106 : decode cX12_team 106 = .ok (.iload_n 2, 1) := by decide +kernel
theorem dX12_team_107 : decode cX12_team 107 = .ok (.ifCond .ne 10, 3) := by decide +kernel
theorem dX12_team_110 : decode cX12_team 110 = .ok (.iload_n 3, 1) := by decide +kernel
theorem dX12_team_111 : decode cX12_team 111 = .ok (.invokestatic 433, 3) := by decide +kernel
theorem dX12_team_114 : decode cX12_team 114 = .ok (.goto 4, 3) := by decide +kernel
theorem dX12_team_117 : decode cX12_team 117 = .ok (.iload_n 3, 1) := by decide +kernel
theorem dX12_team_118 : decode cX12_team 118 = .ok (.ireturn, 1) := by decide +kernel
theorem dX12_countsAlone_0 : decode cX12_countsAlone 0 = .ok (.aload_n 0, 1) := by decide +kernel
theorem dX12_countsAlone_1 : decode cX12_countsAlone 1 = .ok (.iconst 1, 1) := by decide +kernel
theorem dX12_countsAlone_2 : decode cX12_countsAlone 2 = .ok (.iload_n 1, 1) := by decide +kernel
theorem dX12_countsAlone_3 : decode cX12_countsAlone 3 = .ok (.ishl, 1) := by decide +kernel
theorem dX12_countsAlone_4 : decode cX12_countsAlone 4 = .ok (.iload_n 2, 1) := by decide +kernel
theorem dX12_countsAlone_5 : decode cX12_countsAlone 5 = .ok (.invokevirtual 500, 3) := by decide +kernel
theorem dX12_countsAlone_8 : decode cX12_countsAlone 8 = .ok (.aload_n 0, 1) := by decide +kernel
theorem dX12_countsAlone_9 : decode cX12_countsAlone 9 = .ok (.iload_n 1, 1) := by decide +kernel
theorem dX12_countsAlone_10 : decode cX12_countsAlone 10 = .ok (.invokevirtual 445, 3) := by decide +kernel
theorem dX12_countsAlone_13 : decode cX12_countsAlone 13 = .ok (.iconst 1, 1) := by decide +kernel
theorem dX12_countsAlone_14 : decode cX12_countsAlone 14 = .ok (.if_icmp .ne 7, 3) := by decide +kernel
theorem dX12_countsAlone_17 : decode cX12_countsAlone 17 = .ok (.iconst 1, 1) := by decide +kernel
theorem dX12_countsAlone_18 : decode cX12_countsAlone 18 = .ok (.goto 4, 3) := by decide +kernel
theorem dX12_countsAlone_21 : decode cX12_countsAlone 21 = .ok (.iconst 0, 1) := by decide +kernel
theorem dX12_countsAlone_22 : decode cX12_countsAlone 22 = .ok (.ireturn, 1) := by decide +kernel
theorem dX12_lasts_0 : decode cX12_lasts 0 = .ok (.aload_n 0, 1) := by decide +kernel
theorem dX12_lasts_1 : decode cX12_lasts 1 = .ok (.iload_n 1, 1) := by decide +kernel
theorem dX12_lasts_2 : decode cX12_lasts 2 = .ok (.invokevirtual 454, 3) := by decide +kernel
theorem dX12_lasts_5 : decode cX12_lasts 5 = .ok (.ifCond .eq 11, 3) := by decide +kernel
theorem dX12_lasts_8 : decode cX12_lasts 8 = .ok (.aload_n 0, 1) := by decide +kernel
theorem dX12_lasts_9 : decode cX12_lasts 9 = .ok (.iload_n 2, 1) := by decide +kernel
theorem dX12_lasts_10 : decode cX12_lasts 10 = .ok (.invokevirtual 448, 3) := by decide +kernel
theorem dX12_lasts_13 : decode cX12_lasts 13 = .ok (.ifCond .ne 5, 3) := by decide +kernel
theorem dX12_lasts_16 : decode cX12_lasts 16 = .ok (.iconst (-1), 1) := by decide +kernel
theorem dX12_lasts_17 : decode cX12_lasts 17 = .ok (.ireturn, 1) := by decide +kernel
theorem dX12_lasts_18 : decode cX12_lasts 18 = .ok (.aload_n 0, 1) := by decide +kernel
theorem dX12_lasts_19 : decode cX12_lasts 19 = .ok (.invokevirtual 451, 3) := by decide +kernel
theorem dX12_lasts_22 : decode cX12_lasts 22 = .ok (.iconst 0, 1) := by decide +kernel
theorem dX12_lasts_23 : decode cX12_lasts 23 = .ok (.istore_n 3, 1) := by decide +kernel
theorem dX12_lasts_24 : decode cX12_lasts 24 = .ok (.iload_n 3, 1) := by decide +kernel
theorem dX12_lasts_25 : decode cX12_lasts 25 = .ok (.bipush 60, 2) := by decide +kernel
theorem dX12_lasts_27 : decode cX12_lasts 27 = .ok (.if_icmp .gt 25, 3) := by decide +kernel
theorem dX12_lasts_30 : decode cX12_lasts 30 = .ok (.aload_n 0, 1) := by decide +kernel
theorem dX12_lasts_31 : decode cX12_lasts 31 = .ok (.iload_n 1, 1) := by decide +kernel
theorem dX12_lasts_32 : decode cX12_lasts 32 = .ok (.iload_n 2, 1) := by decide +kernel
theorem dX12_lasts_33 : decode cX12_lasts 33 = .ok (.invokevirtual 503, 3) := by decide +kernel
theorem dX12_lasts_36 : decode cX12_lasts 36 = .ok (.ifCond .ne 5, 3) := by decide +kernel
theorem dX12_lasts_39 : decode cX12_lasts 39 = .ok (.iload_n 3, 1) := by decide +kernel
theorem dX12_lasts_40 : decode cX12_lasts 40 = .ok (.ireturn, 1) := by decide +kernel
theorem dX12_lasts_41 : decode cX12_lasts 41 = .ok (.aload_n 0, 1) := by decide +kernel
theorem dX12_lasts_42 : decode cX12_lasts 42 = .ok (.iconst 0, 1) := by decide +kernel
theorem dX12_lasts_43 : decode cX12_lasts 43 = .ok (.invokevirtual 469, 3) := by decide +kernel
theorem dX12_lasts_46 : decode cX12_lasts 46 = .ok (.iinc 3 1, 3) := by decide +kernel
theorem dX12_lasts_49 : decode cX12_lasts 49 = .ok (.goto (-25), 3) := by decide +kernel
theorem dX12_lasts_52 : decode cX12_lasts 52 = .ok (.iconst (-1), 1) := by decide +kernel
theorem dX12_lasts_53 : decode cX12_lasts 53 = .ok (.ireturn, 1) := by decide +kernel
theorem dX12_soon_0 : decode cX12_soon 0 = .ok (.aload_n 0, 1) := by decide +kernel
theorem dX12_soon_1 : decode cX12_soon 1 = .ok (.iload_n 1, 1) := by decide +kernel
theorem dX12_soon_2 : decode cX12_soon 2 = .ok (.invokevirtual 454, 3) := by decide +kernel
theorem dX12_soon_5 : decode cX12_soon 5 = .ok (.ifCond .eq 11, 3) := by decide +kernel
theorem dX12_soon_8 : decode cX12_soon 8 = .ok (.aload_n 0, 1) := by decide +kernel
theorem dX12_soon_9 : decode cX12_soon 9 = .ok (.iload_n 2, 1) := by decide +kernel
theorem dX12_soon_10 : decode cX12_soon 10 = .ok (.invokevirtual 448, 3) := by decide +kernel
theorem dX12_soon_13 : decode cX12_soon 13 = .ok (.ifCond .ne 5, 3) := by decide +kernel
theorem dX12_soon_16 : decode cX12_soon 16 = .ok (.iconst (-1), 1) := by decide +kernel
theorem dX12_soon_17 : decode cX12_soon 17 = .ok (.ireturn, 1) := by decide +kernel
theorem dX12_soon_18 : decode cX12_soon 18 = .ok (.aload_n 0, 1) := by decide +kernel
theorem dX12_soon_19 : decode cX12_soon 19 = .ok (.invokevirtual 451, 3) := by decide +kernel
theorem dX12_soon_22 : decode cX12_soon 22 = .ok (.aload_n 0, 1) := by decide +kernel
theorem dX12_soon_23 : decode cX12_soon 23 = .ok (.iconst 1, 1) := by decide +kernel
theorem dX12_soon_24 : decode cX12_soon 24 = .ok (.iload_n 1, 1) := by decide +kernel
theorem dX12_soon_25 : decode cX12_soon 25 = .ok (.ishl, 1) := by decide +kernel
theorem dX12_soon_26 : decode cX12_soon 26 = .ok (.iload_n 2, 1) := by decide +kernel
theorem dX12_soon_27 : decode cX12_soon 27 = .ok (.invokevirtual 500, 3) := by decide +kernel
theorem dX12_soon_30 : decode cX12_soon 30 = .ok (.iconst 0, 1) := by decide +kernel
theorem dX12_soon_31 : decode cX12_soon 31 = .ok (.istore_n 3, 1) := by decide +kernel
theorem dX12_soon_32 : decode cX12_soon 32 = .ok (.iload_n 3, 1) := by decide +kernel
theorem dX12_soon_33 : decode cX12_soon 33 = .ok (.bipush 60, 2) := by decide +kernel
theorem dX12_soon_35 : decode cX12_soon 35 = .ok (.if_icmp .gt 24, 3) := by decide +kernel
theorem dX12_soon_38 : decode cX12_soon 38 = .ok (.aload_n 0, 1) := by decide +kernel
theorem dX12_soon_39 : decode cX12_soon 39 = .ok (.iload_n 1, 1) := by decide +kernel
theorem dX12_soon_40 : decode cX12_soon 40 = .ok (.invokevirtual 457, 3) := by decide +kernel
theorem dX12_soon_43 : decode cX12_soon 43 = .ok (.ifCond .eq 5, 3) := by decide +kernel
theorem dX12_soon_46 : decode cX12_soon 46 = .ok (.iload_n 3, 1) := by decide +kernel
theorem dX12_soon_47 : decode cX12_soon 47 = .ok (.ireturn, 1) := by decide +kernel
theorem dX12_soon_48 : decode cX12_soon 48 = .ok (.aload_n 0, 1) := by decide +kernel
theorem dX12_soon_49 : decode cX12_soon 49 = .ok (.iconst 0, 1) := by decide +kernel
theorem dX12_soon_50 : decode cX12_soon 50 = .ok (.invokevirtual 469, 3) := by decide +kernel
theorem dX12_soon_53 : decode cX12_soon 53 = .ok (.iinc 3 1, 3) := by decide +kernel
theorem dX12_soon_56 : decode cX12_soon 56 = .ok (.goto (-24), 3) := by decide +kernel
theorem dX12_soon_59 : decode cX12_soon 59 = .ok (.iconst (-1), 1) := by decide +kernel
theorem dX12_soon_60 : decode cX12_soon 60 = .ok (.ireturn, 1) := by decide +kernel
theorem dX12_change_0 : decode cX12_change 0 = .ok (.iload_n 1, 1) := by decide +kernel
theorem dX12_change_1 : decode cX12_change 1 = .ok (.iconst 0, 1) := by decide +kernel
theorem dX12_change_2 : decode cX12_change 2 = .ok (.iconst 2, 1) := by decide +kernel
theorem dX12_change_3 : decode cX12_change 3 = .ok (.invokestatic 422, 3) := by decide +kernel
theorem dX12_change_6 : decode cX12_change 6 = .ok (.ifCond .ne 5, 3) := by decide +kernel
theorem dX12_change_9 : decode cX12_change 9 = .ok (.iconst (-1), 1) := by decide +kernel
theorem dX12_change_10 : decode cX12_change 10 = .ok (.ireturn, 1) := by decide +kernel
theorem dX12_change_11 : decode cX12_change 11 = .ok (.aload_n 0, 1) := by decide +kernel
theorem dX12_change_12 : decode cX12_change 12 = .ok (.invokevirtual 451, 3) := by decide +kernel
theorem dX12_change_15 : decode cX12_change 15 = .ok (.aload_n 0, 1) := by decide +kernel
theorem dX12_change_16 : decode cX12_change 16 = .ok (.iconst 1, 1) := by decide +kernel
theorem dX12_change_17 : decode cX12_change 17 = .ok (.invokevirtual 475, 3) := by decide +kernel
theorem dX12_change_20 : decode cX12_change 20 = .ok (.invokestatic 433, 3) := by decide +kernel
theorem dX12_change_23 : decode cX12_change 23 = .ok (.istore_n 2, 1) := by decide +kernel
theorem dX12_change_24 : decode cX12_change 24 = .ok (.iconst (-1), 1) := by decide +kernel
theorem dX12_change_25 : decode cX12_change 25 = .ok (.istore_n 3, 1) := by decide +kernel
theorem dX12_change_26 : decode cX12_change 26 = .ok (.iconst 0, 1) := by decide +kernel
theorem dX12_change_27 : decode cX12_change 27 = .ok (.istore 4, 2) := by decide +kernel
theorem dX12_change_29 : decode cX12_change 29 = .ok (.iload 4, 2) := by decide +kernel
theorem dX12_change_31 : decode cX12_change 31 = .ok (.aload_n 0, 1) := by decide +kernel
theorem dX12_change_32 : decode cX12_change 32 = .ok (.getfield 395, 3) := by decide +kernel
theorem dX12_change_35 : decode cX12_change 35 = .ok (.if_icmp .ge 104, 3) := by decide +kernel
theorem dX12_change_38 : decode cX12_change 38 = .ok (.iload 4, 2) := by decide +kernel
theorem dX12_change_40 : decode cX12_change 40 = .ok (.iconst 1, 1) := by decide +kernel
theorem dX12_change_41 : decode cX12_change 41 = .ok (.iadd, 1) := by decide +kernel
theorem dX12_change_42 : decode cX12_change 42 = .ok (.istore 5, 2) := by decide +kernel
theorem dX12_change_44 : decode cX12_change 44 = .ok (.iload 5, 2) := by decide +kernel
theorem dX12_change_46 : decode cX12_change 46 = .ok (.aload_n 0, 1) := by decide +kernel
theorem dX12_change_47 : decode cX12_change 47 = .ok (.getfield 395, 3) := by decide +kernel
theorem dX12_change_50 : decode cX12_change 50 = .ok (.if_icmp .ge 83, 3) := by decide +kernel
theorem dX12_change_53 : decode cX12_change 53 = .ok (.aload_n 0, 1) := by decide +kernel
theorem dX12_change_54 : decode cX12_change 54 = .ok (.invokevirtual 451, 3) := by decide +kernel
theorem dX12_change_57 : decode cX12_change 57 = .ok (.aload_n 0, 1) := by decide +kernel
theorem dX12_change_58 : decode cX12_change 58 = .ok (.getfield 106, 3) := by decide +kernel
theorem dX12_change_61 : decode cX12_change 61 = .ok (.bipush 15, 2) := by decide +kernel
theorem dX12_change_63 : decode cX12_change 63 = .ok (.iload 4, 2) := by decide +kernel
theorem dX12_change_65 : decode cX12_change 65 = .ok (.iadd, 1) := by decide +kernel
theorem dX12_change_66 : decode cX12_change 66 = .ok (.aload_n 0, 1) := by decide +kernel
theorem dX12_change_67 : decode cX12_change 67 = .ok (.getfield 103, 3) := by decide +kernel
theorem dX12_change_70 : decode cX12_change 70 = .ok (.bipush 15, 2) := by decide +kernel
theorem dX12_change_72 : decode cX12_change 72 = .ok (.iload 5, 2) := by decide +kernel
theorem dX12_change_74 : decode cX12_change 74 = .ok (.iadd, 1) := by decide +kernel
theorem dX12_change_75 : decode cX12_change 75 = .ok (.iaload, 1) := by decide +kernel
theorem dX12_change_76 : decode cX12_change 76 = .ok (.iastore, 1) := by decide +kernel
theorem dX12_change_77 : decode cX12_change 77 = .ok (.aload_n 0, 1) := by decide +kernel
theorem dX12_change_78 : decode cX12_change 78 = .ok (.getfield 106, 3) := by decide +kernel
theorem dX12_change_81 : decode cX12_change 81 = .ok (.bipush 15, 2) := by decide +kernel
theorem dX12_change_83 : decode cX12_change 83 = .ok (.iload 5, 2) := by decide +kernel
theorem dX12_change_85 : decode cX12_change 85 = .ok (.iadd, 1) := by decide +kernel
theorem dX12_change_86 : decode cX12_change 86 = .ok (.aload_n 0, 1) := by decide +kernel
theorem dX12_change_87 : decode cX12_change 87 = .ok (.getfield 103, 3) := by decide +kernel
theorem dX12_change_90 : decode cX12_change 90 = .ok (.bipush 15, 2) := by decide +kernel
theorem dX12_change_92 : decode cX12_change 92 = .ok (.iload 4, 2) := by decide +kernel
theorem dX12_change_94 : decode cX12_change 94 = .ok (.iadd, 1) := by decide +kernel
theorem dX12_change_95 : decode cX12_change 95 = .ok (.iaload, 1) := by decide +kernel
theorem dX12_change_96 : decode cX12_change 96 = .ok (.iastore, 1) := by decide +kernel
theorem dX12_change_97 : decode cX12_change 97 = .ok (.aload_n 0, 1) := by decide +kernel
theorem dX12_change_98 : decode cX12_change 98 = .ok (.iconst 1, 1) := by decide +kernel
theorem dX12_change_99 : decode cX12_change 99 = .ok (.invokevirtual 475, 3) := by decide +kernel
theorem dX12_change_102 : decode cX12_change 102 = .ok (.invokestatic 433, 3) := by decide +kernel
theorem dX12_change_105 : decode cX12_change 105 = .ok (.istore 6, 2) := by decide +kernel
theorem dX12_change_107 : decode cX12_change 107 = .ok (.iload 6, 2) := by decide +kernel
theorem dX12_change_109 : decode cX12_change 109 = .ok (.iload_n 2, 1) := by decide +kernel
theorem dX12_change_110 : decode cX12_change 110 = .ok (.if_icmp .gt 6, 3) := by decide +kernel
theorem dX12_change_113 : decode cX12_change 113 = .ok (.goto 14, 3) := by decide +kernel
theorem dX12_change_116 : decode cX12_change 116 = .ok (.iload 6, 2) := by decide +kernel
theorem dX12_change_118 : decode cX12_change 118 = .ok (.istore_n 2, 1) := by decide +kernel
theorem dX12_change_119 : decode cX12_change 119 = .ok (.iconst 5, 1) := by decide +kernel
theorem dX12_change_120 : decode cX12_change 120 = .ok (.iload 4, 2) := by decide +kernel
theorem dX12_change_122 : decode cX12_change 122 = .ok (.imul, 1) := by decide +kernel
theorem dX12_change_123 : decode cX12_change 123 = .ok (.iload 5, 2) := by decide +kernel
theorem dX12_change_125 : decode cX12_change 125 = .ok (.iadd, 1) := by decide +kernel
theorem dX12_change_126 : decode cX12_change 126 = .ok (.istore_n 3, 1) := by decide +kernel
theorem dX12_change_127 : decode cX12_change 127 = .ok (.iinc 5 1, 3) := by decide +kernel
theorem dX12_change_130 : decode cX12_change 130 = .ok (.goto (-86), 3) := by decide +kernel
theorem dX12_change_133 : decode cX12_change 133 = .ok (.iinc 4 1, 3) := by decide +kernel
theorem dX12_change_136 : decode cX12_change 136 = .ok (.goto (-107), 3) := by decide +kernel
theorem dX12_change_139 : decode cX12_change 139 = .ok (.iload_n 3, 1) := by decide +kernel
theorem dX12_change_140 : decode cX12_change 140 = .ok (.ifCond .ge 7, 3) := by decide +kernel
theorem dX12_change_143 : decode cX12_change 143 = .ok (.iconst (-1), 1) := by decide +kernel
theorem dX12_change_144 : decode cX12_change 144 = .ok (.goto 25, 3) := by decide +kernel
theorem dX12_change_147 : decode cX12_change 147 = .ok (.iload_n 1, 1) := by decide +kernel
theorem dX12_change_148 : decode cX12_change 148 = .ok (.ifCond .ne 9, 3) := by decide +kernel
theorem dX12_change_151 : decode cX12_change 151 = .ok (.iload_n 3, 1) := by decide +kernel
theorem dX12_change_152 : decode cX12_change 152 = .ok (.iconst 5, 1) := by decide +kernel
theorem dX12_change_153 : decode cX12_change 153 = .ok (.idiv, 1) := by decide +kernel
theorem dX12_change_154 : decode cX12_change 154 = .ok (.goto 15, 3) := by decide +kernel
theorem dX12_change_157 : decode cX12_change 157 = .ok (.iload_n 1, 1) := by decide +kernel
theorem dX12_change_158 : decode cX12_change 158 = .ok (.iconst 1, 1) := by decide +kernel
theorem dX12_change_159 : decode cX12_change 159 = .ok (.if_icmp .ne 9, 3) := by decide +kernel
theorem dX12_change_162 : decode cX12_change 162 = .ok (.iload_n 3, 1) := by decide +kernel
theorem dX12_change_163 : decode cX12_change 163 = .ok (.iconst 5, 1) := by decide +kernel
theorem dX12_change_164 : decode cX12_change 164 = .ok (.irem, 1) := by decide +kernel
theorem dX12_change_165 : decode cX12_change 165 = .ok (.goto 4, 3) := by decide +kernel
theorem dX12_change_168 : decode cX12_change 168 = .ok (.iload_n 2, 1) := by decide +kernel
theorem dX12_change_169 : decode cX12_change 169 = .ok (.ireturn, 1) := by decide +kernel
theorem dX12_goodOf_0 : decode cX12_goodOf 0 = .ok (.iload_n 3, 1) := by decide +kernel
theorem dX12_goodOf_1 : decode cX12_goodOf 1 = .ok (.ifCond .eq 9, 3) := by decide +kernel
theorem dX12_goodOf_4 : decode cX12_goodOf 4 = .ok (.sipush 1000, 3) := by decide +kernel
theorem dX12_goodOf_7 : decode cX12_goodOf 7 = .ok (.goto 4, 3) := by decide +kernel
theorem dX12_goodOf_10 : decode cX12_goodOf 10 = .ok (.iconst 0, 1) := by decide +kernel
theorem dX12_goodOf_11 : decode cX12_goodOf 11 = .ok (.aload_n 0, 1) := by decide +kernel
theorem dX12_goodOf_12 : decode cX12_goodOf 12 = .ok (.iload_n 1, 1) := by decide +kernel
theorem dX12_goodOf_13 : decode cX12_goodOf 13 = .ok (.iload_n 2, 1) := by decide +kernel
theorem dX12_goodOf_14 : decode cX12_goodOf 14 = .ok (.invokevirtual 481, 3) := by decide +kernel
theorem dX12_goodOf_17 : decode cX12_goodOf 17 = .ok (.isub, 1) := by decide +kernel
theorem dX12_goodOf_18 : decode cX12_goodOf 18 = .ok (.ireturn, 1) := by decide +kernel
theorem dX12_isRest_0 : decode cX12_isRest 0 = .ok (.iconst 1, 1) := by decide +kernel
theorem dX12_isRest_1 : decode cX12_isRest 1 = .ok (.istore 5, 2) := by decide +kernel
theorem dX12_isRest_3 : decode cX12_isRest 3 = .ok (.bipush 6, 2) := by decide +kernel
theorem dX12_isRest_5 : decode cX12_isRest 5 = .ok (.iload_n 3, 1) := by decide +kernel
theorem dX12_isRest_6 : decode cX12_isRest 6 = .ok (.imul, 1) := by decide +kernel
theorem dX12_isRest_7 : decode cX12_isRest 7 = .ok (.iload 4, 2) := by decide +kernel
theorem dX12_isRest_9 : decode cX12_isRest 9 = .ok (.iadd, 1) := by decide +kernel
theorem dX12_isRest_10 : decode cX12_isRest 10 = .ok (.istore 6, 2) := by decide +kernel
theorem dX12_isRest_12 : decode cX12_isRest 12 = .ok (.iconst 0, 1) := by decide +kernel
theorem dX12_isRest_13 : decode cX12_isRest 13 = .ok (.istore 7, 2) := by decide +kernel
theorem dX12_isRest_15 : decode cX12_isRest 15 = .ok (.iload 7, 2) := by decide +kernel
theorem dX12_isRest_17 : decode cX12_isRest 17 = .ok (.aload_n 0, 1) := by decide +kernel
theorem dX12_isRest_18 : decode cX12_isRest 18 = .ok (.getfield 392, 3) := by decide +kernel
theorem dX12_isRest_21 : decode cX12_isRest 21 = .ok (.if_icmp .ge 149, 3) := by decide +kernel
theorem dX12_isRest_24 : decode cX12_isRest 24 = .ok (.iload 5, 2) := by decide +kernel
theorem dX12_isRest_26 : decode cX12_isRest 26 = .ok (.ifCond .eq 65, 3) := by decide +kernel
theorem dX12_isRest_29 : decode cX12_isRest 29 = .ok (.aload_n 0, 1) := by decide +kernel
theorem dX12_isRest_30 : decode cX12_isRest 30 = .ok (.iload_n 1, 1) := by decide +kernel
theorem dX12_isRest_31 : decode cX12_isRest 31 = .ok (.iload 7, 2) := by decide +kernel
theorem dX12_isRest_33 : decode cX12_isRest 33 = .ok (.aload_n 0, 1) := by decide +kernel
theorem dX12_isRest_34 : decode cX12_isRest 34 = .ok (.getfield 124, 3) := by decide +kernel
theorem dX12_isRest_37 : decode cX12_isRest 37 = .ok (.bipush 6, 2) := by decide +kernel
theorem dX12_isRest_39 : decode cX12_isRest 39 = .ok (.iload 7, 2) := by decide +kernel
theorem dX12_isRest_41 : decode cX12_isRest 41 = .ok (.imul, 1) := by decide +kernel
theorem dX12_isRest_42 : decode cX12_isRest 42 = .ok (.iload 4, 2) := by decide +kernel
theorem dX12_isRest_44 : decode cX12_isRest 44 = .ok (.iadd, 1) := by decide +kernel
theorem dX12_isRest_45 : decode cX12_isRest 45 = .ok (.iaload, 1) := by decide +kernel
theorem dX12_isRest_46 : decode cX12_isRest 46 = .ok (.iconst 1, 1) := by decide +kernel
theorem dX12_isRest_47 : decode cX12_isRest 47 = .ok (.iand, 1) := by decide +kernel
theorem dX12_isRest_48 : decode cX12_isRest 48 = .ok (.iconst 1, 1) := by decide +kernel
theorem dX12_isRest_49 : decode cX12_isRest 49 = .ok (.if_icmp .ne 7, 3) := by decide +kernel
theorem dX12_isRest_52 : decode cX12_isRest 52 = .ok (.iconst 1, 1) := by decide +kernel
theorem dX12_isRest_53 : decode cX12_isRest 53 = .ok (.goto 4, 3) := by decide +kernel
theorem dX12_isRest_56 : decode cX12_isRest 56 = .ok (.iconst 0, 1) := by decide +kernel
theorem dX12_isRest_57 : decode cX12_isRest 57 = .ok (.invokevirtual 507, 3) := by decide +kernel
theorem dX12_isRest_60 : decode cX12_isRest 60 = .ok (.aload_n 0, 1) := by decide +kernel
theorem dX12_isRest_61 : decode cX12_isRest 61 = .ok (.iload_n 1, 1) := by decide +kernel
theorem dX12_isRest_62 : decode cX12_isRest 62 = .ok (.iload_n 3, 1) := by decide +kernel
theorem dX12_isRest_63 : decode cX12_isRest 63 = .ok (.aload_n 0, 1) := by decide +kernel
theorem dX12_isRest_64 : decode cX12_isRest 64 = .ok (.getfield 124, 3) := by decide +kernel
theorem dX12_isRest_67 : decode cX12_isRest 67 = .ok (.iload 6, 2) := by decide +kernel
theorem dX12_isRest_69 : decode cX12_isRest 69 = .ok (.iaload, 1) := by decide +kernel
theorem dX12_isRest_70 : decode cX12_isRest 70 = .ok (.iconst 1, 1) := by decide +kernel
theorem dX12_isRest_71 : decode cX12_isRest 71 = .ok (.iand, 1) := by decide +kernel
theorem dX12_isRest_72 : decode cX12_isRest 72 = .ok (.iconst 1, 1) := by decide +kernel
theorem dX12_isRest_73 : decode cX12_isRest 73 = .ok (.if_icmp .ne 7, 3) := by decide +kernel
theorem dX12_isRest_76 : decode cX12_isRest 76 = .ok (.iconst 1, 1) := by decide +kernel
theorem dX12_isRest_77 : decode cX12_isRest 77 = .ok (.goto 4, 3) := by decide +kernel
theorem dX12_isRest_80 : decode cX12_isRest 80 = .ok (.iconst 0, 1) := by decide +kernel
theorem dX12_isRest_81 : decode cX12_isRest 81 = .ok (.invokevirtual 507, 3) := by decide +kernel
theorem dX12_isRest_84 : decode cX12_isRest 84 = .ok (.if_icmp .gt 7, 3) := by decide +kernel
theorem dX12_isRest_87 : decode cX12_isRest 87 = .ok (.iconst 1, 1) := by decide +kernel
theorem dX12_isRest_88 : decode cX12_isRest 88 = .ok (.goto 4, 3) := by decide +kernel
theorem dX12_isRest_91 : decode cX12_isRest 91 = .ok (.iconst 0, 1) := by decide +kernel
theorem dX12_isRest_92 : decode cX12_isRest 92 = .ok (.istore 5, 2) := by decide +kernel
theorem dX12_isRest_94 : decode cX12_isRest 94 = .ok (.iload 5, 2) := by decide +kernel
theorem dX12_isRest_96 : decode cX12_isRest 96 = .ok (.ifCond .eq 65, 3) := by decide +kernel
theorem dX12_isRest_99 : decode cX12_isRest 99 = .ok (.aload_n 0, 1) := by decide +kernel
theorem dX12_isRest_100 : decode cX12_isRest 100 = .ok (.iload_n 2, 1) := by decide +kernel
theorem dX12_isRest_101 : decode cX12_isRest 101 = .ok (.iload 7, 2) := by decide +kernel
theorem dX12_isRest_103 : decode cX12_isRest 103 = .ok (.aload_n 0, 1) := by decide +kernel
theorem dX12_isRest_104 : decode cX12_isRest 104 = .ok (.getfield 124, 3) := by decide +kernel
theorem dX12_isRest_107 : decode cX12_isRest 107 = .ok (.bipush 6, 2) := by decide +kernel
theorem dX12_isRest_109 : decode cX12_isRest 109 = .ok (.iload_n 3, 1) := by decide +kernel
theorem dX12_isRest_110 : decode cX12_isRest 110 = .ok (.imul, 1) := by decide +kernel
theorem dX12_isRest_111 : decode cX12_isRest 111 = .ok (.iload 7, 2) := by decide +kernel
theorem dX12_isRest_113 : decode cX12_isRest 113 = .ok (.iadd, 1) := by decide +kernel
theorem dX12_isRest_114 : decode cX12_isRest 114 = .ok (.iaload, 1) := by decide +kernel
theorem dX12_isRest_115 : decode cX12_isRest 115 = .ok (.iconst 2, 1) := by decide +kernel
theorem dX12_isRest_116 : decode cX12_isRest 116 = .ok (.iand, 1) := by decide +kernel
theorem dX12_isRest_117 : decode cX12_isRest 117 = .ok (.iconst 2, 1) := by decide +kernel
theorem dX12_isRest_118 : decode cX12_isRest 118 = .ok (.if_icmp .ne 7, 3) := by decide +kernel
theorem dX12_isRest_121 : decode cX12_isRest 121 = .ok (.iconst 1, 1) := by decide +kernel
theorem dX12_isRest_122 : decode cX12_isRest 122 = .ok (.goto 4, 3) := by decide +kernel
theorem dX12_isRest_125 : decode cX12_isRest 125 = .ok (.iconst 0, 1) := by decide +kernel
theorem dX12_isRest_126 : decode cX12_isRest 126 = .ok (.invokevirtual 507, 3) := by decide +kernel
theorem dX12_isRest_129 : decode cX12_isRest 129 = .ok (.aload_n 0, 1) := by decide +kernel
theorem dX12_isRest_130 : decode cX12_isRest 130 = .ok (.iload_n 2, 1) := by decide +kernel
theorem dX12_isRest_131 : decode cX12_isRest 131 = .ok (.iload 4, 2) := by decide +kernel
theorem dX12_isRest_133 : decode cX12_isRest 133 = .ok (.aload_n 0, 1) := by decide +kernel
theorem dX12_isRest_134 : decode cX12_isRest 134 = .ok (.getfield 124, 3) := by decide +kernel
theorem dX12_isRest_137 : decode cX12_isRest 137 = .ok (.iload 6, 2) := by decide +kernel
theorem dX12_isRest_139 : decode cX12_isRest 139 = .ok (.iaload, 1) := by decide +kernel
theorem dX12_isRest_140 : decode cX12_isRest 140 = .ok (.iconst 2, 1) := by decide +kernel
theorem dX12_isRest_141 : decode cX12_isRest 141 = .ok (.iand, 1) := by decide +kernel
theorem dX12_isRest_142 : decode cX12_isRest 142 = .ok (.iconst 2, 1) := by decide +kernel
theorem dX12_isRest_143 : decode cX12_isRest 143 = .ok (.if_icmp .ne 7, 3) := by decide +kernel
theorem dX12_isRest_146 : decode cX12_isRest 146 = .ok (.iconst 1, 1) := by decide +kernel
theorem dX12_isRest_147 : decode cX12_isRest 147 = .ok (.goto 4, 3) := by decide +kernel
theorem dX12_isRest_150 : decode cX12_isRest 150 = .ok (.iconst 0, 1) := by decide +kernel
theorem dX12_isRest_151 : decode cX12_isRest 151 = .ok (.invokevirtual 507, 3) := by decide +kernel
theorem dX12_isRest_154 : decode cX12_isRest 154 = .ok (.if_icmp .gt 7, 3) := by decide +kernel
theorem dX12_isRest_157 : decode cX12_isRest 157 = .ok (.iconst 1, 1) := by decide +kernel
theorem dX12_isRest_158 : decode cX12_isRest 158 = .ok (.goto 4, 3) := by decide +kernel
theorem dX12_isRest_161 : decode cX12_isRest 161 = .ok (.iconst 0, 1) := by decide +kernel
theorem dX12_isRest_162 : decode cX12_isRest 162 = .ok (.istore 5, 2) := by decide +kernel
theorem dX12_isRest_164 : decode cX12_isRest 164 = .ok (.iinc 7 1, 3) := by decide +kernel
theorem dX12_isRest_167 : decode cX12_isRest 167 = .ok (.goto (-152), 3) := by decide +kernel
theorem dX12_isRest_170 : decode cX12_isRest 170 = .ok (.iload 5, 2) := by decide +kernel
theorem dX12_isRest_172 : decode cX12_isRest 172 = .ok (.ireturn, 1) := by decide +kernel
theorem dX12_guests_0 : decode cX12_guests 0 = .ok (.aload_n 0, 1) := by decide +kernel
theorem dX12_guests_1 : decode cX12_guests 1 = .ok (.iconst 0, 1) := by decide +kernel
theorem dX12_guests_2 : decode cX12_guests 2 = .ok (.putfield 419, 3) := by decide +kernel
theorem dX12_guests_5 : decode cX12_guests 5 = .ok (.aload_n 0, 1) := by decide +kernel
theorem dX12_guests_6 : decode cX12_guests 6 = .ok (.iload_n 1, 1) := by decide +kernel
theorem dX12_guests_7 : decode cX12_guests 7 = .ok (.invokevirtual 454, 3) := by decide +kernel
theorem dX12_guests_10 : decode cX12_guests 10 = .ok (.ifCond .eq 23, 3) := by decide +kernel
theorem dX12_guests_13 : decode cX12_guests 13 = .ok (.aload_n 0, 1) := by decide +kernel
theorem dX12_guests_14 : decode cX12_guests 14 = .ok (.iload_n 2, 1) := by decide +kernel
theorem dX12_guests_15 : decode cX12_guests 15 = .ok (.invokevirtual 454, 3) := by decide +kernel
theorem dX12_guests_18 : decode cX12_guests 18 = .ok (.ifCond .eq 15, 3) := by decide +kernel
theorem dX12_guests_21 : decode cX12_guests 21 = .ok (.iload_n 1, 1) := by decide +kernel
theorem dX12_guests_22 : decode cX12_guests 22 = .ok (.iload_n 2, 1) := by decide +kernel
theorem dX12_guests_23 : decode cX12_guests 23 = .ok (.if_icmp .eq 10, 3) := by decide +kernel
theorem dX12_guests_26 : decode cX12_guests 26 = .ok (.aload_n 0, 1) := by decide +kernel
theorem dX12_guests_27 : decode cX12_guests 27 = .ok (.getfield 392, 3) := by decide +kernel
theorem dX12_guests_30 : decode cX12_guests 30 = .ok (.ifCond .ne 5, 3) := by decide +kernel
theorem dX12_guests_33 : decode cX12_guests 33 = .ok (.iconst (-1), 1) := by decide +kernel
theorem dX12_guests_34 : decode cX12_guests 34 = .ok (.ireturn, 1) := by decide +kernel
theorem dX12_guests_35 : decode cX12_guests 35 = .ok (.aload_n 0, 1) := by decide +kernel
theorem dX12_guests_36 : decode cX12_guests 36 = .ok (.invokevirtual 451, 3) := by decide +kernel
theorem dX12_guests_39 : decode cX12_guests 39 = .ok (.aload_n 0, 1) := by decide +kernel
theorem dX12_guests_40 : decode cX12_guests 40 = .ok (.invokevirtual 511, 3) := by decide +kernel
theorem dX12_guests_43 : decode cX12_guests 43 = .ok (.iconst 0, 1) := by decide +kernel
theorem dX12_guests_44 : decode cX12_guests 44 = .ok (.istore_n 3, 1) := by decide +kernel
theorem dX12_guests_45 : decode cX12_guests 45 = .ok (.iload_n 3, 1) := by decide +kernel
theorem dX12_guests_46 : decode cX12_guests 46 = .ok (.aload_n 0, 1) := by decide +kernel
theorem dX12_guests_47 : decode cX12_guests 47 = .ok (.getfield 392, 3) := by decide +kernel
theorem dX12_guests_50 : decode cX12_guests 50 = .ok (.if_icmp .ge 129, 3) := by decide +kernel
theorem dX12_guests_53 : decode cX12_guests 53 = .ok (.iconst 0, 1) := by decide +kernel
theorem dX12_guests_54 : decode cX12_guests 54 = .ok (.istore 4, 2) := by decide +kernel
theorem dX12_guests_56 : decode cX12_guests 56 = .ok (.iload 4, 2) := by decide +kernel
theorem dX12_guests_58 : decode cX12_guests 58 = .ok (.aload_n 0, 1) := by decide +kernel
theorem dX12_guests_59 : decode cX12_guests 59 = .ok (.getfield 392, 3) := by decide +kernel
theorem dX12_guests_62 : decode cX12_guests 62 = .ok (.if_icmp .ge 111, 3) := by decide +kernel
theorem dX12_guests_65 : decode cX12_guests 65 = .ok (.aload_n 0, 1) := by decide +kernel
theorem dX12_guests_66 : decode cX12_guests 66 = .ok (.getfield 106, 3) := by decide +kernel
theorem dX12_guests_69 : decode cX12_guests 69 = .ok (.bipush 15, 2) := by decide +kernel
theorem dX12_guests_71 : decode cX12_guests 71 = .ok (.iload_n 1, 1) := by decide +kernel
theorem dX12_guests_72 : decode cX12_guests 72 = .ok (.iadd, 1) := by decide +kernel
theorem dX12_guests_73 : decode cX12_guests 73 = .ok (.iload_n 3, 1) := by decide +kernel
theorem dX12_guests_74 : decode cX12_guests 74 = .ok (.iastore, 1) := by decide +kernel
theorem dX12_guests_75 : decode cX12_guests 75 = .ok (.aload_n 0, 1) := by decide +kernel
theorem dX12_guests_76 : decode cX12_guests 76 = .ok (.getfield 106, 3) := by decide +kernel
theorem dX12_guests_79 : decode cX12_guests 79 = .ok (.bipush 15, 2) := by decide +kernel
theorem dX12_guests_81 : decode cX12_guests 81 = .ok (.iload_n 2, 1) := by decide +kernel
theorem dX12_guests_82 : decode cX12_guests 82 = .ok (.iadd, 1) := by decide +kernel
theorem dX12_guests_83 : decode cX12_guests 83 = .ok (.iload 4, 2) := by decide +kernel
theorem dX12_guests_85 : decode cX12_guests 85 = .ok (.iastore, 1) := by decide +kernel
theorem dX12_guests_86 : decode cX12_guests 86 = .ok (.iload_n 3, 1) := by decide +kernel
theorem dX12_guests_87 : decode cX12_guests 87 = .ok (.iload 4, 2) := by decide +kernel
theorem dX12_guests_89 : decode cX12_guests 89 = .ok (.if_icmp .ne 13, 3) := by decide +kernel
theorem dX12_guests_92 : decode cX12_guests 92 = .ok (.aload_n 0, 1) := by decide +kernel
theorem dX12_guests_93 : decode cX12_guests 93 = .ok (.getfield 82, 3) := by decide +kernel
theorem dX12_guests_96 : decode cX12_guests 96 = .ok (.iload_n 3, 1) := by decide +kernel
theorem dX12_guests_97 : decode cX12_guests 97 = .ok (.iaload, 1) := by decide +kernel
theorem dX12_guests_98 : decode cX12_guests 98 = .ok (.iconst 1, 1) := by decide +kernel
theorem dX12_guests_99 : decode cX12_guests 99 = .ok (.if_icmp .le 7, 3) := by decide +kernel
theorem dX12_guests_102 : decode cX12_guests 102 = .ok (.iconst 1, 1) := by decide +kernel
theorem dX12_guests_103 : decode cX12_guests 103 = .ok (.goto 4, 3) := by decide +kernel
theorem dX12_guests_106 : decode cX12_guests 106 = .ok (.iconst 0, 1) := by decide +kernel
theorem dX12_guests_107 : decode cX12_guests 107 = .ok (.istore 5, 2) := by decide +kernel
theorem dX12_guests_109 : decode cX12_guests 109 = .ok (.aload_n 0, 1) := by decide +kernel
theorem dX12_guests_110 : decode cX12_guests 110 = .ok (.getfield 124, 3) := by decide +kernel
theorem dX12_guests_113 : decode cX12_guests 113 = .ok (.bipush 6, 2) := by decide +kernel
theorem dX12_guests_115 : decode cX12_guests 115 = .ok (.iload_n 3, 1) := by decide +kernel
theorem dX12_guests_116 : decode cX12_guests 116 = .ok (.imul, 1) := by decide +kernel
theorem dX12_guests_117 : decode cX12_guests 117 = .ok (.iload 4, 2) := by decide +kernel
theorem dX12_guests_119 : decode cX12_guests 119 = .ok (.iadd, 1) := by decide +kernel
theorem dX12_guests_120 : decode cX12_guests 120 = .ok (.iload 5, 2) := by decide +kernel
theorem dX12_guests_122 : decode cX12_guests 122 = .ok (.ifCond .eq 43, 3) := by decide +kernel
theorem dX12_guests_125 : decode cX12_guests 125 = .ok (.aload_n 0, 1) := by decide +kernel
theorem dX12_guests_126 : decode cX12_guests 126 = .ok (.iload_n 1, 1) := by decide +kernel
theorem dX12_guests_127 : decode cX12_guests 127 = .ok (.invokevirtual 445, 3) := by decide +kernel
theorem dX12_guests_130 : decode cX12_guests 130 = .ok (.iconst 1, 1) := by decide +kernel
theorem dX12_guests_131 : decode cX12_guests 131 = .ok (.if_icmp .ne 7, 3) := by decide +kernel
theorem dX12_guests_134 : decode cX12_guests 134 = .ok (.iconst 1, 1) := by decide +kernel
theorem dX12_guests_135 : decode cX12_guests 135 = .ok (.goto 4, 3) := by decide +kernel
theorem dX12_guests_138 : decode cX12_guests 138 = .ok (.iconst 0, 1) := by decide +kernel
theorem dX12_guests_139 : decode cX12_guests 139 = .ok (.invokestatic 329, 3) := by decide +kernel
theorem dX12_guests_142 : decode cX12_guests 142 = .ok (.iconst 2, 1) := by decide +kernel
theorem dX12_guests_143 : decode cX12_guests 143 = .ok (.aload_n 0, 1) := by decide +kernel
theorem dX12_guests_144 : decode cX12_guests 144 = .ok (.iload_n 2, 1) := by decide +kernel
theorem dX12_guests_145 : decode cX12_guests 145 = .ok (.invokevirtual 445, 3) := by decide +kernel
theorem dX12_guests_148 : decode cX12_guests 148 = .ok (.iconst 1, 1) := by decide +kernel
theorem dX12_guests_149 : decode cX12_guests 149 = .ok (.if_icmp .ne 7, 3) := by decide +kernel
theorem dX12_guests_152 : decode cX12_guests 152 = .ok (.iconst 1, 1) := by decide +kernel
theorem dX12_guests_153 : decode cX12_guests 153 = .ok (.goto 4, 3) := by decide +kernel
theorem dX12_guests_156 : decode cX12_guests 156 = .ok (.iconst 0, 1) := by decide +kernel
theorem dX12_guests_157 : decode cX12_guests 157 = .ok (.invokestatic 329, 3) := by decide +kernel
theorem dX12_guests_160 : decode cX12_guests 160 = .ok (.imul, 1) := by decide +kernel
theorem dX12_guests_161 : decode cX12_guests 161 = .ok (.iadd, 1) := by decide +kernel
theorem dX12_guests_162 : decode cX12_guests 162 = .ok (.goto 4, 3) := by decide +kernel
theorem dX12_guests_165 : decode cX12_guests 165 = .ok (.iconst 0, 1) := by decide +kernel
theorem dX12_guests_166 : decode cX12_guests 166 = .ok (.iastore, 1) := by decide +kernel
theorem dX12_guests_167 : decode cX12_guests 167 = .ok (.iinc 4 1, 3) := by decide +kernel
theorem dX12_guests_170 : decode cX12_guests 170 = .ok (.goto (-114), 3) := by decide +kernel
theorem dX12_guests_173 : decode cX12_guests 173 = .ok (.iinc 3 1, 3) := by decide +kernel
theorem dX12_guests_176 : decode cX12_guests 176 = .ok (.goto (-131), 3) := by decide +kernel
theorem dX12_guests_179 : decode cX12_guests 179 = .ok (.iconst 0, 1) := by decide +kernel
theorem dX12_guests_180 : decode cX12_guests 180 = .ok (.istore_n 3, 1) := by decide +kernel
theorem dX12_guests_181 : decode cX12_guests 181 = .ok (.iconst 0, 1) := by decide +kernel
theorem dX12_guests_182 : decode cX12_guests 182 = .ok (.istore 4, 2) := by decide +kernel
theorem dX12_guests_184 : decode cX12_guests 184 = .ok (.iload 4, 2) := by decide +kernel
theorem dX12_guests_186 : decode cX12_guests 186 = .ok (.aload_n 0, 1) := by decide +kernel
theorem dX12_guests_187 : decode cX12_guests 187 = .ok (.getfield 392, 3) := by decide +kernel
theorem dX12_guests_190 : decode cX12_guests 190 = .ok (.if_icmp .ge 71, 3) := by decide +kernel
theorem dX12_guests_193 : decode cX12_guests 193 = .ok (.iconst 0, 1) := by decide +kernel
theorem dX12_guests_194 : decode cX12_guests 194 = .ok (.istore 5, 2) := by decide +kernel
theorem dX12_guests_196 : decode cX12_guests 196 = .ok (.iload 5, 2) := by decide +kernel
theorem dX12_guests_198 : decode cX12_guests 198 = .ok (.aload_n 0, 1) := by decide +kernel
theorem dX12_guests_199 : decode cX12_guests 199 = .ok (.getfield 392, 3) := by decide +kernel
theorem dX12_guests_202 : decode cX12_guests 202 = .ok (.if_icmp .ge 53, 3) := by decide +kernel
theorem dX12_guests_205 : decode cX12_guests 205 = .ok (.aload_n 0, 1) := by decide +kernel
theorem dX12_guests_206 : decode cX12_guests 206 = .ok (.iload_n 1, 1) := by decide +kernel
theorem dX12_guests_207 : decode cX12_guests 207 = .ok (.iload_n 2, 1) := by decide +kernel
theorem dX12_guests_208 : decode cX12_guests 208 = .ok (.iload 4, 2) := by decide +kernel
theorem dX12_guests_210 : decode cX12_guests 210 = .ok (.iload 5, 2) := by decide +kernel
theorem dX12_guests_212 : decode cX12_guests 212 = .ok (.invokevirtual 514, 3) := by decide +kernel
theorem dX12_guests_215 : decode cX12_guests 215 = .ok (.ifCond .ne 6, 3) := by decide +kernel
theorem dX12_guests_218 : decode cX12_guests 218 = .ok (.goto 31, 3) := by decide +kernel
theorem dX12_guests_221 : decode cX12_guests 221 = .ok (.iload_n 3, 1) := by decide +kernel
theorem dX12_guests_222 : decode cX12_guests 222 = .ok (.ifCond .ne 24, 3) := by decide +kernel
theorem dX12_guests_225 : decode cX12_guests 225 = .ok (.aload_n 0, 1) := by decide +kernel
theorem dX12_guests_226 : decode cX12_guests 226 = .ok (.getfield 121, 3) := by decide +kernel
theorem dX12_guests_229 : decode cX12_guests 229 = .ok (.iconst 0, 1) := by decide +kernel
theorem dX12_guests_230 : decode cX12_guests 230 = .ok (.iload 4, 2) := by decide +kernel
theorem dX12_guests_232 : decode cX12_guests 232 = .ok (.iastore, 1) := by decide +kernel
theorem dX12_guests_233 : decode cX12_guests 233 = .ok (.aload_n 0, 1) := by decide +kernel
theorem dX12_guests_234 : decode cX12_guests 234 = .ok (.getfield 121, 3) := by decide +kernel
theorem dX12_guests_237 : decode cX12_guests 237 = .ok (.iconst 1, 1) := by decide +kernel
theorem dX12_guests_238 : decode cX12_guests 238 = .ok (.iload 5, 2) := by decide +kernel
theorem dX12_guests_240 : decode cX12_guests 240 = .ok (.iastore, 1) := by decide +kernel
theorem dX12_guests_241 : decode cX12_guests 241 = .ok (.aload_n 0, 1) := by decide +kernel
theorem dX12_guests_242 : decode cX12_guests 242 = .ok (.iconst 2, 1) := by decide +kernel
theorem dX12_guests_243 : decode cX12_guests 243 = .ok (.putfield 419, 3) := by decide +kernel
theorem dX12_guests_246 : decode cX12_guests 246 = .ok (.iinc 3 1, 3) := by decide +kernel
theorem dX12_guests_249 : decode cX12_guests 249 = .ok (.iinc 5 1, 3) := by decide +kernel
theorem dX12_guests_252 : decode cX12_guests 252 = .ok (.goto (-56), 3) := by decide +kernel
theorem dX12_guests_255 : decode cX12_guests 255 = .ok (.iinc 4 1, 3) := by decide +kernel
theorem dX12_guests_258 : decode cX12_guests 258 = .ok (.goto (-74), 3) := by decide +kernel
theorem dX12_guests_261 : decode cX12_guests 261 = .ok (.iload_n 3, 1) := by decide +kernel
theorem dX12_guests_262 : decode cX12_guests 262 = .ok (.ireturn, 1) := by decide +kernel
theorem dX12_layCould_0 : decode cX12_layCould 0 = .ok (.aload_n 0, 1) := by decide +kernel
theorem dX12_layCould_1 : decode cX12_layCould 1 = .ok (.invokevirtual 451, 3) := by decide +kernel
theorem dX12_layCould_4 : decode cX12_layCould 4 = .ok (.iconst 0, 1) := by decide +kernel
theorem dX12_layCould_5 : decode cX12_layCould 5 = .ok (.istore_n 1, 1) := by decide +kernel
theorem dX12_layCould_6 : decode cX12_layCould 6 = .ok (.iload_n 1, 1) := by decide +kernel
theorem dX12_layCould_7 : decode cX12_layCould 7 = .ok (.aload_n 0, 1) := by decide +kernel
theorem dX12_layCould_8 : decode cX12_layCould 8 = .ok (.getfield 395, 3) := by decide +kernel
theorem dX12_layCould_11 : decode cX12_layCould 11 = .ok (.if_icmp .ge 52, 3) := by decide +kernel
theorem dX12_layCould_14 : decode cX12_layCould 14 = .ok (.aload_n 0, 1) := by decide +kernel
theorem dX12_layCould_15 : decode cX12_layCould 15 = .ok (.getfield 127, 3) := by decide +kernel
theorem dX12_layCould_18 : decode cX12_layCould 18 = .ok (.iload_n 1, 1) := by decide +kernel
theorem dX12_layCould_19 : decode cX12_layCould 19 = .ok (.iconst 0, 1) := by decide +kernel
theorem dX12_layCould_20 : decode cX12_layCould 20 = .ok (.iastore, 1) := by decide +kernel
theorem dX12_layCould_21 : decode cX12_layCould 21 = .ok (.iconst 0, 1) := by decide +kernel
theorem dX12_layCould_22 : decode cX12_layCould 22 = .ok (.istore_n 2, 1) := by decide +kernel
theorem dX12_layCould_23 : decode cX12_layCould 23 = .ok (.iload_n 2, 1) := by decide +kernel
theorem dX12_layCould_24 : decode cX12_layCould 24 = .ok (.aload_n 0, 1) := by decide +kernel
theorem dX12_layCould_25 : decode cX12_layCould 25 = .ok (.getfield 392, 3) := by decide +kernel
theorem dX12_layCould_28 : decode cX12_layCould 28 = .ok (.if_icmp .ge 29, 3) := by decide +kernel
theorem dX12_layCould_31 : decode cX12_layCould 31 = .ok (.aload_n 0, 1) := by decide +kernel
theorem dX12_layCould_32 : decode cX12_layCould 32 = .ok (.getfield 127, 3) := by decide +kernel
theorem dX12_layCould_35 : decode cX12_layCould 35 = .ok (.iload_n 1, 1) := by decide +kernel
theorem dX12_layCould_36 : decode cX12_layCould 36 = .ok (.dup2, 1) := by decide +kernel
theorem dX12_layCould_37 : decode cX12_layCould 37 = .ok (.iaload, 1) := by decide +kernel
theorem dX12_layCould_38 : decode cX12_layCould 38 = .ok (.aload_n 0, 1) := by decide +kernel
theorem dX12_layCould_39 : decode cX12_layCould 39 = .ok (.iload_n 1, 1) := by decide +kernel
theorem dX12_layCould_40 : decode cX12_layCould 40 = .ok (.iload_n 2, 1) := by decide +kernel
theorem dX12_layCould_41 : decode cX12_layCould 41 = .ok (.invokevirtual 503, 3) := by decide +kernel
theorem dX12_layCould_44 : decode cX12_layCould 44 = .ok (.invokestatic 329, 3) := by decide +kernel
theorem dX12_layCould_47 : decode cX12_layCould 47 = .ok (.iload_n 2, 1) := by decide +kernel
theorem dX12_layCould_48 : decode cX12_layCould 48 = .ok (.ishl, 1) := by decide +kernel
theorem dX12_layCould_49 : decode cX12_layCould 49 = .ok (.ior, 1) := by decide +kernel
theorem dX12_layCould_50 : decode cX12_layCould 50 = .ok (.iastore, 1) := by decide +kernel
theorem dX12_layCould_51 : decode cX12_layCould 51 = .ok (.iinc 2 1, 3) := by decide +kernel
theorem dX12_layCould_54 : decode cX12_layCould 54 = .ok (.goto (-31), 3) := by decide +kernel
theorem dX12_layCould_57 : decode cX12_layCould 57 = .ok (.iinc 1 1, 3) := by decide +kernel
theorem dX12_layCould_60 : decode cX12_layCould 60 = .ok (.goto (-54), 3) := by decide +kernel
theorem dX12_layCould_63 : decode cX12_layCould 63 = .ok (.return_, 1) := by decide +kernel
theorem dX12_cover_0 : decode cX12_cover 0 = .ok (.iload_n 1, 1) := by decide +kernel
theorem dX12_cover_1 : decode cX12_cover 1 = .ok (.iconst 0, 1) := by decide +kernel
theorem dX12_cover_2 : decode cX12_cover 2 = .ok (.iconst 1, 1) := by decide +kernel
theorem dX12_cover_3 : decode cX12_cover 3 = .ok (.invokestatic 422, 3) := by decide +kernel
theorem dX12_cover_6 : decode cX12_cover 6 = .ok (.ifCond .ne 5, 3) := by decide +kernel
theorem dX12_cover_9 : decode cX12_cover 9 = .ok (.iconst (-1), 1) := by decide +kernel
theorem dX12_cover_10 : decode cX12_cover 10 = .ok (.ireturn, 1) := by decide +kernel
theorem dX12_cover_11 : decode cX12_cover 11 = .ok (.aload_n 0, 1) := by decide +kernel
theorem dX12_cover_12 : decode cX12_cover 12 = .ok (.invokevirtual 518, 3) := by decide +kernel
theorem dX12_cover_15 : decode cX12_cover 15 = .ok (.iconst 1, 1) := by decide +kernel
theorem dX12_cover_16 : decode cX12_cover 16 = .ok (.aload_n 0, 1) := by decide +kernel
theorem dX12_cover_17 : decode cX12_cover 17 = .ok (.getfield 392, 3) := by decide +kernel
theorem dX12_cover_20 : decode cX12_cover 20 = .ok (.ishl, 1) := by decide +kernel
theorem dX12_cover_21 : decode cX12_cover 21 = .ok (.iconst 1, 1) := by decide +kernel
theorem dX12_cover_22 : decode cX12_cover 22 = .ok (.isub, 1) := by decide +kernel
theorem dX12_cover_23 : decode cX12_cover 23 = .ok (.istore_n 2, 1) := by decide +kernel
theorem dX12_cover_24 : decode cX12_cover 24 = .ok (.iload_n 2, 1) := by decide +kernel
theorem dX12_cover_25 : decode cX12_cover 25 = .ok (.istore_n 3, 1) := by decide +kernel
theorem dX12_cover_26 : decode cX12_cover 26 = .ok (.iload_n 3, 1) := by decide +kernel
theorem dX12_cover_27 : decode cX12_cover 27 = .ok (.ifCond .lt 86, 3) := by decide +kernel
theorem dX12_cover_30 : decode cX12_cover 30 = .ok (.iload_n 3, 1) := by decide +kernel
theorem dX12_cover_31 : decode cX12_cover 31 = .ok (.invokestatic 433, 3) := by decide +kernel
theorem dX12_cover_34 : decode cX12_cover 34 = .ok (.iload_n 2, 1) := by decide +kernel
theorem dX12_cover_35 : decode cX12_cover 35 = .ok (.invokestatic 433, 3) := by decide +kernel
theorem dX12_cover_38 : decode cX12_cover 38 = .ok (.if_icmp .gt 7, 3) := by decide +kernel
theorem dX12_cover_41 : decode cX12_cover 41 = .ok (.iconst 1, 1) := by decide +kernel
theorem dX12_cover_42 : decode cX12_cover 42 = .ok (.goto 4, 3) := by decide +kernel
theorem dX12_cover_45 : decode cX12_cover 45 = .ok (.iconst 0, 1) := by decide +kernel
theorem dX12_cover_46 : decode cX12_cover 46 = .ok (.istore 4, 2) := by decide +kernel
theorem dX12_cover_48 : decode cX12_cover 48 = .ok (.iconst 0, 1) := by decide +kernel
theorem dX12_cover_49 : decode cX12_cover 49 = .ok (.istore 5, 2) := by decide +kernel
theorem dX12_cover_51 : decode cX12_cover 51 = .ok (.iload 5, 2) := by decide +kernel
theorem dX12_cover_53 : decode cX12_cover 53 = .ok (.aload_n 0, 1) := by decide +kernel
theorem dX12_cover_54 : decode cX12_cover 54 = .ok (.getfield 395, 3) := by decide +kernel
theorem dX12_cover_57 : decode cX12_cover 57 = .ok (.if_icmp .ge 43, 3) := by decide +kernel
theorem dX12_cover_60 : decode cX12_cover 60 = .ok (.iload 4, 2) := by decide +kernel
theorem dX12_cover_62 : decode cX12_cover 62 = .ok (.ifCond .eq 29, 3) := by decide +kernel
theorem dX12_cover_65 : decode cX12_cover 65 = .ok (.aload_n 0, 1) := by decide +kernel
theorem dX12_cover_66 : decode cX12_cover 66 = .ok (.getfield 127, 3) := by decide +kernel
theorem dX12_cover_69 : decode cX12_cover 69 = .ok (.iload 5, 2) := by decide +kernel
theorem dX12_cover_71 : decode cX12_cover 71 = .ok (.iaload, 1) := by decide +kernel
theorem dX12_cover_72 : decode cX12_cover 72 = .ok (.ifCond .eq 15, 3) := by decide +kernel
theorem dX12_cover_75 : decode cX12_cover 75 = .ok (.aload_n 0, 1) := by decide +kernel
theorem dX12_cover_76 : decode cX12_cover 76 = .ok (.getfield 127, 3) := by decide +kernel
theorem dX12_cover_79 : decode cX12_cover 79 = .ok (.iload 5, 2) := by decide +kernel
theorem dX12_cover_81 : decode cX12_cover 81 = .ok (.iaload, 1) := by decide +kernel
theorem dX12_cover_82 : decode cX12_cover 82 = .ok (.iload_n 3, 1) := by decide +kernel
theorem dX12_cover_83 : decode cX12_cover 83 = .ok (.iand, 1) := by decide +kernel
theorem dX12_cover_84 : decode cX12_cover 84 = .ok (.ifCond .eq 7, 3) := by decide +kernel
theorem dX12_cover_87 : decode cX12_cover 87 = .ok (.iconst 1, 1) := by decide +kernel
theorem dX12_cover_88 : decode cX12_cover 88 = .ok (.goto 4, 3) := by decide +kernel
theorem dX12_cover_91 : decode cX12_cover 91 = .ok (.iconst 0, 1) := by decide +kernel
theorem dX12_cover_92 : decode cX12_cover 92 = .ok (.istore 4, 2) := by decide +kernel
theorem dX12_cover_94 : decode cX12_cover 94 = .ok (.iinc 5 1, 3) := by decide +kernel
theorem dX12_cover_97 : decode cX12_cover 97 = .ok (.goto (-46), 3) := by decide +kernel
theorem dX12_cover_100 : decode cX12_cover 100 = .ok (.iload 4, 2) := by decide +kernel
theorem dX12_cover_102 : decode cX12_cover 102 = .ok (.ifCond .eq 5, 3) := by decide +kernel
theorem dX12_cover_105 : decode cX12_cover 105 = .ok (.iload_n 3, 1) := by decide +kernel
theorem dX12_cover_106 : decode cX12_cover 106 = .ok (.istore_n 2, 1) := by decide +kernel
theorem dX12_cover_107 : decode cX12_cover 107 = .ok (.iinc 3 (-1), 3) := by decide +kernel
theorem dX12_cover_110 : decode cX12_cover 110 = .ok (.goto (-84), 3) := by decide +kernel
theorem dX12_cover_113 : decode cX12_cover 113 = .ok (.iload_n 1, 1) := by decide +kernel
theorem dX12_cover_114 : decode cX12_cover 114 = .ok (.ifCond .ne 10, 3) := by decide +kernel
theorem dX12_cover_117 : decode cX12_cover 117 = .ok (.iload_n 2, 1) := by decide +kernel
theorem dX12_cover_118 : decode cX12_cover 118 = .ok (.invokestatic 433, 3) := by decide +kernel
theorem dX12_cover_121 : decode cX12_cover 121 = .ok (.goto 4, 3) := by decide +kernel
theorem dX12_cover_124 : decode cX12_cover 124 = .ok (.iload_n 2, 1) := by decide +kernel
theorem dX12_cover_125 : decode cX12_cover 125 = .ok (.ireturn, 1) := by decide +kernel
theorem dX12_pilgrim_0 : decode cX12_pilgrim 0 = .ok (.aload_n 0, 1) := by decide +kernel
theorem dX12_pilgrim_1 : decode cX12_pilgrim 1 = .ok (.iload_n 1, 1) := by decide +kernel
theorem dX12_pilgrim_2 : decode cX12_pilgrim 2 = .ok (.invokevirtual 454, 3) := by decide +kernel
theorem dX12_pilgrim_5 : decode cX12_pilgrim 5 = .ok (.ifCond .ne 5, 3) := by decide +kernel
theorem dX12_pilgrim_8 : decode cX12_pilgrim 8 = .ok (.iconst (-1), 1) := by decide +kernel
theorem dX12_pilgrim_9 : decode cX12_pilgrim 9 = .ok (.ireturn, 1) := by decide +kernel
theorem dX12_pilgrim_10 : decode cX12_pilgrim 10 = .ok (.aload_n 0, 1) := by decide +kernel
theorem dX12_pilgrim_11 : decode cX12_pilgrim 11 = .ok (.getfield 392, 3) := by decide +kernel
theorem dX12_pilgrim_14 : decode cX12_pilgrim 14 = .ok (.ifCond .ne 5, 3) := by decide +kernel
theorem dX12_pilgrim_17 : decode cX12_pilgrim 17 = .ok (.iconst 0, 1) := by decide +kernel
theorem dX12_pilgrim_18 : decode cX12_pilgrim 18 = .ok (.ireturn, 1) := by decide +kernel
theorem dX12_pilgrim_19 : decode cX12_pilgrim 19 = .ok (.bipush 99, 2) := by decide +kernel
theorem dX12_pilgrim_21 : decode cX12_pilgrim 21 = .ok (.istore_n 2, 1) := by decide +kernel
theorem dX12_pilgrim_22 : decode cX12_pilgrim 22 = .ok (.iconst 0, 1) := by decide +kernel
theorem dX12_pilgrim_23 : decode cX12_pilgrim 23 = .ok (.istore_n 3, 1) := by decide +kernel
theorem dX12_pilgrim_24 : decode cX12_pilgrim 24 = .ok (.iconst 0, 1) := by decide +kernel
theorem dX12_pilgrim_25 : decode cX12_pilgrim 25 = .ok (.istore 4, 2) := by decide +kernel
theorem dX12_pilgrim_27 : decode cX12_pilgrim 27 = .ok (.iload 4, 2) := by decide +kernel
theorem dX12_pilgrim_29 : decode cX12_pilgrim 29 = .ok (.aload_n 0, 1) := by decide +kernel
theorem dX12_pilgrim_30 : decode cX12_pilgrim 30 = .ok (.getfield 392, 3) := by decide +kernel
theorem dX12_pilgrim_33 : decode cX12_pilgrim 33 = .ok (.if_icmp .ge 55, 3) := by decide +kernel
theorem dX12_pilgrim_36 : decode cX12_pilgrim 36 = .ok (.aload_n 0, 1) := by decide +kernel
theorem dX12_pilgrim_37 : decode cX12_pilgrim 37 = .ok (.getfield 76, 3) := by decide +kernel
theorem dX12_pilgrim_40 : decode cX12_pilgrim 40 = .ok (.iload 4, 2) := by decide +kernel
theorem dX12_pilgrim_42 : decode cX12_pilgrim 42 = .ok (.iaload, 1) := by decide +kernel
theorem dX12_pilgrim_43 : decode cX12_pilgrim 43 = .ok (.iload_n 2, 1) := by decide +kernel
theorem dX12_pilgrim_44 : decode cX12_pilgrim 44 = .ok (.if_icmp .ge 13, 3) := by decide +kernel
theorem dX12_pilgrim_47 : decode cX12_pilgrim 47 = .ok (.aload_n 0, 1) := by decide +kernel
theorem dX12_pilgrim_48 : decode cX12_pilgrim 48 = .ok (.getfield 76, 3) := by decide +kernel
theorem dX12_pilgrim_51 : decode cX12_pilgrim 51 = .ok (.iload 4, 2) := by decide +kernel
theorem dX12_pilgrim_53 : decode cX12_pilgrim 53 = .ok (.iaload, 1) := by decide +kernel
theorem dX12_pilgrim_54 : decode cX12_pilgrim 54 = .ok (.goto 4, 3) := by decide +kernel
theorem dX12_pilgrim_57 : decode cX12_pilgrim 57 = .ok (.iload_n 2, 1) := by decide +kernel
theorem dX12_pilgrim_58 : decode cX12_pilgrim 58 = .ok (.istore_n 2, 1) := by decide +kernel
theorem dX12_pilgrim_59 : decode cX12_pilgrim 59 = .ok (.aload_n 0, 1) := by decide +kernel
theorem dX12_pilgrim_60 : decode cX12_pilgrim 60 = .ok (.getfield 76, 3) := by decide +kernel
theorem dX12_pilgrim_63 : decode cX12_pilgrim 63 = .ok (.iload 4, 2) := by decide +kernel
theorem dX12_pilgrim_65 : decode cX12_pilgrim 65 = .ok (.iaload, 1) := by decide +kernel
theorem dX12_pilgrim_66 : decode cX12_pilgrim 66 = .ok (.iload_n 3, 1) := by decide +kernel
theorem dX12_pilgrim_67 : decode cX12_pilgrim 67 = .ok (.if_icmp .le 13, 3) := by decide +kernel
theorem dX12_pilgrim_70 : decode cX12_pilgrim 70 = .ok (.aload_n 0, 1) := by decide +kernel
theorem dX12_pilgrim_71 : decode cX12_pilgrim 71 = .ok (.getfield 76, 3) := by decide +kernel
theorem dX12_pilgrim_74 : decode cX12_pilgrim 74 = .ok (.iload 4, 2) := by decide +kernel
theorem dX12_pilgrim_76 : decode cX12_pilgrim 76 = .ok (.iaload, 1) := by decide +kernel
theorem dX12_pilgrim_77 : decode cX12_pilgrim 77 = .ok (.goto 4, 3) := by decide +kernel
theorem dX12_pilgrim_80 : decode cX12_pilgrim 80 = .ok (.iload_n 3, 1) := by decide +kernel
theorem dX12_pilgrim_81 : decode cX12_pilgrim 81 = .ok (.istore_n 3, 1) := by decide +kernel
theorem dX12_pilgrim_82 : decode cX12_pilgrim 82 = .ok (.iinc 4 1, 3) := by decide +kernel
theorem dX12_pilgrim_85 : decode cX12_pilgrim 85 = .ok (.goto (-58), 3) := by decide +kernel
theorem dX12_pilgrim_88 : decode cX12_pilgrim 88 = .ok (.aload_n 0, 1) := by decide +kernel
theorem dX12_pilgrim_89 : decode cX12_pilgrim 89 = .ok (.getfield 88, 3) := by decide +kernel
theorem dX12_pilgrim_92 : decode cX12_pilgrim 92 = .ok (.iload_n 1, 1) := by decide +kernel
theorem dX12_pilgrim_93 : decode cX12_pilgrim 93 = .ok (.iaload, 1) := by decide +kernel
theorem dX12_pilgrim_94 : decode cX12_pilgrim 94 = .ok (.iload_n 2, 1) := by decide +kernel
theorem dX12_pilgrim_95 : decode cX12_pilgrim 95 = .ok (.isub, 1) := by decide +kernel
theorem dX12_pilgrim_96 : decode cX12_pilgrim 96 = .ok (.invokestatic 478, 3) := by decide +kernel
theorem dX12_pilgrim_99 : decode cX12_pilgrim 99 = .ok (.istore 4, 2) := by decide +kernel
theorem dX12_pilgrim_101 : decode cX12_pilgrim 101 = .ok (.aload_n 0, 1) := by decide +kernel
theorem dX12_pilgrim_102 : decode cX12_pilgrim 102 = .ok (.getfield 88, 3) := by decide +kernel
theorem dX12_pilgrim_105 : decode cX12_pilgrim 105 = .ok (.iload_n 1, 1) := by decide +kernel
theorem dX12_pilgrim_106 : decode cX12_pilgrim 106 = .ok (.iaload, 1) := by decide +kernel
theorem dX12_pilgrim_107 : decode cX12_pilgrim 107 = .ok (.iload_n 3, 1) := by decide +kernel
theorem dX12_pilgrim_108 : decode cX12_pilgrim 108 = .ok (.isub, 1) := by decide +kernel
theorem dX12_pilgrim_109 : decode cX12_pilgrim 109 = .ok (.invokestatic 478, 3) := by decide +kernel
theorem dX12_pilgrim_112 : decode cX12_pilgrim 112 = .ok (.istore 5, 2) := by decide +kernel
theorem dX12_pilgrim_114 : decode cX12_pilgrim 114 = .ok (.iload_n 3, 1) := by decide +kernel
theorem dX12_pilgrim_115 : decode cX12_pilgrim 115 = .ok (.iload_n 2, 1) := by decide +kernel
theorem dX12_pilgrim_116 : decode cX12_pilgrim 116 = .ok (.isub, 1) := by decide +kernel
theorem dX12_pilgrim_117 : decode cX12_pilgrim 117 = .ok (.iload 4, 2) := by decide +kernel
theorem dX12_pilgrim_119 : decode cX12_pilgrim 119 = .ok (.iload 5, 2) := by decide +kernel
theorem dX12_pilgrim_121 : decode cX12_pilgrim 121 = .ok (.if_icmp .ge 8, 3) := by decide +kernel
theorem dX12_pilgrim_124 : decode cX12_pilgrim 124 = .ok (.iload 4, 2) := by decide +kernel
theorem dX12_pilgrim_126 : decode cX12_pilgrim 126 = .ok (.goto 5, 3) := by decide +kernel
theorem dX12_pilgrim_129 : decode cX12_pilgrim 129 = .ok (.iload 5, 2) := by decide +kernel
theorem dX12_pilgrim_131 : decode cX12_pilgrim 131 = .ok (.iadd, 1) := by decide +kernel
theorem dX12_pilgrim_132 : decode cX12_pilgrim 132 = .ok (.ireturn, 1) := by decide +kernel
theorem dX12_will_0 : decode cX12_will 0 = .ok (.aload_n 0, 1) := by decide +kernel
theorem dX12_will_1 : decode cX12_will 1 = .ok (.iload_n 1, 1) := by decide +kernel
theorem dX12_will_2 : decode cX12_will 2 = .ok (.invokevirtual 454, 3) := by decide +kernel
theorem dX12_will_5 : decode cX12_will 5 = .ok (.ifCond .eq 13, 3) := by decide +kernel
theorem dX12_will_8 : decode cX12_will 8 = .ok (.iload_n 2, 1) := by decide +kernel
theorem dX12_will_9 : decode cX12_will 9 = .ok (.iconst 0, 1) := by decide +kernel
theorem dX12_will_10 : decode cX12_will 10 = .ok (.bipush 60, 2) := by decide +kernel
theorem dX12_will_12 : decode cX12_will 12 = .ok (.invokestatic 422, 3) := by decide +kernel
theorem dX12_will_15 : decode cX12_will 15 = .ok (.ifCond .ne 5, 3) := by decide +kernel
theorem dX12_will_18 : decode cX12_will 18 = .ok (.iconst (-1), 1) := by decide +kernel
theorem dX12_will_19 : decode cX12_will 19 = .ok (.ireturn, 1) := by decide +kernel
theorem dX12_will_20 : decode cX12_will 20 = .ok (.aload_n 0, 1) := by decide +kernel
theorem dX12_will_21 : decode cX12_will 21 = .ok (.invokevirtual 451, 3) := by decide +kernel
theorem dX12_will_24 : decode cX12_will 24 = .ok (.iconst 0, 1) := by decide +kernel
theorem dX12_will_25 : decode cX12_will 25 = .ok (.istore_n 3, 1) := by decide +kernel
theorem dX12_will_26 : decode cX12_will 26 = .ok (.iload_n 3, 1) := by decide +kernel
theorem dX12_will_27 : decode cX12_will 27 = .ok (.iload_n 2, 1) := by decide +kernel
theorem dX12_will_28 : decode cX12_will 28 = .ok (.if_icmp .ge 17, 3) := by decide +kernel
theorem dX12_will_31 : decode cX12_will 31 = .ok (.aload_n 0, 1) := by decide +kernel
theorem dX12_will_32 : decode cX12_will 32 = .ok (.aload_n 0, 1) := by decide +kernel
theorem dX12_will_33 : decode cX12_will 33 = .ok (.invokevirtual 466, 3) := by decide +kernel
theorem dX12_will_36 : decode cX12_will 36 = .ok (.invokevirtual 469, 3) := by decide +kernel
theorem dX12_will_39 : decode cX12_will 39 = .ok (.iinc 3 1, 3) := by decide +kernel
theorem dX12_will_42 : decode cX12_will 42 = .ok (.goto (-16), 3) := by decide +kernel
theorem dX12_will_45 : decode cX12_will 45 = .ok (.aload_n 0, 1) := by decide +kernel
theorem dX12_will_46 : decode cX12_will 46 = .ok (.getfield 106, 3) := by decide +kernel
theorem dX12_will_49 : decode cX12_will 49 = .ok (.bipush 10, 2) := by decide +kernel
theorem dX12_will_51 : decode cX12_will 51 = .ok (.iload_n 1, 1) := by decide +kernel
theorem dX12_will_52 : decode cX12_will 52 = .ok (.iadd, 1) := by decide +kernel
theorem dX12_will_53 : decode cX12_will 53 = .ok (.iaload, 1) := by decide +kernel
theorem dX12_will_54 : decode cX12_will 54 = .ok (.ireturn, 1) := by decide +kernel
theorem dX12_strength_0 : decode cX12_strength 0 = .ok (.aload_n 0, 1) := by decide +kernel
theorem dX12_strength_1 : decode cX12_strength 1 = .ok (.iload_n 1, 1) := by decide +kernel
theorem dX12_strength_2 : decode cX12_strength 2 = .ok (.invokevirtual 454, 3) := by decide +kernel
theorem dX12_strength_5 : decode cX12_strength 5 = .ok (.ifCond .eq 13, 3) := by decide +kernel
theorem dX12_strength_8 : decode cX12_strength 8 = .ok (.iload_n 2, 1) := by decide +kernel
theorem dX12_strength_9 : decode cX12_strength 9 = .ok (.iconst 0, 1) := by decide +kernel
theorem dX12_strength_10 : decode cX12_strength 10 = .ok (.bipush 60, 2) := by decide +kernel
theorem dX12_strength_12 : decode cX12_strength 12 = .ok (.invokestatic 422, 3) := by decide +kernel
theorem dX12_strength_15 : decode cX12_strength 15 = .ok (.ifCond .ne 5, 3) := by decide +kernel
theorem dX12_strength_18 : decode cX12_strength 18 = .ok (.iconst (-1), 1) := by decide +kernel
theorem dX12_strength_19 : decode cX12_strength 19 = .ok (.ireturn, 1) := by decide +kernel
theorem dX12_strength_20 : decode cX12_strength 20 = .ok (.aload_n 0, 1) := by decide +kernel
theorem dX12_strength_21 : decode cX12_strength 21 = .ok (.invokevirtual 451, 3) := by decide +kernel
theorem dX12_strength_24 : decode cX12_strength 24 = .ok (.iconst 0, 1) := by decide +kernel
theorem dX12_strength_25 : decode cX12_strength 25 = .ok (.istore_n 3, 1) := by decide +kernel
theorem dX12_strength_26 : decode cX12_strength 26 = .ok (.iload_n 3, 1) := by decide +kernel
theorem dX12_strength_27 : decode cX12_strength 27 = .ok (.iload_n 2, 1) := by decide +kernel
theorem dX12_strength_28 : decode cX12_strength 28 = .ok (.if_icmp .ge 14, 3) := by decide +kernel
theorem dX12_strength_31 : decode cX12_strength 31 = .ok (.aload_n 0, 1) := by decide +kernel
theorem dX12_strength_32 : decode cX12_strength 32 = .ok (.iconst 0, 1) := by decide +kernel
theorem dX12_strength_33 : decode cX12_strength 33 = .ok (.invokevirtual 469, 3) := by decide +kernel
theorem dX12_strength_36 : decode cX12_strength 36 = .ok (.iinc 3 1, 3) := by decide +kernel
theorem dX12_strength_39 : decode cX12_strength 39 = .ok (.goto (-13), 3) := by decide +kernel
theorem dX12_strength_42 : decode cX12_strength 42 = .ok (.aload_n 0, 1) := by decide +kernel
theorem dX12_strength_43 : decode cX12_strength 43 = .ok (.getfield 106, 3) := by decide +kernel
theorem dX12_strength_46 : decode cX12_strength 46 = .ok (.iload_n 1, 1) := by decide +kernel
theorem dX12_strength_47 : decode cX12_strength 47 = .ok (.iaload, 1) := by decide +kernel
theorem dX12_strength_48 : decode cX12_strength 48 = .ok (.ireturn, 1) := by decide +kernel
theorem dX12_savedOnes_0 : decode cX12_savedOnes 0 = .ok (.iconst 0, 1) := by decide +kernel
theorem dX12_savedOnes_1 : decode cX12_savedOnes 1 = .ok (.istore_n 1, 1) := by decide +kernel
theorem dX12_savedOnes_2 : decode cX12_savedOnes 2 = .ok (.iconst 0, 1) := by decide +kernel
theorem dX12_savedOnes_3 : decode cX12_savedOnes 3 = .ok (.istore_n 2, 1) := by decide +kernel
theorem dX12_savedOnes_4 : decode cX12_savedOnes 4 = .ok (.iload_n 2, 1) := by decide +kernel
theorem dX12_savedOnes_5 : decode cX12_savedOnes 5 = .ok (.aload_n 0, 1) := by decide +kernel
theorem dX12_savedOnes_6 : decode cX12_savedOnes 6 = .ok (.getfield 395, 3) := by decide +kernel
theorem dX12_savedOnes_9 : decode cX12_savedOnes 9 = .ok (.if_icmp .ge 22, 3) := by decide +kernel
theorem dX12_savedOnes_12 : decode cX12_savedOnes 12 = .ok (.iload_n 1, 1) := by decide +kernel
theorem dX12_savedOnes_13 : decode cX12_savedOnes 13 = .ok (.aload_n 0, 1) := by decide +kernel
theorem dX12_savedOnes_14 : decode cX12_savedOnes 14 = .ok (.iload_n 2, 1) := by decide +kernel
theorem dX12_savedOnes_15 : decode cX12_savedOnes 15 = .ok (.invokevirtual 457, 3) := by decide +kernel
theorem dX12_savedOnes_18 : decode cX12_savedOnes 18 = .ok (.invokestatic 329, 3) := by decide +kernel
theorem dX12_savedOnes_21 : decode cX12_savedOnes 21 = .ok (.iload_n 2, 1) := by decide +kernel
theorem dX12_savedOnes_22 : decode cX12_savedOnes 22 = .ok (.ishl, 1) := by decide +kernel
theorem dX12_savedOnes_23 : decode cX12_savedOnes 23 = .ok (.ior, 1) := by decide +kernel
theorem dX12_savedOnes_24 : decode cX12_savedOnes 24 = .ok (.istore_n 1, 1) := by decide +kernel
theorem dX12_savedOnes_25 : decode cX12_savedOnes 25 = .ok (.iinc 2 1, 3) := by decide +kernel
theorem dX12_savedOnes_28 : decode cX12_savedOnes 28 = .ok (.goto (-24), 3) := by decide +kernel
theorem dX12_savedOnes_31 : decode cX12_savedOnes 31 = .ok (.iload_n 1, 1) := by decide +kernel
theorem dX12_savedOnes_32 : decode cX12_savedOnes 32 = .ok (.ireturn, 1) := by decide +kernel
theorem dX12_saved_0 : decode cX12_saved 0 = .ok (.aload_n 0, 1) := by decide +kernel
theorem dX12_saved_1 : decode cX12_saved 1 = .ok (.invokevirtual 451, 3) := by decide +kernel
theorem dX12_saved_4 : decode cX12_saved 4 = .ok (.aload_n 0, 1) := by decide +kernel
theorem dX12_saved_5 : decode cX12_saved 5 = .ok (.invokevirtual 521, 3) := by decide +kernel
theorem dX12_saved_8 : decode cX12_saved 8 = .ok (.ireturn, 1) := by decide +kernel
theorem dX12_grace_0 : decode cX12_grace 0 = .ok (.aload_n 0, 1) := by decide +kernel
theorem dX12_grace_1 : decode cX12_grace 1 = .ok (.invokevirtual 451, 3) := by decide +kernel
theorem dX12_grace_4 : decode cX12_grace 4 = .ok (.iconst 0, 1) := by decide +kernel
theorem dX12_grace_5 : decode cX12_grace 5 = .ok (.istore_n 1, 1) := by decide +kernel
theorem dX12_grace_6 : decode cX12_grace 6 = .ok (.iload_n 1, 1) := by decide +kernel
theorem dX12_grace_7 : decode cX12_grace 7 = .ok (.bipush 60, 2) := by decide +kernel
theorem dX12_grace_9 : decode cX12_grace 9 = .ok (.if_icmp .gt 30, 3) := by decide +kernel
theorem dX12_grace_12 : decode cX12_grace 12 = .ok (.aload_n 0, 1) := by decide +kernel
theorem dX12_grace_13 : decode cX12_grace 13 = .ok (.invokevirtual 521, 3) := by decide +kernel
theorem dX12_grace_16 : decode cX12_grace 16 = .ok (.invokestatic 433, 3) := by decide +kernel
theorem dX12_grace_19 : decode cX12_grace 19 = .ok (.aload_n 0, 1) := by decide +kernel
theorem dX12_grace_20 : decode cX12_grace 20 = .ok (.getfield 395, 3) := by decide +kernel
theorem dX12_grace_23 : decode cX12_grace 23 = .ok (.if_icmp .ne 5, 3) := by decide +kernel
theorem dX12_grace_26 : decode cX12_grace 26 = .ok (.iload_n 1, 1) := by decide +kernel
theorem dX12_grace_27 : decode cX12_grace 27 = .ok (.ireturn, 1) := by decide +kernel
theorem dX12_grace_28 : decode cX12_grace 28 = .ok (.aload_n 0, 1) := by decide +kernel
theorem dX12_grace_29 : decode cX12_grace 29 = .ok (.iconst 0, 1) := by decide +kernel
theorem dX12_grace_30 : decode cX12_grace 30 = .ok (.invokevirtual 469, 3) := by decide +kernel
theorem dX12_grace_33 : decode cX12_grace 33 = .ok (.iinc 1 1, 3) := by decide +kernel
theorem dX12_grace_36 : decode cX12_grace 36 = .ok (.goto (-30), 3) := by decide +kernel
theorem dX12_grace_39 : decode cX12_grace 39 = .ok (.iconst (-1), 1) := by decide +kernel
theorem dX12_grace_40 : decode cX12_grace 40 = .ok (.ireturn, 1) := by decide +kernel
theorem dX12_easiest_0 : decode cX12_easiest 0 = .ok (.aload_n 0, 1) := by decide +kernel
theorem dX12_easiest_1 : decode cX12_easiest 1 = .ok (.iload_n 1, 1) := by decide +kernel
theorem dX12_easiest_2 : decode cX12_easiest 2 = .ok (.invokevirtual 454, 3) := by decide +kernel
theorem dX12_easiest_5 : decode cX12_easiest 5 = .ok (.ifCond .ne 5, 3) := by decide +kernel
theorem dX12_easiest_8 : decode cX12_easiest 8 = .ok (.iconst (-1), 1) := by decide +kernel
theorem dX12_easiest_9 : decode cX12_easiest 9 = .ok (.ireturn, 1) := by decide +kernel
theorem dX12_easiest_10 : decode cX12_easiest 10 = .ok (.aload_n 0, 1) := by decide +kernel
theorem dX12_easiest_11 : decode cX12_easiest 11 = .ok (.invokevirtual 451, 3) := by decide +kernel
theorem dX12_easiest_14 : decode cX12_easiest 14 = .ok (.iconst (-1), 1) := by decide +kernel
theorem dX12_easiest_15 : decode cX12_easiest 15 = .ok (.istore_n 2, 1) := by decide +kernel
theorem dX12_easiest_16 : decode cX12_easiest 16 = .ok (.iconst 0, 1) := by decide +kernel
theorem dX12_easiest_17 : decode cX12_easiest 17 = .ok (.istore_n 3, 1) := by decide +kernel
theorem dX12_easiest_18 : decode cX12_easiest 18 = .ok (.iload_n 3, 1) := by decide +kernel
theorem dX12_easiest_19 : decode cX12_easiest 19 = .ok (.aload_n 0, 1) := by decide +kernel
theorem dX12_easiest_20 : decode cX12_easiest 20 = .ok (.getfield 392, 3) := by decide +kernel
theorem dX12_easiest_23 : decode cX12_easiest 23 = .ok (.if_icmp .ge 41, 3) := by decide +kernel
theorem dX12_easiest_26 : decode cX12_easiest 26 = .ok (.aload_n 0, 1) := by decide +kernel
theorem dX12_easiest_27 : decode cX12_easiest 27 = .ok (.iload_n 1, 1) := by decide +kernel
theorem dX12_easiest_28 : decode cX12_easiest 28 = .ok (.iload_n 3, 1) := by decide +kernel
theorem dX12_easiest_29 : decode cX12_easiest 29 = .ok (.invokevirtual 503, 3) := by decide +kernel
theorem dX12_easiest_32 : decode cX12_easiest 32 = .ok (.ifCond .eq 26, 3) := by decide +kernel
theorem dX12_easiest_35 : decode cX12_easiest 35 = .ok (.iload_n 2, 1) := by decide +kernel
theorem dX12_easiest_36 : decode cX12_easiest 36 = .ok (.ifCond .lt 20, 3) := by decide +kernel
theorem dX12_easiest_39 : decode cX12_easiest 39 = .ok (.aload_n 0, 1) := by decide +kernel
theorem dX12_easiest_40 : decode cX12_easiest 40 = .ok (.iload_n 1, 1) := by decide +kernel
theorem dX12_easiest_41 : decode cX12_easiest 41 = .ok (.iload_n 3, 1) := by decide +kernel
theorem dX12_easiest_42 : decode cX12_easiest 42 = .ok (.iconst 1, 1) := by decide +kernel
theorem dX12_easiest_43 : decode cX12_easiest 43 = .ok (.invokevirtual 436, 3) := by decide +kernel
theorem dX12_easiest_46 : decode cX12_easiest 46 = .ok (.aload_n 0, 1) := by decide +kernel
theorem dX12_easiest_47 : decode cX12_easiest 47 = .ok (.iload_n 1, 1) := by decide +kernel
theorem dX12_easiest_48 : decode cX12_easiest 48 = .ok (.iload_n 2, 1) := by decide +kernel
theorem dX12_easiest_49 : decode cX12_easiest 49 = .ok (.iconst 1, 1) := by decide +kernel
theorem dX12_easiest_50 : decode cX12_easiest 50 = .ok (.invokevirtual 436, 3) := by decide +kernel
theorem dX12_easiest_53 : decode cX12_easiest 53 = .ok (.if_icmp .ge 5, 3) := by decide +kernel
theorem dX12_easiest_56 : decode cX12_easiest 56 = .ok (.iload_n 3, 1) := by decide +kernel
theorem dX12_easiest_57 : decode cX12_easiest 57 = .ok (.istore_n 2, 1) := by decide +kernel
theorem dX12_easiest_58 : decode cX12_easiest 58 = .ok (.iinc 3 1, 3) := by decide +kernel
theorem dX12_easiest_61 : decode cX12_easiest 61 = .ok (.goto (-43), 3) := by decide +kernel
theorem dX12_easiest_64 : decode cX12_easiest 64 = .ok (.iload_n 2, 1) := by decide +kernel
theorem dX12_easiest_65 : decode cX12_easiest 65 = .ok (.ireturn, 1) := by decide +kernel
theorem dX12_forlorn_0 : decode cX12_forlorn 0 = .ok (.aload_n 0, 1) := by decide +kernel
theorem dX12_forlorn_1 : decode cX12_forlorn 1 = .ok (.invokevirtual 518, 3) := by decide +kernel
theorem dX12_forlorn_4 : decode cX12_forlorn 4 = .ok (.iconst 1, 1) := by decide +kernel
theorem dX12_forlorn_5 : decode cX12_forlorn 5 = .ok (.aload_n 0, 1) := by decide +kernel
theorem dX12_forlorn_6 : decode cX12_forlorn 6 = .ok (.getfield 392, 3) := by decide +kernel
theorem dX12_forlorn_9 : decode cX12_forlorn 9 = .ok (.ishl, 1) := by decide +kernel
theorem dX12_forlorn_10 : decode cX12_forlorn 10 = .ok (.iconst 1, 1) := by decide +kernel
theorem dX12_forlorn_11 : decode cX12_forlorn 11 = .ok (.isub, 1) := by decide +kernel
theorem dX12_forlorn_12 : decode cX12_forlorn 12 = .ok (.istore_n 1, 1) := by decide +kernel
theorem dX12_forlorn_13 : decode cX12_forlorn 13 = .ok (.iconst 0, 1) := by decide +kernel
theorem dX12_forlorn_14 : decode cX12_forlorn 14 = .ok (.istore_n 2, 1) := by decide +kernel
theorem dX12_forlorn_15 : decode cX12_forlorn 15 = .ok (.iload_n 2, 1) := by decide +kernel
theorem dX12_forlorn_16 : decode cX12_forlorn 16 = .ok (.aload_n 0, 1) := by decide +kernel
theorem dX12_forlorn_17 : decode cX12_forlorn 17 = .ok (.getfield 395, 3) := by decide +kernel
theorem dX12_forlorn_20 : decode cX12_forlorn 20 = .ok (.if_icmp .ge 20, 3) := by decide +kernel
theorem dX12_forlorn_23 : decode cX12_forlorn 23 = .ok (.iload_n 1, 1) := by decide +kernel
theorem dX12_forlorn_24 : decode cX12_forlorn 24 = .ok (.aload_n 0, 1) := by decide +kernel
theorem dX12_forlorn_25 : decode cX12_forlorn 25 = .ok (.getfield 127, 3) := by decide +kernel
theorem dX12_forlorn_28 : decode cX12_forlorn 28 = .ok (.iload_n 2, 1) := by decide +kernel
theorem dX12_forlorn_29 : decode cX12_forlorn 29 = .ok (.iaload, 1) := by decide +kernel
theorem dX12_forlorn_30 : decode cX12_forlorn 30 = .ok (.iconst (-1), 1) := by decide +kernel
theorem dX12_forlorn_31 : decode cX12_forlorn 31 = .ok (.ixor, 1) := by decide +kernel
theorem dX12_forlorn_32 : decode cX12_forlorn 32 = .ok (.iand, 1) := by decide +kernel
theorem dX12_forlorn_33 : decode cX12_forlorn 33 = .ok (.istore_n 1, 1) := by decide +kernel
theorem dX12_forlorn_34 : decode cX12_forlorn 34 = .ok (.iinc 2 1, 3) := by decide +kernel
theorem dX12_forlorn_37 : decode cX12_forlorn 37 = .ok (.goto (-22), 3) := by decide +kernel
theorem dX12_forlorn_40 : decode cX12_forlorn 40 = .ok (.iload_n 1, 1) := by decide +kernel
theorem dX12_forlorn_41 : decode cX12_forlorn 41 = .ok (.ireturn, 1) := by decide +kernel
theorem dX12_nearest_0 : decode cX12_nearest 0 = .ok (.aload_n 0, 1) := by decide +kernel
theorem dX12_nearest_1 : decode cX12_nearest 1 = .ok (.iload_n 1, 1) := by decide +kernel
theorem dX12_nearest_2 : decode cX12_nearest 2 = .ok (.invokevirtual 454, 3) := by decide +kernel
theorem dX12_nearest_5 : decode cX12_nearest 5 = .ok (.ifCond .ne 5, 3) := by decide +kernel
theorem dX12_nearest_8 : decode cX12_nearest 8 = .ok (.iconst (-1), 1) := by decide +kernel
theorem dX12_nearest_9 : decode cX12_nearest 9 = .ok (.ireturn, 1) := by decide +kernel
theorem dX12_nearest_10 : decode cX12_nearest 10 = .ok (.aload_n 0, 1) := by decide +kernel
theorem dX12_nearest_11 : decode cX12_nearest 11 = .ok (.invokevirtual 451, 3) := by decide +kernel
theorem dX12_nearest_14 : decode cX12_nearest 14 = .ok (.iconst (-1), 1) := by decide +kernel
theorem dX12_nearest_15 : decode cX12_nearest 15 = .ok (.istore_n 2, 1) := by decide +kernel
theorem dX12_nearest_16 : decode cX12_nearest 16 = .ok (.iconst 0, 1) := by decide +kernel
theorem dX12_nearest_17 : decode cX12_nearest 17 = .ok (.istore_n 3, 1) := by decide +kernel
theorem dX12_nearest_18 : decode cX12_nearest 18 = .ok (.iload_n 3, 1) := by decide +kernel
theorem dX12_nearest_19 : decode cX12_nearest 19 = .ok (.aload_n 0, 1) := by decide +kernel
theorem dX12_nearest_20 : decode cX12_nearest 20 = .ok (.getfield 392, 3) := by decide +kernel
theorem dX12_nearest_23 : decode cX12_nearest 23 = .ok (.if_icmp .ge 38, 3) := by decide +kernel
theorem dX12_nearest_26 : decode cX12_nearest 26 = .ok (.aload_n 0, 1) := by decide +kernel
theorem dX12_nearest_27 : decode cX12_nearest 27 = .ok (.iload_n 3, 1) := by decide +kernel
theorem dX12_nearest_28 : decode cX12_nearest 28 = .ok (.invokevirtual 460, 3) := by decide +kernel
theorem dX12_nearest_31 : decode cX12_nearest 31 = .ok (.ifCond .eq 24, 3) := by decide +kernel
theorem dX12_nearest_34 : decode cX12_nearest 34 = .ok (.iload_n 2, 1) := by decide +kernel
theorem dX12_nearest_35 : decode cX12_nearest 35 = .ok (.ifCond .lt 18, 3) := by decide +kernel
theorem dX12_nearest_38 : decode cX12_nearest 38 = .ok (.aload_n 0, 1) := by decide +kernel
theorem dX12_nearest_39 : decode cX12_nearest 39 = .ok (.iload_n 1, 1) := by decide +kernel
theorem dX12_nearest_40 : decode cX12_nearest 40 = .ok (.iload_n 3, 1) := by decide +kernel
theorem dX12_nearest_41 : decode cX12_nearest 41 = .ok (.invokevirtual 481, 3) := by decide +kernel
theorem dX12_nearest_44 : decode cX12_nearest 44 = .ok (.aload_n 0, 1) := by decide +kernel
theorem dX12_nearest_45 : decode cX12_nearest 45 = .ok (.iload_n 1, 1) := by decide +kernel
theorem dX12_nearest_46 : decode cX12_nearest 46 = .ok (.iload_n 2, 1) := by decide +kernel
theorem dX12_nearest_47 : decode cX12_nearest 47 = .ok (.invokevirtual 481, 3) := by decide +kernel
theorem dX12_nearest_50 : decode cX12_nearest 50 = .ok (.if_icmp .ge 5, 3) := by decide +kernel
theorem dX12_nearest_53 : decode cX12_nearest 53 = .ok (.iload_n 3, 1) := by decide +kernel
theorem dX12_nearest_54 : decode cX12_nearest 54 = .ok (.istore_n 2, 1) := by decide +kernel
theorem dX12_nearest_55 : decode cX12_nearest 55 = .ok (.iinc 3 1, 3) := by decide +kernel
theorem dX12_nearest_58 : decode cX12_nearest 58 = .ok (.goto (-40), 3) := by decide +kernel
theorem dX12_nearest_61 : decode cX12_nearest 61 = .ok (.iload_n 2, 1) := by decide +kernel
theorem dX12_nearest_62 : decode cX12_nearest 62 = .ok (.ireturn, 1) := by decide +kernel
theorem dX12_law_0 : decode cX12_law 0 = .ok (.iload_n 1, 1) := by decide +kernel
theorem dX12_law_1 : decode cX12_law 1 = .ok (.bipush (-99), 2) := by decide +kernel
theorem dX12_law_3 : decode cX12_law 3 = .ok (.bipush 99, 2) := by decide +kernel
theorem dX12_law_5 : decode cX12_law 5 = .ok (.invokestatic 422, 3) := by decide +kernel
theorem dX12_law_8 : decode cX12_law 8 = .ok (.ifCond .ne 5, 3) := by decide +kernel
theorem dX12_law_11 : decode cX12_law 11 = .ok (.iconst (-1), 1) := by decide +kernel
theorem dX12_law_12 : decode cX12_law 12 = .ok (.ireturn, 1) := by decide +kernel
theorem dX12_law_13 : decode cX12_law 13 = .ok (.aload_n 0, 1) := by decide +kernel
theorem dX12_law_14 : decode cX12_law 14 = .ok (.invokevirtual 451, 3) := by decide +kernel
theorem dX12_law_17 : decode cX12_law 17 = .ok (.aload_n 0, 1) := by decide +kernel
theorem dX12_law_18 : decode cX12_law 18 = .ok (.iload_n 1, 1) := by decide +kernel
theorem dX12_law_19 : decode cX12_law 19 = .ok (.putfield 333, 3) := by decide +kernel
theorem dX12_law_22 : decode cX12_law 22 = .ok (.aload_n 0, 1) := by decide +kernel
theorem dX12_law_23 : decode cX12_law 23 = .ok (.iconst 1, 1) := by decide +kernel
theorem dX12_law_24 : decode cX12_law 24 = .ok (.invokevirtual 475, 3) := by decide +kernel
theorem dX12_law_27 : decode cX12_law 27 = .ok (.invokestatic 433, 3) := by decide +kernel
theorem dX12_law_30 : decode cX12_law 30 = .ok (.istore_n 2, 1) := by decide +kernel
theorem dX12_law_31 : decode cX12_law 31 = .ok (.aload_n 0, 1) := by decide +kernel
theorem dX12_law_32 : decode cX12_law 32 = .ok (.iconst 0, 1) := by decide +kernel
theorem dX12_law_33 : decode cX12_law 33 = .ok (.putfield 333, 3) := by decide +kernel
theorem dX12_law_36 : decode cX12_law 36 = .ok (.iload_n 2, 1) := by decide +kernel
theorem dX12_law_37 : decode cX12_law 37 = .ok (.ireturn, 1) := by decide +kernel
theorem dX12_schisms_0 : decode cX12_schisms 0 = .ok (.iconst 0, 1) := by decide +kernel
theorem dX12_schisms_1 : decode cX12_schisms 1 = .ok (.istore_n 1, 1) := by decide +kernel
theorem dX12_schisms_2 : decode cX12_schisms 2 = .ok (.iconst 0, 1) := by decide +kernel
theorem dX12_schisms_3 : decode cX12_schisms 3 = .ok (.istore_n 2, 1) := by decide +kernel
theorem dX12_schisms_4 : decode cX12_schisms 4 = .ok (.iload_n 2, 1) := by decide +kernel
theorem dX12_schisms_5 : decode cX12_schisms 5 = .ok (.aload_n 0, 1) := by decide +kernel
theorem dX12_schisms_6 : decode cX12_schisms 6 = .ok (.getfield 395, 3) := by decide +kernel
theorem dX12_schisms_9 : decode cX12_schisms 9 = .ok (.if_icmp .ge 48, 3) := by decide +kernel
theorem dX12_schisms_12 : decode cX12_schisms 12 = .ok (.iconst 0, 1) := by decide +kernel
theorem dX12_schisms_13 : decode cX12_schisms 13 = .ok (.istore_n 3, 1) := by decide +kernel
theorem dX12_schisms_14 : decode cX12_schisms 14 = .ok (.iload_n 3, 1) := by decide +kernel
theorem dX12_schisms_15 : decode cX12_schisms 15 = .ok (.iload_n 2, 1) := by decide +kernel
theorem dX12_schisms_16 : decode cX12_schisms 16 = .ok (.if_icmp .ge 35, 3) := by decide +kernel
theorem dX12_schisms_19 : decode cX12_schisms 19 = .ok (.iload_n 1, 1) := by decide +kernel
theorem dX12_schisms_20 : decode cX12_schisms 20 = .ok (.aload_n 0, 1) := by decide +kernel
theorem dX12_schisms_21 : decode cX12_schisms 21 = .ok (.getfield 94, 3) := by decide +kernel
theorem dX12_schisms_24 : decode cX12_schisms 24 = .ok (.iload_n 2, 1) := by decide +kernel
theorem dX12_schisms_25 : decode cX12_schisms 25 = .ok (.iaload, 1) := by decide +kernel
theorem dX12_schisms_26 : decode cX12_schisms 26 = .ok (.aload_n 0, 1) := by decide +kernel
theorem dX12_schisms_27 : decode cX12_schisms 27 = .ok (.getfield 94, 3) := by decide +kernel
theorem dX12_schisms_30 : decode cX12_schisms 30 = .ok (.iload_n 3, 1) := by decide +kernel
theorem dX12_schisms_31 : decode cX12_schisms 31 = .ok (.iaload, 1) := by decide +kernel
theorem dX12_schisms_32 : decode cX12_schisms 32 = .ok (.if_icmp .eq 7, 3) := by decide +kernel
theorem dX12_schisms_35 : decode cX12_schisms 35 = .ok (.iconst 1, 1) := by decide +kernel
theorem dX12_schisms_36 : decode cX12_schisms 36 = .ok (.goto 4, 3) := by decide +kernel
theorem dX12_schisms_39 : decode cX12_schisms 39 = .ok (.iconst 0, 1) := by decide +kernel
theorem dX12_schisms_40 : decode cX12_schisms 40 = .ok (.invokestatic 329, 3) := by decide +kernel
theorem dX12_schisms_43 : decode cX12_schisms 43 = .ok (.iadd, 1) := by decide +kernel
theorem dX12_schisms_44 : decode cX12_schisms 44 = .ok (.istore_n 1, 1) := by decide +kernel
theorem dX12_schisms_45 : decode cX12_schisms 45 = .ok (.iinc 3 1, 3) := by decide +kernel
theorem dX12_schisms_48 : decode cX12_schisms 48 = .ok (.goto (-34), 3) := by decide +kernel
theorem dX12_schisms_51 : decode cX12_schisms 51 = .ok (.iinc 2 1, 3) := by decide +kernel
theorem dX12_schisms_54 : decode cX12_schisms 54 = .ok (.goto (-50), 3) := by decide +kernel
theorem dX12_schisms_57 : decode cX12_schisms 57 = .ok (.iload_n 1, 1) := by decide +kernel
theorem dX12_schisms_58 : decode cX12_schisms 58 = .ok (.ireturn, 1) := by decide +kernel
theorem dX12_divisor_0 : decode cX12_divisor 0 = .ok (.iload_n 0, 1) := by decide +kernel
theorem dX12_divisor_1 : decode cX12_divisor 1 = .ok (.istore_n 2, 1) := by decide +kernel
theorem dX12_divisor_2 : decode cX12_divisor 2 = .ok (.iload_n 1, 1) := by decide +kernel
theorem dX12_divisor_3 : decode cX12_divisor 3 = .ok (.istore_n 3, 1) := by decide +kernel
theorem dX12_divisor_4 : decode cX12_divisor 4 = .ok (.iload_n 3, 1) := by decide +kernel
theorem dX12_divisor_5 : decode cX12_divisor 5 = .ok (.ifCond .le 16, 3) := by decide +kernel
theorem dX12_divisor_8 : decode cX12_divisor 8 = .ok (.iload_n 2, 1) := by decide +kernel
theorem dX12_divisor_9 : decode cX12_divisor 9 = .ok (.iload_n 3, 1) := by decide +kernel
theorem dX12_divisor_10 : decode cX12_divisor 10 = .ok (.irem, 1) := by decide +kernel
theorem dX12_divisor_11 : decode cX12_divisor 11 = .ok (.istore 4, 2) := by decide +kernel
theorem dX12_divisor_13 : decode cX12_divisor 13 = .ok (.iload_n 3, 1) := by decide +kernel
theorem dX12_divisor_14 : decode cX12_divisor 14 = .ok (.istore_n 2, 1) := by decide +kernel
theorem dX12_divisor_15 : decode cX12_divisor 15 = .ok (.iload 4, 2) := by decide +kernel
theorem dX12_divisor_17 : decode cX12_divisor 17 = .ok (.istore_n 3, 1) := by decide +kernel
theorem dX12_divisor_18 : decode cX12_divisor 18 = .ok (.goto (-14), 3) := by decide +kernel
theorem dX12_divisor_21 : decode cX12_divisor 21 = .ok (.iload_n 2, 1) := by decide +kernel
theorem dX12_divisor_22 : decode cX12_divisor 22 = .ok (.ireturn, 1) := by decide +kernel
theorem dX12_odds_0 : decode cX12_odds 0 = .ok (.iload_n 1, 1) := by decide +kernel
theorem dX12_odds_1 : decode cX12_odds 1 = .ok (.iconst 0, 1) := by decide +kernel
theorem dX12_odds_2 : decode cX12_odds 2 = .ok (.iconst 4, 1) := by decide +kernel
theorem dX12_odds_3 : decode cX12_odds 3 = .ok (.invokestatic 422, 3) := by decide +kernel
theorem dX12_odds_6 : decode cX12_odds 6 = .ok (.ifCond .eq 12, 3) := by decide +kernel
theorem dX12_odds_9 : decode cX12_odds 9 = .ok (.iload_n 2, 1) := by decide +kernel
theorem dX12_odds_10 : decode cX12_odds 10 = .ok (.iconst 0, 1) := by decide +kernel
theorem dX12_odds_11 : decode cX12_odds 11 = .ok (.iconst 1, 1) := by decide +kernel
theorem dX12_odds_12 : decode cX12_odds 12 = .ok (.invokestatic 422, 3) := by decide +kernel
theorem dX12_odds_15 : decode cX12_odds 15 = .ok (.ifCond .ne 5, 3) := by decide +kernel
theorem dX12_odds_18 : decode cX12_odds 18 = .ok (.iconst (-1), 1) := by decide +kernel
theorem dX12_odds_19 : decode cX12_odds 19 = .ok (.ireturn, 1) := by decide +kernel
theorem dX12_odds_20 : decode cX12_odds 20 = .ok (.bipush 100, 2) := by decide +kernel
theorem dX12_odds_22 : decode cX12_odds 22 = .ok (.aload_n 0, 1) := by decide +kernel
theorem dX12_odds_23 : decode cX12_odds 23 = .ok (.getfield 398, 3) := by decide +kernel
theorem dX12_odds_26 : decode cX12_odds 26 = .ok (.isub, 1) := by decide +kernel
theorem dX12_odds_27 : decode cX12_odds 27 = .ok (.iload_n 1, 1) := by decide +kernel
theorem dX12_odds_28 : decode cX12_odds 28 = .ok (.invokestatic 487, 3) := by decide +kernel
theorem dX12_odds_31 : decode cX12_odds 31 = .ok (.istore_n 3, 1) := by decide +kernel
theorem dX12_odds_32 : decode cX12_odds 32 = .ok (.bipush 100, 2) := by decide +kernel
theorem dX12_odds_34 : decode cX12_odds 34 = .ok (.iload_n 1, 1) := by decide +kernel
theorem dX12_odds_35 : decode cX12_odds 35 = .ok (.invokestatic 487, 3) := by decide +kernel
theorem dX12_odds_38 : decode cX12_odds 38 = .ok (.istore 4, 2) := by decide +kernel
theorem dX12_odds_40 : decode cX12_odds 40 = .ok (.iload 4, 2) := by decide +kernel
theorem dX12_odds_42 : decode cX12_odds 42 = .ok (.iload_n 3, 1) := by decide +kernel
theorem dX12_odds_43 : decode cX12_odds 43 = .ok (.invokestatic 524, 3) := by decide +kernel
theorem dX12_odds_46 : decode cX12_odds 46 = .ok (.istore 5, 2) := by decide +kernel
theorem dX12_odds_48 : decode cX12_odds 48 = .ok (.iload_n 2, 1) := by decide +kernel
theorem dX12_odds_49 : decode cX12_odds 49 = .ok (.ifCond .ne 10, 3) := by decide +kernel
theorem dX12_odds_52 : decode cX12_odds 52 = .ok (.iload_n 3, 1) := by decide +kernel
theorem dX12_odds_53 : decode cX12_odds 53 = .ok (.iload 5, 2) := by decide +kernel
theorem dX12_odds_55 : decode cX12_odds 55 = .ok (.idiv, 1) := by decide +kernel
theorem dX12_odds_56 : decode cX12_odds 56 = .ok (.goto 8, 3) := by decide +kernel
theorem dX12_odds_59 : decode cX12_odds 59 = .ok (.iload 4, 2) := by decide +kernel
theorem dX12_odds_61 : decode cX12_odds 61 = .ok (.iload 5, 2) := by decide +kernel
theorem dX12_odds_63 : decode cX12_odds 63 = .ok (.idiv, 1) := by decide +kernel
theorem dX12_odds_64 : decode cX12_odds 64 = .ok (.ireturn, 1) := by decide +kernel
theorem dX12_lies_0 : decode cX12_lies 0 = .ok (.iload_n 1, 1) := by decide +kernel
theorem dX12_lies_1 : decode cX12_lies 1 = .ok (.iconst 0, 1) := by decide +kernel
theorem dX12_lies_2 : decode cX12_lies 2 = .ok (.aload_n 0, 1) := by decide +kernel
theorem dX12_lies_3 : decode cX12_lies 3 = .ok (.getfield 419, 3) := by decide +kernel
theorem dX12_lies_6 : decode cX12_lies 6 = .ok (.iconst 1, 1) := by decide +kernel
theorem dX12_lies_7 : decode cX12_lies 7 = .ok (.isub, 1) := by decide +kernel
theorem dX12_lies_8 : decode cX12_lies 8 = .ok (.invokestatic 422, 3) := by decide +kernel
theorem dX12_lies_11 : decode cX12_lies 11 = .ok (.ifCond .eq 12, 3) := by decide +kernel
theorem dX12_lies_14 : decode cX12_lies 14 = .ok (.aload_n 0, 1) := by decide +kernel
theorem dX12_lies_15 : decode cX12_lies 15 = .ok (.getfield 121, 3) := by decide +kernel
theorem dX12_lies_18 : decode cX12_lies 18 = .ok (.iload_n 1, 1) := by decide +kernel
theorem dX12_lies_19 : decode cX12_lies 19 = .ok (.iaload, 1) := by decide +kernel
theorem dX12_lies_20 : decode cX12_lies 20 = .ok (.goto 5, 3) := by decide +kernel
theorem dX12_lies_23 : decode cX12_lies 23 = .ok (.bipush (-2), 2) := by decide +kernel
theorem dX12_lies_25 : decode cX12_lies 25 = .ok (.ireturn, 1) := by decide +kernel
theorem dX12_mark_0 : decode cX12_mark 0 = .ok (.aload_n 0, 1) := by decide +kernel
theorem dX12_mark_1 : decode cX12_mark 1 = .ok (.getfield 395, 3) := by decide +kernel
theorem dX12_mark_4 : decode cX12_mark 4 = .ok (.ifCond .eq 31, 3) := by decide +kernel
theorem dX12_mark_7 : decode cX12_mark 7 = .ok (.iload_n 2, 1) := by decide +kernel
theorem dX12_mark_8 : decode cX12_mark 8 = .ok (.iconst 1, 1) := by decide +kernel
theorem dX12_mark_9 : decode cX12_mark 9 = .ok (.iconst 3, 1) := by decide +kernel
theorem dX12_mark_10 : decode cX12_mark 10 = .ok (.invokestatic 422, 3) := by decide +kernel
theorem dX12_mark_13 : decode cX12_mark 13 = .ok (.ifCond .eq 22, 3) := by decide +kernel
theorem dX12_mark_16 : decode cX12_mark 16 = .ok (.iload_n 3, 1) := by decide +kernel
theorem dX12_mark_17 : decode cX12_mark 17 = .ok (.iconst 0, 1) := by decide +kernel
theorem dX12_mark_18 : decode cX12_mark 18 = .ok (.bipush 99, 2) := by decide +kernel
theorem dX12_mark_20 : decode cX12_mark 20 = .ok (.invokestatic 422, 3) := by decide +kernel
theorem dX12_mark_23 : decode cX12_mark 23 = .ok (.ifCond .eq 12, 3) := by decide +kernel
theorem dX12_mark_26 : decode cX12_mark 26 = .ok (.aload_n 0, 1) := by decide +kernel
theorem dX12_mark_27 : decode cX12_mark 27 = .ok (.getfield 416, 3) := by decide +kernel
theorem dX12_mark_30 : decode cX12_mark 30 = .ok (.bipush 30, 2) := by decide +kernel
theorem dX12_mark_32 : decode cX12_mark 32 = .ok (.if_icmp .ne 5, 3) := by decide +kernel
theorem dX12_mark_35 : decode cX12_mark 35 = .ok (.iconst (-1), 1) := by decide +kernel
theorem dX12_mark_36 : decode cX12_mark 36 = .ok (.ireturn, 1) := by decide +kernel
theorem dX12_mark_37 : decode cX12_mark 37 = .ok (.aload_n 0, 1) := by decide +kernel
theorem dX12_mark_38 : decode cX12_mark 38 = .ok (.getfield 130, 3) := by decide +kernel
theorem dX12_mark_41 : decode cX12_mark 41 = .ok (.aload_n 0, 1) := by decide +kernel
theorem dX12_mark_42 : decode cX12_mark 42 = .ok (.getfield 416, 3) := by decide +kernel
theorem dX12_mark_45 : decode cX12_mark 45 = .ok (.iload_n 1, 1) := by decide +kernel
theorem dX12_mark_46 : decode cX12_mark 46 = .ok (.iastore, 1) := by decide +kernel
theorem dX12_mark_47 : decode cX12_mark 47 = .ok (.aload_n 0, 1) := by decide +kernel
theorem dX12_mark_48 : decode cX12_mark 48 = .ok (.getfield 133, 3) := by decide +kernel
theorem dX12_mark_51 : decode cX12_mark 51 = .ok (.aload_n 0, 1) := by decide +kernel
theorem dX12_mark_52 : decode cX12_mark 52 = .ok (.getfield 416, 3) := by decide +kernel
theorem dX12_mark_55 : decode cX12_mark 55 = .ok (.iload_n 2, 1) := by decide +kernel
theorem dX12_mark_56 : decode cX12_mark 56 = .ok (.iastore, 1) := by decide +kernel
theorem dX12_mark_57 : decode cX12_mark 57 = .ok (.aload_n 0, 1) := by decide +kernel
theorem dX12_mark_58 : decode cX12_mark 58 = .ok (.getfield 136, 3) := by decide +kernel
theorem dX12_mark_61 : decode cX12_mark 61 = .ok (.aload_n 0, 1) := by decide +kernel
theorem dX12_mark_62 : decode cX12_mark 62 = .ok (.getfield 416, 3) := by decide +kernel
theorem dX12_mark_65 : decode cX12_mark 65 = .ok (.iload_n 3, 1) := by decide +kernel
theorem dX12_mark_66 : decode cX12_mark 66 = .ok (.iastore, 1) := by decide +kernel
theorem dX12_mark_67 : decode cX12_mark 67 = .ok (.aload_n 0, 1) := by decide +kernel
theorem dX12_mark_68 : decode cX12_mark 68 = .ok (.getfield 145, 3) := by decide +kernel
theorem dX12_mark_71 : decode cX12_mark 71 = .ok (.aload_n 0, 1) := by decide +kernel
theorem dX12_mark_72 : decode cX12_mark 72 = .ok (.getfield 416, 3) := by decide +kernel
theorem dX12_mark_75 : decode cX12_mark 75 = .ok (.iload 4, 2) := by decide +kernel
theorem dX12_mark_77 : decode cX12_mark 77 = .ok (.bastore, 1) := by decide +kernel
theorem dX12_mark_78 : decode cX12_mark 78 = .ok (.aload_n 0, 1) := by decide +kernel
theorem dX12_mark_79 : decode cX12_mark 79 = .ok (.getfield 139, 3) := by decide +kernel
theorem dX12_mark_82 : decode cX12_mark 82 = .ok (.aload_n 0, 1) := by decide +kernel
theorem dX12_mark_83 : decode cX12_mark 83 = .ok (.getfield 416, 3) := by decide +kernel
theorem dX12_mark_86 : decode cX12_mark 86 = .ok (.aload_n 0, 1) := by decide +kernel
theorem dX12_mark_87 : decode cX12_mark 87 = .ok (.getfield 527, 3) := by decide +kernel
theorem dX12_mark_90 : decode cX12_mark 90 = .ok (.iastore, 1) := by decide +kernel
theorem dX12_mark_91 : decode cX12_mark 91 = .ok (.aload_n 0, 1) := by decide +kernel
theorem dX12_mark_92 : decode cX12_mark 92 = .ok (.getfield 142, 3) := by decide +kernel
theorem dX12_mark_95 : decode cX12_mark 95 = .ok (.aload_n 0, 1) := by decide +kernel
theorem dX12_mark_96 : decode cX12_mark 96 = .ok (.getfield 416, 3) := by decide +kernel
theorem dX12_mark_99 : decode cX12_mark 99 = .ok (.iconst (-1), 1) := by decide +kernel
theorem dX12_mark_100 : decode cX12_mark 100 = .ok (.iastore, 1) := by decide +kernel
theorem dX12_mark_101 : decode cX12_mark 101 = .ok (.aload_n 0, 1) := by decide +kernel
theorem dX12_mark_102 : decode cX12_mark 102 = .ok (.dup, 1) := by decide +kernel
theorem dX12_mark_103 : decode cX12_mark 103 = .ok (.getfield 416, 3) := by decide +kernel
theorem dX12_mark_106 : decode cX12_mark 106 = .ok (.iconst 1, 1) := by decide +kernel
theorem dX12_mark_107 : decode cX12_mark 107 = .ok (.iadd, 1) := by decide +kernel
theorem dX12_mark_108 : decode cX12_mark 108 = .ok (.putfield 416, 3) := by decide +kernel
theorem dX12_mark_111 : decode cX12_mark 111 = .ok (.aload_n 0, 1) := by decide +kernel
theorem dX12_mark_112 : decode cX12_mark 112 = .ok (.getfield 416, 3) := by decide +kernel
theorem dX12_mark_115 : decode cX12_mark 115 = .ok (.iconst 1, 1) := by decide +kernel
theorem dX12_mark_116 : decode cX12_mark 116 = .ok (.isub, 1) := by decide +kernel
theorem dX12_mark_117 : decode cX12_mark 117 = .ok (.ireturn, 1) := by decide +kernel
theorem dX12_dented_0 : decode cX12_dented 0 = .ok (.aload_n 0, 1) := by decide +kernel
theorem dX12_dented_1 : decode cX12_dented 1 = .ok (.iconst 0, 1) := by decide +kernel
theorem dX12_dented_2 : decode cX12_dented 2 = .ok (.iload_n 1, 1) := by decide +kernel
theorem dX12_dented_3 : decode cX12_dented 3 = .ok (.iload_n 2, 1) := by decide +kernel
theorem dX12_dented_4 : decode cX12_dented 4 = .ok (.iload_n 3, 1) := by decide +kernel
theorem dX12_dented_5 : decode cX12_dented 5 = .ok (.invokevirtual 530, 3) := by decide +kernel
theorem dX12_dented_8 : decode cX12_dented 8 = .ok (.ireturn, 1) := by decide +kernel
theorem dX12_held_0 : decode cX12_held 0 = .ok (.aload_n 0, 1) := by decide +kernel
theorem dX12_held_1 : decode cX12_held 1 = .ok (.iconst 1, 1) := by decide +kernel
theorem dX12_held_2 : decode cX12_held 2 = .ok (.iload_n 1, 1) := by decide +kernel
theorem dX12_held_3 : decode cX12_held 3 = .ok (.iload_n 2, 1) := by decide +kernel
theorem dX12_held_4 : decode cX12_held 4 = .ok (.iload_n 3, 1) := by decide +kernel
theorem dX12_held_5 : decode cX12_held 5 = .ok (.invokevirtual 530, 3) := by decide +kernel
theorem dX12_held_8 : decode cX12_held 8 = .ok (.ireturn, 1) := by decide +kernel
theorem dX12_untell_0 : decode cX12_untell 0 = .ok (.iload_n 1, 1) := by decide +kernel
theorem dX12_untell_1 : decode cX12_untell 1 = .ok (.iconst 0, 1) := by decide +kernel
theorem dX12_untell_2 : decode cX12_untell 2 = .ok (.aload_n 0, 1) := by decide +kernel
theorem dX12_untell_3 : decode cX12_untell 3 = .ok (.getfield 416, 3) := by decide +kernel
theorem dX12_untell_6 : decode cX12_untell 6 = .ok (.iconst 1, 1) := by decide +kernel
theorem dX12_untell_7 : decode cX12_untell 7 = .ok (.isub, 1) := by decide +kernel
theorem dX12_untell_8 : decode cX12_untell 8 = .ok (.invokestatic 422, 3) := by decide +kernel
theorem dX12_untell_11 : decode cX12_untell 11 = .ok (.ifCond .eq 12, 3) := by decide +kernel
theorem dX12_untell_14 : decode cX12_untell 14 = .ok (.aload_n 0, 1) := by decide +kernel
theorem dX12_untell_15 : decode cX12_untell 15 = .ok (.getfield 142, 3) := by decide +kernel
theorem dX12_untell_18 : decode cX12_untell 18 = .ok (.iload_n 1, 1) := by decide +kernel
theorem dX12_untell_19 : decode cX12_untell 19 = .ok (.iaload, 1) := by decide +kernel
theorem dX12_untell_20 : decode cX12_untell 20 = .ok (.ifCond .lt 5, 3) := by decide +kernel
theorem dX12_untell_23 : decode cX12_untell 23 = .ok (.iconst 0, 1) := by decide +kernel
theorem dX12_untell_24 : decode cX12_untell 24 = .ok (.ireturn, 1) := by decide +kernel
theorem dX12_untell_25 : decode cX12_untell 25 = .ok (.aload_n 0, 1) := by decide +kernel
theorem dX12_untell_26 : decode cX12_untell 26 = .ok (.getfield 142, 3) := by decide +kernel
theorem dX12_untell_29 : decode cX12_untell 29 = .ok (.iload_n 1, 1) := by decide +kernel
theorem dX12_untell_30 : decode cX12_untell 30 = .ok (.aload_n 0, 1) := by decide +kernel
theorem dX12_untell_31 : decode cX12_untell 31 = .ok (.getfield 527, 3) := by decide +kernel
theorem dX12_untell_34 : decode cX12_untell 34 = .ok (.iastore, 1) := by decide +kernel
theorem dX12_untell_35 : decode cX12_untell 35 = .ok (.iconst 1, 1) := by decide +kernel
theorem dX12_untell_36 : decode cX12_untell 36 = .ok (.ireturn, 1) := by decide +kernel
theorem dX12_later_0 : decode cX12_later 0 = .ok (.iload_n 1, 1) := by decide +kernel
theorem dX12_later_1 : decode cX12_later 1 = .ok (.ifCond .lt 22, 3) := by decide +kernel
theorem dX12_later_4 : decode cX12_later 4 = .ok (.iload_n 1, 1) := by decide +kernel
theorem dX12_later_5 : decode cX12_later 5 = .ok (.sipush 1000, 3) := by decide +kernel
theorem dX12_later_8 : decode cX12_later 8 = .ok (.if_icmp .gt 15, 3) := by decide +kernel
theorem dX12_later_11 : decode cX12_later 11 = .ok (.aload_n 0, 1) := by decide +kernel
theorem dX12_later_12 : decode cX12_later 12 = .ok (.getfield 527, 3) := by decide +kernel
theorem dX12_later_15 : decode cX12_later 15 = .ok (.iload_n 1, 1) := by decide +kernel
theorem dX12_later_16 : decode cX12_later 16 = .ok (.iadd, 1) := by decide +kernel
theorem dX12_later_17 : decode cX12_later 17 = .ok (.ldc_w 534, 3) := by decide +kernel
theorem dX12_later_20 : decode cX12_later 20 = .ok (.if_icmp .le 5, 3) := by decide +kernel
theorem dX12_later_23 : decode cX12_later 23 = .ok (.iconst (-1), 1) := by decide +kernel
theorem dX12_later_24 : decode cX12_later 24 = .ok (.ireturn, 1) := by decide +kernel
theorem dX12_later_25 : decode cX12_later 25 = .ok (.aload_n 0, 1) := by decide +kernel
theorem dX12_later_26 : decode cX12_later 26 = .ok (.dup, 1) := by decide +kernel
theorem dX12_later_27 : decode cX12_later 27 = .ok (.getfield 527, 3) := by decide +kernel
theorem dX12_later_30 : decode cX12_later 30 = .ok (.iload_n 1, 1) := by decide +kernel
theorem dX12_later_31 : decode cX12_later 31 = .ok (.iadd, 1) := by decide +kernel
theorem dX12_later_32 : decode cX12_later 32 = .ok (.putfield 527, 3) := by decide +kernel
theorem dX12_later_35 : decode cX12_later 35 = .ok (.aload_n 0, 1) := by decide +kernel
theorem dX12_later_36 : decode cX12_later 36 = .ok (.getfield 527, 3) := by decide +kernel
theorem dX12_later_39 : decode cX12_later 39 = .ok (.ireturn, 1) := by decide +kernel
theorem dX12_isSo_0 : decode cX12_isSo 0 = .ok (.aload_n 0, 1) := by decide +kernel
theorem dX12_isSo_1 : decode cX12_isSo 1 = .ok (.getfield 133, 3) := by decide +kernel
theorem dX12_isSo_4 : decode cX12_isSo 4 = .ok (.iload_n 1, 1) := by decide +kernel
theorem dX12_isSo_5 : decode cX12_isSo 5 = .ok (.iaload, 1) := by decide +kernel
theorem dX12_isSo_6 : decode cX12_isSo 6 = .ok (.iconst 1, 1) := by decide +kernel
theorem dX12_isSo_7 : decode cX12_isSo 7 = .ok (.isub, 1) := by decide +kernel
theorem dX12_isSo_8 : decode cX12_isSo 8 = .ok (.istore_n 2, 1) := by decide +kernel
theorem dX12_isSo_9 : decode cX12_isSo 9 = .ok (.aload_n 0, 1) := by decide +kernel
theorem dX12_isSo_10 : decode cX12_isSo 10 = .ok (.getfield 130, 3) := by decide +kernel
theorem dX12_isSo_13 : decode cX12_isSo 13 = .ok (.iload_n 1, 1) := by decide +kernel
theorem dX12_isSo_14 : decode cX12_isSo 14 = .ok (.iaload, 1) := by decide +kernel
theorem dX12_isSo_15 : decode cX12_isSo 15 = .ok (.ifCond .ne 12, 3) := by decide +kernel
theorem dX12_isSo_18 : decode cX12_isSo 18 = .ok (.aload_n 0, 1) := by decide +kernel
theorem dX12_isSo_19 : decode cX12_isSo 19 = .ok (.getfield 151, 3) := by decide +kernel
theorem dX12_isSo_22 : decode cX12_isSo 22 = .ok (.iload_n 2, 1) := by decide +kernel
theorem dX12_isSo_23 : decode cX12_isSo 23 = .ok (.iaload, 1) := by decide +kernel
theorem dX12_isSo_24 : decode cX12_isSo 24 = .ok (.goto 9, 3) := by decide +kernel
theorem dX12_isSo_27 : decode cX12_isSo 27 = .ok (.aload_n 0, 1) := by decide +kernel
theorem dX12_isSo_28 : decode cX12_isSo 28 = .ok (.getfield 154, 3) := by decide +kernel
theorem dX12_isSo_31 : decode cX12_isSo 31 = .ok (.iload_n 2, 1) := by decide +kernel
theorem dX12_isSo_32 : decode cX12_isSo 32 = .ok (.iaload, 1) := by decide +kernel
theorem dX12_isSo_33 : decode cX12_isSo 33 = .ok (.aload_n 0, 1) := by decide +kernel
theorem dX12_isSo_34 : decode cX12_isSo 34 = .ok (.getfield 136, 3) := by decide +kernel
theorem dX12_isSo_37 : decode cX12_isSo 37 = .ok (.iload_n 1, 1) := by decide +kernel
theorem dX12_isSo_38 : decode cX12_isSo 38 = .ok (.iaload, 1) := by decide +kernel
theorem dX12_isSo_39 : decode cX12_isSo 39 = .ok (.if_icmp .lt 7, 3) := by decide +kernel
theorem dX12_isSo_42 : decode cX12_isSo 42 = .ok (.iconst 1, 1) := by decide +kernel
theorem dX12_isSo_43 : decode cX12_isSo 43 = .ok (.goto 4, 3) := by decide +kernel
theorem dX12_isSo_46 : decode cX12_isSo 46 = .ok (.iconst 0, 1) := by decide +kernel
theorem dX12_isSo_47 : decode cX12_isSo 47 = .ok (.ireturn, 1) := by decide +kernel
theorem dX12_layRows_0 : decode cX12_layRows 0 = .ok (.iconst 0, 1) := by decide +kernel
theorem dX12_layRows_1 : decode cX12_layRows 1 = .ok (.istore_n 2, 1) := by decide +kernel
theorem dX12_layRows_2 : decode cX12_layRows 2 = .ok (.iconst 0, 1) := by decide +kernel
theorem dX12_layRows_3 : decode cX12_layRows 3 = .ok (.istore_n 3, 1) := by decide +kernel
theorem dX12_layRows_4 : decode cX12_layRows 4 = .ok (.iload_n 3, 1) := by decide +kernel
theorem dX12_layRows_5 : decode cX12_layRows 5 = .ok (.bipush 21, 2) := by decide +kernel
theorem dX12_layRows_7 : decode cX12_layRows 7 = .ok (.if_icmp .ge 16, 3) := by decide +kernel
theorem dX12_layRows_10 : decode cX12_layRows 10 = .ok (.aload_n 0, 1) := by decide +kernel
theorem dX12_layRows_11 : decode cX12_layRows 11 = .ok (.getfield 157, 3) := by decide +kernel
theorem dX12_layRows_14 : decode cX12_layRows 14 = .ok (.iload_n 3, 1) := by decide +kernel
theorem dX12_layRows_15 : decode cX12_layRows 15 = .ok (.iconst 0, 1) := by decide +kernel
theorem dX12_layRows_16 : decode cX12_layRows 16 = .ok (.iastore, 1) := by decide +kernel
theorem dX12_layRows_17 : decode cX12_layRows 17 = .ok (.iinc 3 1, 3) := by decide +kernel
theorem dX12_layRows_20 : decode cX12_layRows 20 = .ok (.goto (-16), 3) := by decide +kernel
theorem dX12_layRows_23 : decode cX12_layRows 23 = .ok (.iconst 0, 1) := by decide +kernel
theorem dX12_layRows_24 : decode cX12_layRows 24 = .ok (.istore_n 3, 1) := by decide +kernel
theorem dX12_layRows_25 : decode cX12_layRows 25 = .ok (.iload_n 3, 1) := by decide +kernel
theorem dX12_layRows_26 : decode cX12_layRows 26 = .ok (.aload_n 0, 1) := by decide +kernel
theorem dX12_layRows_27 : decode cX12_layRows 27 = .ok (.getfield 392, 3) := by decide +kernel
theorem dX12_layRows_30 : decode cX12_layRows 30 = .ok (.iconst 1, 1) := by decide +kernel
theorem dX12_layRows_31 : decode cX12_layRows 31 = .ok (.iadd, 1) := by decide +kernel
theorem dX12_layRows_32 : decode cX12_layRows 32 = .ok (.iconst 3, 1) := by decide +kernel
theorem dX12_layRows_33 : decode cX12_layRows 33 = .ok (.invokestatic 487, 3) := by decide +kernel
theorem dX12_layRows_36 : decode cX12_layRows 36 = .ok (.if_icmp .ge 255, 3) := by decide +kernel
theorem dX12_layRows_39 : decode cX12_layRows 39 = .ok (.aload_n 0, 1) := by decide +kernel
theorem dX12_layRows_40 : decode cX12_layRows 40 = .ok (.getfield 395, 3) := by decide +kernel
theorem dX12_layRows_43 : decode cX12_layRows 43 = .ok (.ifCond .le 248, 3) := by decide +kernel
theorem dX12_layRows_46 : decode cX12_layRows 46 = .ok (.aload_n 0, 1) := by decide +kernel
theorem dX12_layRows_47 : decode cX12_layRows 47 = .ok (.invokevirtual 404, 3) := by decide +kernel
theorem dX12_layRows_50 : decode cX12_layRows 50 = .ok (.iload_n 3, 1) := by decide +kernel
theorem dX12_layRows_51 : decode cX12_layRows 51 = .ok (.istore 4, 2) := by decide +kernel
theorem dX12_layRows_53 : decode cX12_layRows 53 = .ok (.iconst 0, 1) := by decide +kernel
theorem dX12_layRows_54 : decode cX12_layRows 54 = .ok (.istore 5, 2) := by decide +kernel
theorem dX12_layRows_56 : decode cX12_layRows 56 = .ok (.iload 5, 2) := by decide +kernel
theorem dX12_layRows_58 : decode cX12_layRows 58 = .ok (.iconst 3, 1) := by decide +kernel
theorem dX12_layRows_59 : decode cX12_layRows 59 = .ok (.if_icmp .ge 97, 3) := by decide +kernel
theorem dX12_layRows_62 : decode cX12_layRows 62 = .ok (.aload_n 0, 1) := by decide +kernel
theorem dX12_layRows_63 : decode cX12_layRows 63 = .ok (.getfield 148, 3) := by decide +kernel
theorem dX12_layRows_66 : decode cX12_layRows 66 = .ok (.iload 5, 2) := by decide +kernel
theorem dX12_layRows_68 : decode cX12_layRows 68 = .ok (.iload 4, 2) := by decide +kernel
theorem dX12_layRows_70 : decode cX12_layRows 70 = .ok (.aload_n 0, 1) := by decide +kernel
theorem dX12_layRows_71 : decode cX12_layRows 71 = .ok (.getfield 392, 3) := by decide +kernel
theorem dX12_layRows_74 : decode cX12_layRows 74 = .ok (.iconst 1, 1) := by decide +kernel
theorem dX12_layRows_75 : decode cX12_layRows 75 = .ok (.iadd, 1) := by decide +kernel
theorem dX12_layRows_76 : decode cX12_layRows 76 = .ok (.irem, 1) := by decide +kernel
theorem dX12_layRows_77 : decode cX12_layRows 77 = .ok (.iastore, 1) := by decide +kernel
theorem dX12_layRows_78 : decode cX12_layRows 78 = .ok (.iload 4, 2) := by decide +kernel
theorem dX12_layRows_80 : decode cX12_layRows 80 = .ok (.aload_n 0, 1) := by decide +kernel
theorem dX12_layRows_81 : decode cX12_layRows 81 = .ok (.getfield 392, 3) := by decide +kernel
theorem dX12_layRows_84 : decode cX12_layRows 84 = .ok (.iconst 1, 1) := by decide +kernel
theorem dX12_layRows_85 : decode cX12_layRows 85 = .ok (.iadd, 1) := by decide +kernel
theorem dX12_layRows_86 : decode cX12_layRows 86 = .ok (.idiv, 1) := by decide +kernel
theorem dX12_layRows_87 : decode cX12_layRows 87 = .ok (.istore 4, 2) := by decide +kernel
theorem dX12_layRows_89 : decode cX12_layRows 89 = .ok (.aload_n 0, 1) := by decide +kernel
theorem dX12_layRows_90 : decode cX12_layRows 90 = .ok (.iconst 1, 1) := by decide +kernel
theorem dX12_layRows_91 : decode cX12_layRows 91 = .ok (.aload_n 0, 1) := by decide +kernel
theorem dX12_layRows_92 : decode cX12_layRows 92 = .ok (.getfield 148, 3) := by decide +kernel
theorem dX12_layRows_95 : decode cX12_layRows 95 = .ok (.iload 5, 2) := by decide +kernel
theorem dX12_layRows_97 : decode cX12_layRows 97 = .ok (.iaload, 1) := by decide +kernel
theorem dX12_layRows_98 : decode cX12_layRows 98 = .ok (.aload_n 0, 1) := by decide +kernel
theorem dX12_layRows_99 : decode cX12_layRows 99 = .ok (.getfield 392, 3) := by decide +kernel
theorem dX12_layRows_102 : decode cX12_layRows 102 = .ok (.if_icmp .ne 7, 3) := by decide +kernel
theorem dX12_layRows_105 : decode cX12_layRows 105 = .ok (.iconst (-1), 1) := by decide +kernel
theorem dX12_layRows_106 : decode cX12_layRows 106 = .ok (.goto 10, 3) := by decide +kernel
theorem dX12_layRows_109 : decode cX12_layRows 109 = .ok (.aload_n 0, 1) := by decide +kernel
theorem dX12_layRows_110 : decode cX12_layRows 110 = .ok (.getfield 148, 3) := by decide +kernel
theorem dX12_layRows_113 : decode cX12_layRows 113 = .ok (.iload 5, 2) := by decide +kernel
theorem dX12_layRows_115 : decode cX12_layRows 115 = .ok (.iaload, 1) := by decide +kernel
theorem dX12_layRows_116 : decode cX12_layRows 116 = .ok (.invokevirtual 500, 3) := by decide +kernel
theorem dX12_layRows_119 : decode cX12_layRows 119 = .ok (.aload_n 0, 1) := by decide +kernel
theorem dX12_layRows_120 : decode cX12_layRows 120 = .ok (.iconst 0, 1) := by decide +kernel
theorem dX12_layRows_121 : decode cX12_layRows 121 = .ok (.invokevirtual 469, 3) := by decide +kernel
theorem dX12_layRows_124 : decode cX12_layRows 124 = .ok (.aload_n 0, 1) := by decide +kernel
theorem dX12_layRows_125 : decode cX12_layRows 125 = .ok (.getfield 151, 3) := by decide +kernel
theorem dX12_layRows_128 : decode cX12_layRows 128 = .ok (.iload 5, 2) := by decide +kernel
theorem dX12_layRows_130 : decode cX12_layRows 130 = .ok (.aload_n 0, 1) := by decide +kernel
theorem dX12_layRows_131 : decode cX12_layRows 131 = .ok (.getfield 106, 3) := by decide +kernel
theorem dX12_layRows_134 : decode cX12_layRows 134 = .ok (.iconst 5, 1) := by decide +kernel
theorem dX12_layRows_135 : decode cX12_layRows 135 = .ok (.iaload, 1) := by decide +kernel
theorem dX12_layRows_136 : decode cX12_layRows 136 = .ok (.iastore, 1) := by decide +kernel
theorem dX12_layRows_137 : decode cX12_layRows 137 = .ok (.aload_n 0, 1) := by decide +kernel
theorem dX12_layRows_138 : decode cX12_layRows 138 = .ok (.getfield 154, 3) := by decide +kernel
theorem dX12_layRows_141 : decode cX12_layRows 141 = .ok (.iload 5, 2) := by decide +kernel
theorem dX12_layRows_143 : decode cX12_layRows 143 = .ok (.aload_n 0, 1) := by decide +kernel
theorem dX12_layRows_144 : decode cX12_layRows 144 = .ok (.getfield 106, 3) := by decide +kernel
theorem dX12_layRows_147 : decode cX12_layRows 147 = .ok (.iconst 0, 1) := by decide +kernel
theorem dX12_layRows_148 : decode cX12_layRows 148 = .ok (.iaload, 1) := by decide +kernel
theorem dX12_layRows_149 : decode cX12_layRows 149 = .ok (.iastore, 1) := by decide +kernel
theorem dX12_layRows_150 : decode cX12_layRows 150 = .ok (.iinc 5 1, 3) := by decide +kernel
theorem dX12_layRows_153 : decode cX12_layRows 153 = .ok (.goto (-97), 3) := by decide +kernel
theorem dX12_layRows_156 : decode cX12_layRows 156 = .ok (.iconst 1, 1) := by decide +kernel
theorem dX12_layRows_157 : decode cX12_layRows 157 = .ok (.istore 5, 2) := by decide +kernel
theorem dX12_layRows_159 : decode cX12_layRows 159 = .ok (.iconst 0, 1) := by decide +kernel
theorem dX12_layRows_160 : decode cX12_layRows 160 = .ok (.istore 6, 2) := by decide +kernel
theorem dX12_layRows_162 : decode cX12_layRows 162 = .ok (.iload 6, 2) := by decide +kernel
theorem dX12_layRows_164 : decode cX12_layRows 164 = .ok (.aload_n 0, 1) := by decide +kernel
theorem dX12_layRows_165 : decode cX12_layRows 165 = .ok (.getfield 416, 3) := by decide +kernel
theorem dX12_layRows_168 : decode cX12_layRows 168 = .ok (.if_icmp .ge 69, 3) := by decide +kernel
theorem dX12_layRows_171 : decode cX12_layRows 171 = .ok (.iload 5, 2) := by decide +kernel
theorem dX12_layRows_173 : decode cX12_layRows 173 = .ok (.ifCond .eq 64, 3) := by decide +kernel
theorem dX12_layRows_176 : decode cX12_layRows 176 = .ok (.aload_n 0, 1) := by decide +kernel
theorem dX12_layRows_177 : decode cX12_layRows 177 = .ok (.getfield 139, 3) := by decide +kernel
theorem dX12_layRows_180 : decode cX12_layRows 180 = .ok (.iload 6, 2) := by decide +kernel
theorem dX12_layRows_182 : decode cX12_layRows 182 = .ok (.iaload, 1) := by decide +kernel
theorem dX12_layRows_183 : decode cX12_layRows 183 = .ok (.iload_n 1, 1) := by decide +kernel
theorem dX12_layRows_184 : decode cX12_layRows 184 = .ok (.if_icmp .gt 40, 3) := by decide +kernel
theorem dX12_layRows_187 : decode cX12_layRows 187 = .ok (.aload_n 0, 1) := by decide +kernel
theorem dX12_layRows_188 : decode cX12_layRows 188 = .ok (.getfield 142, 3) := by decide +kernel
theorem dX12_layRows_191 : decode cX12_layRows 191 = .ok (.iload 6, 2) := by decide +kernel
theorem dX12_layRows_193 : decode cX12_layRows 193 = .ok (.iaload, 1) := by decide +kernel
theorem dX12_layRows_194 : decode cX12_layRows 194 = .ok (.ifCond .lt 14, 3) := by decide +kernel
theorem dX12_layRows_197 : decode cX12_layRows 197 = .ok (.aload_n 0, 1) := by decide +kernel
theorem dX12_layRows_198 : decode cX12_layRows 198 = .ok (.getfield 142, 3) := by decide +kernel
theorem dX12_layRows_201 : decode cX12_layRows 201 = .ok (.iload 6, 2) := by decide +kernel
theorem dX12_layRows_203 : decode cX12_layRows 203 = .ok (.iaload, 1) := by decide +kernel
theorem dX12_layRows_204 : decode cX12_layRows 204 = .ok (.iload_n 1, 1) := by decide +kernel
theorem dX12_layRows_205 : decode cX12_layRows 205 = .ok (.if_icmp .le 19, 3) := by decide +kernel
theorem dX12_layRows_208 : decode cX12_layRows 208 = .ok (.aload_n 0, 1) := by decide +kernel
theorem dX12_layRows_209 : decode cX12_layRows 209 = .ok (.iload 6, 2) := by decide +kernel
theorem dX12_layRows_211 : decode cX12_layRows 211 = .ok (.invokevirtual 535, 3) := by decide +kernel
theorem dX12_layRows_214 : decode cX12_layRows 214 = .ok (.aload_n 0, 1) := by decide +kernel
theorem dX12_layRows_215 : decode cX12_layRows 215 = .ok (.getfield 145, 3) := by decide +kernel
theorem dX12_layRows_218 : decode cX12_layRows 218 = .ok (.iload 6, 2) := by decide +kernel
theorem dX12_layRows_220 : decode cX12_layRows 220 = .ok (.baload, 1) := by decide +kernel
theorem dX12_layRows_221 : decode cX12_layRows 221 = .ok (.if_icmp .ne 7, 3) := by decide +kernel
theorem dX12_layRows_224 : decode cX12_layRows 224 = .ok (.iconst 1, 1) := by decide +kernel
theorem dX12_layRows_225 : decode cX12_layRows 225 = .ok (.goto 4, 3) := by decide +kernel
theorem dX12_layRows_228 : decode cX12_layRows 228 = .ok (.iconst 0, 1) := by decide +kernel
theorem dX12_layRows_229 : decode cX12_layRows 229 = .ok (.istore 5, 2) := by decide +kernel
theorem dX12_layRows_231 : decode cX12_layRows 231 = .ok (.iinc 6 1, 3) := by decide +kernel
theorem dX12_layRows_234 : decode cX12_layRows 234 = .ok (.goto (-72), 3) := by decide +kernel
theorem dX12_layRows_237 : decode cX12_layRows 237 = .ok (.iload 5, 2) := by decide +kernel
theorem dX12_layRows_239 : decode cX12_layRows 239 = .ok (.ifCond .ne 6, 3) := by decide +kernel
theorem dX12_layRows_242 : decode cX12_layRows 242 = .ok (.goto 43, 3) := by decide +kernel
theorem dX12_layRows_245 : decode cX12_layRows 245 = .ok (.iinc 2 1, 3) := by decide +kernel
theorem dX12_layRows_248 : decode cX12_layRows 248 = .ok (.iconst 0, 1) := by decide +kernel
theorem dX12_layRows_249 : decode cX12_layRows 249 = .ok (.istore 6, 2) := by decide +kernel
theorem dX12_layRows_251 : decode cX12_layRows 251 = .ok (.iload 6, 2) := by decide +kernel
theorem dX12_layRows_253 : decode cX12_layRows 253 = .ok (.iconst 3, 1) := by decide +kernel
theorem dX12_layRows_254 : decode cX12_layRows 254 = .ok (.if_icmp .ge 31, 3) := by decide +kernel
theorem dX12_layRows_257 : decode cX12_layRows 257 = .ok (.aload_n 0, 1) := by decide +kernel
theorem dX12_layRows_258 : decode cX12_layRows 258 = .ok (.getfield 157, 3) := by decide +kernel
theorem dX12_layRows_261 : decode cX12_layRows 261 = .ok (.bipush 7, 2) := by decide +kernel
theorem dX12_layRows_263 : decode cX12_layRows 263 = .ok (.iload 6, 2) := by decide +kernel
theorem dX12_layRows_265 : decode cX12_layRows 265 = .ok (.imul, 1) := by decide +kernel
theorem dX12_layRows_266 : decode cX12_layRows 266 = .ok (.aload_n 0, 1) := by decide +kernel
theorem dX12_layRows_267 : decode cX12_layRows 267 = .ok (.getfield 148, 3) := by decide +kernel
theorem dX12_layRows_270 : decode cX12_layRows 270 = .ok (.iload 6, 2) := by decide +kernel
theorem dX12_layRows_272 : decode cX12_layRows 272 = .ok (.iaload, 1) := by decide +kernel
theorem dX12_layRows_273 : decode cX12_layRows 273 = .ok (.iadd, 1) := by decide +kernel
theorem dX12_layRows_274 : decode cX12_layRows 274 = .ok (.dup2, 1) := by decide +kernel
theorem dX12_layRows_275 : decode cX12_layRows 275 = .ok (.iaload, 1) := by decide +kernel
theorem dX12_layRows_276 : decode cX12_layRows 276 = .ok (.iconst 1, 1) := by decide +kernel
theorem dX12_layRows_277 : decode cX12_layRows 277 = .ok (.iadd, 1) := by decide +kernel
theorem dX12_layRows_278 : decode cX12_layRows 278 = .ok (.iastore, 1) := by decide +kernel
theorem dX12_layRows_279 : decode cX12_layRows 279 = .ok (.iinc 6 1, 3) := by decide +kernel
theorem dX12_layRows_282 : decode cX12_layRows 282 = .ok (.goto (-31), 3) := by decide +kernel
theorem dX12_layRows_285 : decode cX12_layRows 285 = .ok (.iinc 3 1, 3) := by decide +kernel
theorem dX12_layRows_288 : decode cX12_layRows 288 = .ok (.goto (-263), 3) := by decide +kernel
theorem dX12_layRows_291 : decode cX12_layRows 291 = .ok (.iload_n 2, 1) := by decide +kernel
theorem dX12_layRows_292 : decode cX12_layRows 292 = .ok (.ireturn, 1) := by decide +kernel
theorem dX12_rows_0 : decode cX12_rows 0 = .ok (.aload_n 0, 1) := by decide +kernel
theorem dX12_rows_1 : decode cX12_rows 1 = .ok (.iload_n 1, 1) := by decide +kernel
theorem dX12_rows_2 : decode cX12_rows 2 = .ok (.invokevirtual 538, 3) := by decide +kernel
theorem dX12_rows_5 : decode cX12_rows 5 = .ok (.ireturn, 1) := by decide +kernel
theorem dX12_sure_0 : decode cX12_sure 0 = .ok (.iload_n 1, 1) := by decide +kernel
theorem dX12_sure_1 : decode cX12_sure 1 = .ok (.iconst 1, 1) := by decide +kernel
theorem dX12_sure_2 : decode cX12_sure 2 = .ok (.iconst 3, 1) := by decide +kernel
theorem dX12_sure_3 : decode cX12_sure 3 = .ok (.invokestatic 422, 3) := by decide +kernel
theorem dX12_sure_6 : decode cX12_sure 6 = .ok (.ifCond .ne 6, 3) := by decide +kernel
theorem dX12_sure_9 : decode cX12_sure 9 = .ok (.bipush (-3), 2) := by decide +kernel
theorem dX12_sure_11 : decode cX12_sure 11 = .ok (.ireturn, 1) := by decide +kernel
theorem dX12_sure_12 : decode cX12_sure 12 = .ok (.aload_n 0, 1) := by decide +kernel
theorem dX12_sure_13 : decode cX12_sure 13 = .ok (.iload_n 2, 1) := by decide +kernel
theorem dX12_sure_14 : decode cX12_sure 14 = .ok (.invokevirtual 538, 3) := by decide +kernel
theorem dX12_sure_17 : decode cX12_sure 17 = .ok (.istore_n 3, 1) := by decide +kernel
theorem dX12_sure_18 : decode cX12_sure 18 = .ok (.iload_n 3, 1) := by decide +kernel
theorem dX12_sure_19 : decode cX12_sure 19 = .ok (.ifCond .ne 6, 3) := by decide +kernel
theorem dX12_sure_22 : decode cX12_sure 22 = .ok (.bipush (-3), 2) := by decide +kernel
theorem dX12_sure_24 : decode cX12_sure 24 = .ok (.ireturn, 1) := by decide +kernel
theorem dX12_sure_25 : decode cX12_sure 25 = .ok (.bipush (-2), 2) := by decide +kernel
theorem dX12_sure_27 : decode cX12_sure 27 = .ok (.istore 4, 2) := by decide +kernel
theorem dX12_sure_29 : decode cX12_sure 29 = .ok (.iconst 0, 1) := by decide +kernel
theorem dX12_sure_30 : decode cX12_sure 30 = .ok (.istore 5, 2) := by decide +kernel
theorem dX12_sure_32 : decode cX12_sure 32 = .ok (.iload 5, 2) := by decide +kernel
theorem dX12_sure_34 : decode cX12_sure 34 = .ok (.aload_n 0, 1) := by decide +kernel
theorem dX12_sure_35 : decode cX12_sure 35 = .ok (.getfield 392, 3) := by decide +kernel
theorem dX12_sure_38 : decode cX12_sure 38 = .ok (.if_icmp .gt 44, 3) := by decide +kernel
theorem dX12_sure_41 : decode cX12_sure 41 = .ok (.aload_n 0, 1) := by decide +kernel
theorem dX12_sure_42 : decode cX12_sure 42 = .ok (.getfield 157, 3) := by decide +kernel
theorem dX12_sure_45 : decode cX12_sure 45 = .ok (.bipush 7, 2) := by decide +kernel
theorem dX12_sure_47 : decode cX12_sure 47 = .ok (.iload_n 1, 1) := by decide +kernel
theorem dX12_sure_48 : decode cX12_sure 48 = .ok (.iconst 1, 1) := by decide +kernel
theorem dX12_sure_49 : decode cX12_sure 49 = .ok (.isub, 1) := by decide +kernel
theorem dX12_sure_50 : decode cX12_sure 50 = .ok (.imul, 1) := by decide +kernel
theorem dX12_sure_51 : decode cX12_sure 51 = .ok (.iload 5, 2) := by decide +kernel
theorem dX12_sure_53 : decode cX12_sure 53 = .ok (.iadd, 1) := by decide +kernel
theorem dX12_sure_54 : decode cX12_sure 54 = .ok (.iaload, 1) := by decide +kernel
theorem dX12_sure_55 : decode cX12_sure 55 = .ok (.iload_n 3, 1) := by decide +kernel
theorem dX12_sure_56 : decode cX12_sure 56 = .ok (.if_icmp .ne 20, 3) := by decide +kernel
theorem dX12_sure_59 : decode cX12_sure 59 = .ok (.iload 5, 2) := by decide +kernel
theorem dX12_sure_61 : decode cX12_sure 61 = .ok (.aload_n 0, 1) := by decide +kernel
theorem dX12_sure_62 : decode cX12_sure 62 = .ok (.getfield 392, 3) := by decide +kernel
theorem dX12_sure_65 : decode cX12_sure 65 = .ok (.if_icmp .ne 7, 3) := by decide +kernel
theorem dX12_sure_68 : decode cX12_sure 68 = .ok (.iconst (-1), 1) := by decide +kernel
theorem dX12_sure_69 : decode cX12_sure 69 = .ok (.goto 5, 3) := by decide +kernel
theorem dX12_sure_72 : decode cX12_sure 72 = .ok (.iload 5, 2) := by decide +kernel
theorem dX12_sure_74 : decode cX12_sure 74 = .ok (.istore 4, 2) := by decide +kernel
theorem dX12_sure_76 : decode cX12_sure 76 = .ok (.iinc 5 1, 3) := by decide +kernel
theorem dX12_sure_79 : decode cX12_sure 79 = .ok (.goto (-47), 3) := by decide +kernel
theorem dX12_sure_82 : decode cX12_sure 82 = .ok (.iload 4, 2) := by decide +kernel
theorem dX12_sure_84 : decode cX12_sure 84 = .ok (.ireturn, 1) := by decide +kernel
theorem dX12_leftBy_0 : decode cX12_leftBy 0 = .ok (.iconst 0, 1) := by decide +kernel
theorem dX12_leftBy_1 : decode cX12_leftBy 1 = .ok (.istore_n 2, 1) := by decide +kernel
theorem dX12_leftBy_2 : decode cX12_leftBy 2 = .ok (.iconst 0, 1) := by decide +kernel
theorem dX12_leftBy_3 : decode cX12_leftBy 3 = .ok (.istore_n 3, 1) := by decide +kernel
theorem dX12_leftBy_4 : decode cX12_leftBy 4 = .ok (.iload_n 3, 1) := by decide +kernel
theorem dX12_leftBy_5 : decode cX12_leftBy 5 = .ok (.aload_n 0, 1) := by decide +kernel
theorem dX12_leftBy_6 : decode cX12_leftBy 6 = .ok (.getfield 392, 3) := by decide +kernel
theorem dX12_leftBy_9 : decode cX12_leftBy 9 = .ok (.if_icmp .gt 40, 3) := by decide +kernel
theorem dX12_leftBy_12 : decode cX12_leftBy 12 = .ok (.aload_n 0, 1) := by decide +kernel
theorem dX12_leftBy_13 : decode cX12_leftBy 13 = .ok (.getfield 157, 3) := by decide +kernel
theorem dX12_leftBy_16 : decode cX12_leftBy 16 = .ok (.bipush 7, 2) := by decide +kernel
theorem dX12_leftBy_18 : decode cX12_leftBy 18 = .ok (.iload_n 1, 1) := by decide +kernel
theorem dX12_leftBy_19 : decode cX12_leftBy 19 = .ok (.imul, 1) := by decide +kernel
theorem dX12_leftBy_20 : decode cX12_leftBy 20 = .ok (.iload_n 3, 1) := by decide +kernel
theorem dX12_leftBy_21 : decode cX12_leftBy 21 = .ok (.iadd, 1) := by decide +kernel
theorem dX12_leftBy_22 : decode cX12_leftBy 22 = .ok (.iaload, 1) := by decide +kernel
theorem dX12_leftBy_23 : decode cX12_leftBy 23 = .ok (.iload_n 2, 1) := by decide +kernel
theorem dX12_leftBy_24 : decode cX12_leftBy 24 = .ok (.if_icmp .le 17, 3) := by decide +kernel
theorem dX12_leftBy_27 : decode cX12_leftBy 27 = .ok (.aload_n 0, 1) := by decide +kernel
theorem dX12_leftBy_28 : decode cX12_leftBy 28 = .ok (.getfield 157, 3) := by decide +kernel
theorem dX12_leftBy_31 : decode cX12_leftBy 31 = .ok (.bipush 7, 2) := by decide +kernel
theorem dX12_leftBy_33 : decode cX12_leftBy 33 = .ok (.iload_n 1, 1) := by decide +kernel
theorem dX12_leftBy_34 : decode cX12_leftBy 34 = .ok (.imul, 1) := by decide +kernel
theorem dX12_leftBy_35 : decode cX12_leftBy 35 = .ok (.iload_n 3, 1) := by decide +kernel
theorem dX12_leftBy_36 : decode cX12_leftBy 36 = .ok (.iadd, 1) := by decide +kernel
theorem dX12_leftBy_37 : decode cX12_leftBy 37 = .ok (.iaload, 1) := by decide +kernel
theorem dX12_leftBy_38 : decode cX12_leftBy 38 = .ok (.goto 4, 3) := by decide +kernel
theorem dX12_leftBy_41 : decode cX12_leftBy 41 = .ok (.iload_n 2, 1) := by decide +kernel
theorem dX12_leftBy_42 : decode cX12_leftBy 42 = .ok (.istore_n 2, 1) := by decide +kernel
theorem dX12_leftBy_43 : decode cX12_leftBy 43 = .ok (.iinc 3 1, 3) := by decide +kernel
theorem dX12_leftBy_46 : decode cX12_leftBy 46 = .ok (.goto (-42), 3) := by decide +kernel
theorem dX12_leftBy_49 : decode cX12_leftBy 49 = .ok (.iload_n 2, 1) := by decide +kernel
theorem dX12_leftBy_50 : decode cX12_leftBy 50 = .ok (.ireturn, 1) := by decide +kernel
theorem dX12_ask_0 : decode cX12_ask 0 = .ok (.iload_n 1, 1) := by decide +kernel
theorem dX12_ask_1 : decode cX12_ask 1 = .ok (.iconst 0, 1) := by decide +kernel
theorem dX12_ask_2 : decode cX12_ask 2 = .ok (.iconst 1, 1) := by decide +kernel
theorem dX12_ask_3 : decode cX12_ask 3 = .ok (.invokestatic 422, 3) := by decide +kernel
theorem dX12_ask_6 : decode cX12_ask 6 = .ok (.ifCond .eq 11, 3) := by decide +kernel
theorem dX12_ask_9 : decode cX12_ask 9 = .ok (.aload_n 0, 1) := by decide +kernel
theorem dX12_ask_10 : decode cX12_ask 10 = .ok (.iload_n 2, 1) := by decide +kernel
theorem dX12_ask_11 : decode cX12_ask 11 = .ok (.invokevirtual 538, 3) := by decide +kernel
theorem dX12_ask_14 : decode cX12_ask 14 = .ok (.ifCond .ne 5, 3) := by decide +kernel
theorem dX12_ask_17 : decode cX12_ask 17 = .ok (.iconst (-1), 1) := by decide +kernel
theorem dX12_ask_18 : decode cX12_ask 18 = .ok (.ireturn, 1) := by decide +kernel
theorem dX12_ask_19 : decode cX12_ask 19 = .ok (.iconst 0, 1) := by decide +kernel
theorem dX12_ask_20 : decode cX12_ask 20 = .ok (.istore_n 3, 1) := by decide +kernel
theorem dX12_ask_21 : decode cX12_ask 21 = .ok (.iconst 1, 1) := by decide +kernel
theorem dX12_ask_22 : decode cX12_ask 22 = .ok (.istore 4, 2) := by decide +kernel
theorem dX12_ask_24 : decode cX12_ask 24 = .ok (.iload 4, 2) := by decide +kernel
theorem dX12_ask_26 : decode cX12_ask 26 = .ok (.iconst 3, 1) := by decide +kernel
theorem dX12_ask_27 : decode cX12_ask 27 = .ok (.if_icmp .ge 30, 3) := by decide +kernel
theorem dX12_ask_30 : decode cX12_ask 30 = .ok (.aload_n 0, 1) := by decide +kernel
theorem dX12_ask_31 : decode cX12_ask 31 = .ok (.iload 4, 2) := by decide +kernel
theorem dX12_ask_33 : decode cX12_ask 33 = .ok (.invokevirtual 541, 3) := by decide +kernel
theorem dX12_ask_36 : decode cX12_ask 36 = .ok (.aload_n 0, 1) := by decide +kernel
theorem dX12_ask_37 : decode cX12_ask 37 = .ok (.iload_n 3, 1) := by decide +kernel
theorem dX12_ask_38 : decode cX12_ask 38 = .ok (.invokevirtual 541, 3) := by decide +kernel
theorem dX12_ask_41 : decode cX12_ask 41 = .ok (.if_icmp .ge 8, 3) := by decide +kernel
theorem dX12_ask_44 : decode cX12_ask 44 = .ok (.iload 4, 2) := by decide +kernel
theorem dX12_ask_46 : decode cX12_ask 46 = .ok (.goto 4, 3) := by decide +kernel
theorem dX12_ask_49 : decode cX12_ask 49 = .ok (.iload_n 3, 1) := by decide +kernel
theorem dX12_ask_50 : decode cX12_ask 50 = .ok (.istore_n 3, 1) := by decide +kernel
theorem dX12_ask_51 : decode cX12_ask 51 = .ok (.iinc 4 1, 3) := by decide +kernel
theorem dX12_ask_54 : decode cX12_ask 54 = .ok (.goto (-30), 3) := by decide +kernel
theorem dX12_ask_57 : decode cX12_ask 57 = .ok (.iload_n 1, 1) := by decide +kernel
theorem dX12_ask_58 : decode cX12_ask 58 = .ok (.ifCond .ne 9, 3) := by decide +kernel
theorem dX12_ask_61 : decode cX12_ask 61 = .ok (.iload_n 3, 1) := by decide +kernel
theorem dX12_ask_62 : decode cX12_ask 62 = .ok (.iconst 1, 1) := by decide +kernel
theorem dX12_ask_63 : decode cX12_ask 63 = .ok (.iadd, 1) := by decide +kernel
theorem dX12_ask_64 : decode cX12_ask 64 = .ok (.goto 8, 3) := by decide +kernel
theorem dX12_ask_67 : decode cX12_ask 67 = .ok (.aload_n 0, 1) := by decide +kernel
theorem dX12_ask_68 : decode cX12_ask 68 = .ok (.iload_n 3, 1) := by decide +kernel
theorem dX12_ask_69 : decode cX12_ask 69 = .ok (.invokevirtual 541, 3) := by decide +kernel
theorem dX12_ask_72 : decode cX12_ask 72 = .ok (.ireturn, 1) := by decide +kernel
theorem dX12_isBox_0 : decode cX12_isBox 0 = .ok (.iload_n 0, 1) := by decide +kernel
theorem dX12_isBox_1 : decode cX12_isBox 1 = .ok (.ifCond .lt 12, 3) := by decide +kernel
theorem dX12_isBox_4 : decode cX12_isBox 4 = .ok (.iload_n 0, 1) := by decide +kernel
theorem dX12_isBox_5 : decode cX12_isBox 5 = .ok (.iconst 3, 1) := by decide +kernel
theorem dX12_isBox_6 : decode cX12_isBox 6 = .ok (.if_icmp .ge 7, 3) := by decide +kernel
theorem dX12_isBox_9 : decode cX12_isBox 9 = .ok (.iconst 1, 1) := by decide +kernel
theorem dX12_isBox_10 : decode cX12_isBox 10 = .ok (.goto 4, 3) := by decide +kernel
theorem dX12_isBox_13 : decode cX12_isBox 13 = .ok (.iconst 0, 1) := by decide +kernel
theorem dX12_isBox_14 : decode cX12_isBox 14 = .ok (.ireturn, 1) := by decide +kernel
theorem dX12_image_0 : decode cX12_image 0 = .ok (.iload_n 1, 1) := by decide +kernel
theorem dX12_image_1 : decode cX12_image 1 = .ok (.invokestatic 544, 3) := by decide +kernel
theorem dX12_image_4 : decode cX12_image 4 = .ok (.ifCond .ne 5, 3) := by decide +kernel
theorem dX12_image_7 : decode cX12_image 7 = .ok (.iconst (-1), 1) := by decide +kernel
theorem dX12_image_8 : decode cX12_image 8 = .ok (.ireturn, 1) := by decide +kernel
theorem dX12_image_9 : decode cX12_image 9 = .ok (.aload_n 0, 1) := by decide +kernel
theorem dX12_image_10 : decode cX12_image 10 = .ok (.getfield 160, 3) := by decide +kernel
theorem dX12_image_13 : decode cX12_image 13 = .ok (.iload_n 1, 1) := by decide +kernel
theorem dX12_image_14 : decode cX12_image 14 = .ok (.iconst 1, 1) := by decide +kernel
theorem dX12_image_15 : decode cX12_image 15 = .ok (.bastore, 1) := by decide +kernel
theorem dX12_image_16 : decode cX12_image 16 = .ok (.iconst 0, 1) := by decide +kernel
theorem dX12_image_17 : decode cX12_image 17 = .ok (.istore_n 2, 1) := by decide +kernel
theorem dX12_image_18 : decode cX12_image 18 = .ok (.iload_n 2, 1) := by decide +kernel
theorem dX12_image_19 : decode cX12_image 19 = .ok (.bipush 22, 2) := by decide +kernel
theorem dX12_image_21 : decode cX12_image 21 = .ok (.if_icmp .ge 26, 3) := by decide +kernel
theorem dX12_image_24 : decode cX12_image 24 = .ok (.aload_n 0, 1) := by decide +kernel
theorem dX12_image_25 : decode cX12_image 25 = .ok (.getfield 163, 3) := by decide +kernel
theorem dX12_image_28 : decode cX12_image 28 = .ok (.bipush 22, 2) := by decide +kernel
theorem dX12_image_30 : decode cX12_image 30 = .ok (.iload_n 1, 1) := by decide +kernel
theorem dX12_image_31 : decode cX12_image 31 = .ok (.imul, 1) := by decide +kernel
theorem dX12_image_32 : decode cX12_image 32 = .ok (.iload_n 2, 1) := by decide +kernel
theorem dX12_image_33 : decode cX12_image 33 = .ok (.iadd, 1) := by decide +kernel
theorem dX12_image_34 : decode cX12_image 34 = .ok (.aload_n 0, 1) := by decide +kernel
theorem dX12_image_35 : decode cX12_image 35 = .ok (.getfield 103, 3) := by decide +kernel
theorem dX12_image_38 : decode cX12_image 38 = .ok (.iload_n 2, 1) := by decide +kernel
theorem dX12_image_39 : decode cX12_image 39 = .ok (.iaload, 1) := by decide +kernel
theorem dX12_image_40 : decode cX12_image 40 = .ok (.iastore, 1) := by decide +kernel
theorem dX12_image_41 : decode cX12_image 41 = .ok (.iinc 2 1, 3) := by decide +kernel
theorem dX12_image_44 : decode cX12_image 44 = .ok (.goto (-26), 3) := by decide +kernel
theorem dX12_image_47 : decode cX12_image 47 = .ok (.aload_n 0, 1) := by decide +kernel
theorem dX12_image_48 : decode cX12_image 48 = .ok (.getfield 103, 3) := by decide +kernel
theorem dX12_image_51 : decode cX12_image 51 = .ok (.bipush 20, 2) := by decide +kernel
theorem dX12_image_53 : decode cX12_image 53 = .ok (.iaload, 1) := by decide +kernel
theorem dX12_image_54 : decode cX12_image 54 = .ok (.ireturn, 1) := by decide +kernel
theorem dX12_back_0 : decode cX12_back 0 = .ok (.iload_n 1, 1) := by decide +kernel
theorem dX12_back_1 : decode cX12_back 1 = .ok (.invokestatic 544, 3) := by decide +kernel
theorem dX12_back_4 : decode cX12_back 4 = .ok (.ifCond .eq 12, 3) := by decide +kernel
theorem dX12_back_7 : decode cX12_back 7 = .ok (.aload_n 0, 1) := by decide +kernel
theorem dX12_back_8 : decode cX12_back 8 = .ok (.getfield 160, 3) := by decide +kernel
theorem dX12_back_11 : decode cX12_back 11 = .ok (.iload_n 1, 1) := by decide +kernel
theorem dX12_back_12 : decode cX12_back 12 = .ok (.baload, 1) := by decide +kernel
theorem dX12_back_13 : decode cX12_back 13 = .ok (.ifCond .ne 5, 3) := by decide +kernel
theorem dX12_back_16 : decode cX12_back 16 = .ok (.iconst (-1), 1) := by decide +kernel
theorem dX12_back_17 : decode cX12_back 17 = .ok (.ireturn, 1) := by decide +kernel
theorem dX12_back_18 : decode cX12_back 18 = .ok (.iconst 0, 1) := by decide +kernel
theorem dX12_back_19 : decode cX12_back 19 = .ok (.istore_n 2, 1) := by decide +kernel
theorem dX12_back_20 : decode cX12_back 20 = .ok (.iload_n 2, 1) := by decide +kernel
theorem dX12_back_21 : decode cX12_back 21 = .ok (.bipush 22, 2) := by decide +kernel
theorem dX12_back_23 : decode cX12_back 23 = .ok (.if_icmp .ge 26, 3) := by decide +kernel
theorem dX12_back_26 : decode cX12_back 26 = .ok (.aload_n 0, 1) := by decide +kernel
theorem dX12_back_27 : decode cX12_back 27 = .ok (.getfield 103, 3) := by decide +kernel
theorem dX12_back_30 : decode cX12_back 30 = .ok (.iload_n 2, 1) := by decide +kernel
theorem dX12_back_31 : decode cX12_back 31 = .ok (.aload_n 0, 1) := by decide +kernel
theorem dX12_back_32 : decode cX12_back 32 = .ok (.getfield 163, 3) := by decide +kernel
theorem dX12_back_35 : decode cX12_back 35 = .ok (.bipush 22, 2) := by decide +kernel
theorem dX12_back_37 : decode cX12_back 37 = .ok (.iload_n 1, 1) := by decide +kernel
theorem dX12_back_38 : decode cX12_back 38 = .ok (.imul, 1) := by decide +kernel
theorem dX12_back_39 : decode cX12_back 39 = .ok (.iload_n 2, 1) := by decide +kernel
theorem dX12_back_40 : decode cX12_back 40 = .ok (.iadd, 1) := by decide +kernel
theorem dX12_back_41 : decode cX12_back 41 = .ok (.iaload, 1) := by decide +kernel
theorem dX12_back_42 : decode cX12_back 42 = .ok (.iastore, 1) := by decide +kernel
theorem dX12_back_43 : decode cX12_back 43 = .ok (.iinc 2 1, 3) := by decide +kernel
theorem dX12_back_46 : decode cX12_back 46 = .ok (.goto (-26), 3) := by decide +kernel
theorem dX12_back_49 : decode cX12_back 49 = .ok (.aload_n 0, 1) := by decide +kernel
theorem dX12_back_50 : decode cX12_back 50 = .ok (.iconst 0, 1) := by decide +kernel
theorem dX12_back_51 : decode cX12_back 51 = .ok (.putfield 410, 3) := by decide +kernel
theorem dX12_back_54 : decode cX12_back 54 = .ok (.aload_n 0, 1) := by decide +kernel
theorem dX12_back_55 : decode cX12_back 55 = .ok (.iconst 0, 1) := by decide +kernel
theorem dX12_back_56 : decode cX12_back 56 = .ok (.putfield 413, 3) := by decide +kernel
theorem dX12_back_59 : decode cX12_back 59 = .ok (.aload_n 0, 1) := by decide +kernel
theorem dX12_back_60 : decode cX12_back 60 = .ok (.getfield 103, 3) := by decide +kernel
theorem dX12_back_63 : decode cX12_back 63 = .ok (.bipush 20, 2) := by decide +kernel
theorem dX12_back_65 : decode cX12_back 65 = .ok (.iaload, 1) := by decide +kernel
theorem dX12_back_66 : decode cX12_back 66 = .ok (.ireturn, 1) := by decide +kernel
theorem dX12_about_0 : decode cX12_about 0 = .ok (.iload_n 1, 1) := by decide +kernel
theorem dX12_about_1 : decode cX12_about 1 = .ok (.tableswitch 138 0 12 #[67, 72, 77, 82, 87, 95, 103, 108, 113, 118, 123, 128, 133], 67) := by decide +kernel
theorem dX12_about_68 : decode cX12_about 68 = .ok (.aload_n 0, 1) := by decide +kernel
theorem dX12_about_69 : decode cX12_about 69 = .ok (.getfield 395, 3) := by decide +kernel
theorem dX12_about_72 : decode cX12_about 72 = .ok (.ireturn, 1) := by decide +kernel
theorem dX12_about_73 : decode cX12_about 73 = .ok (.aload_n 0, 1) := by decide +kernel
theorem dX12_about_74 : decode cX12_about 74 = .ok (.getfield 392, 3) := by decide +kernel
theorem dX12_about_77 : decode cX12_about 77 = .ok (.ireturn, 1) := by decide +kernel
theorem dX12_about_78 : decode cX12_about 78 = .ok (.aload_n 0, 1) := by decide +kernel
theorem dX12_about_79 : decode cX12_about 79 = .ok (.getfield 100, 3) := by decide +kernel
theorem dX12_about_82 : decode cX12_about 82 = .ok (.ireturn, 1) := by decide +kernel
theorem dX12_about_83 : decode cX12_about 83 = .ok (.aload_n 0, 1) := by decide +kernel
theorem dX12_about_84 : decode cX12_about 84 = .ok (.getfield 398, 3) := by decide +kernel
theorem dX12_about_87 : decode cX12_about 87 = .ok (.ireturn, 1) := by decide +kernel
theorem dX12_about_88 : decode cX12_about 88 = .ok (.aload_n 0, 1) := by decide +kernel
theorem dX12_about_89 : decode cX12_about 89 = .ok (.getfield 103, 3) := by decide +kernel
theorem dX12_about_92 : decode cX12_about 92 = .ok (.bipush 20, 2) := by decide +kernel
theorem dX12_about_94 : decode cX12_about 94 = .ok (.iaload, 1) := by decide +kernel
theorem dX12_about_95 : decode cX12_about 95 = .ok (.ireturn, 1) := by decide +kernel
theorem dX12_about_96 : decode cX12_about 96 = .ok (.aload_n 0, 1) := by decide +kernel
theorem dX12_about_97 : decode cX12_about 97 = .ok (.getfield 103, 3) := by decide +kernel
theorem dX12_about_100 : decode cX12_about 100 = .ok (.bipush 21, 2) := by decide +kernel
theorem dX12_about_102 : decode cX12_about 102 = .ok (.iaload, 1) := by decide +kernel
theorem dX12_about_103 : decode cX12_about 103 = .ok (.ireturn, 1) := by decide +kernel
theorem dX12_about_104 : decode cX12_about 104 = .ok (.aload_n 0, 1) := by decide +kernel
theorem dX12_about_105 : decode cX12_about 105 = .ok (.getfield 410, 3) := by decide +kernel
theorem dX12_about_108 : decode cX12_about 108 = .ok (.ireturn, 1) := by decide +kernel
theorem dX12_about_109 : decode cX12_about 109 = .ok (.aload_n 0, 1) := by decide +kernel
theorem dX12_about_110 : decode cX12_about 110 = .ok (.getfield 413, 3) := by decide +kernel
theorem dX12_about_113 : decode cX12_about 113 = .ok (.ireturn, 1) := by decide +kernel
theorem dX12_about_114 : decode cX12_about 114 = .ok (.aload_n 0, 1) := by decide +kernel
theorem dX12_about_115 : decode cX12_about 115 = .ok (.getfield 416, 3) := by decide +kernel
theorem dX12_about_118 : decode cX12_about 118 = .ok (.ireturn, 1) := by decide +kernel
theorem dX12_about_119 : decode cX12_about 119 = .ok (.aload_n 0, 1) := by decide +kernel
theorem dX12_about_120 : decode cX12_about 120 = .ok (.getfield 527, 3) := by decide +kernel
theorem dX12_about_123 : decode cX12_about 123 = .ok (.ireturn, 1) := by decide +kernel
theorem dX12_about_124 : decode cX12_about 124 = .ok (.aload_n 0, 1) := by decide +kernel
theorem dX12_about_125 : decode cX12_about 125 = .ok (.getfield 166, 3) := by decide +kernel
theorem dX12_about_128 : decode cX12_about 128 = .ok (.ireturn, 1) := by decide +kernel
theorem dX12_about_129 : decode cX12_about 129 = .ok (.aload_n 0, 1) := by decide +kernel
theorem dX12_about_130 : decode cX12_about 130 = .ok (.getfield 401, 3) := by decide +kernel
theorem dX12_about_133 : decode cX12_about 133 = .ok (.ireturn, 1) := by decide +kernel
theorem dX12_about_134 : decode cX12_about 134 = .ok (.aload_n 0, 1) := by decide +kernel
theorem dX12_about_135 : decode cX12_about 135 = .ok (.getfield 419, 3) := by decide +kernel
theorem dX12_about_138 : decode cX12_about 138 = .ok (.ireturn, 1) := by decide +kernel
theorem dX12_about_139 : decode cX12_about 139 = .ok (.iconst (-1), 1) := by decide +kernel
theorem dX12_about_140 : decode cX12_about 140 = .ok (.ireturn, 1) := by decide +kernel
