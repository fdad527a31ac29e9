theorem d_L_law_0 : decode code 0 = .ok (.new 8, 3) := by decide +kernel
theorem d_L_law_3 : decode code 3 = .ok (.dup, 1) := by decide +kernel
theorem d_L_law_4 : decode code 4 = .ok (.aload_n 0, 1) := by decide +kernel
theorem d_L_law_5 : decode code 5 = .ok (.iconst 0, 1) := by decide +kernel
theorem d_L_law_6 : decode code 6 = .ok (.invokestatic 47, 3) := by decide +kernel
theorem d_L_law_9 : decode code 9 = .ok (.invokespecial 53, 3) := by decide +kernel
theorem d_L_law_12 : decode code 12 = .ok (.astore_n 1, 1) := by decide +kernel
theorem d_L_law_13 : decode code 13 = .ok (.new 56, 3) := by decide +kernel
theorem d_L_law_16 : decode code 16 = .ok (.dup, 1) := by decide +kernel
theorem d_L_law_17 : decode code 17 = .ok (.aload_n 0, 1) := by decide +kernel
theorem d_L_law_18 : decode code 18 = .ok (.iconst 0, 1) := by decide +kernel
theorem d_L_law_19 : decode code 19 = .ok (.invokestatic 47, 3) := by decide +kernel
theorem d_L_law_22 : decode code 22 = .ok (.invokespecial 58, 3) := by decide +kernel
theorem d_L_law_25 : decode code 25 = .ok (.astore_n 2, 1) := by decide +kernel
theorem d_L_law_26 : decode code 26 = .ok (.iconst 1, 1) := by decide +kernel
theorem d_L_law_27 : decode code 27 = .ok (.newarray .long, 2) := by decide +kernel
theorem d_L_law_29 : decode code 29 = .ok (.astore_n 3, 1) := by decide +kernel
theorem d_L_law_30 : decode code 30 = .ok (.iconst 1, 1) := by decide +kernel
theorem d_L_law_31 : decode code 31 = .ok (.istore 4, 2) := by decide +kernel
theorem d_L_law_33 : decode code 33 = .ok (.iload 4, 2) := by decide +kernel
theorem d_L_law_35 : decode code 35 = .ok (.aload_n 0, 1) := by decide +kernel
theorem d_L_law_36 : decode code 36 = .ok (.arraylength, 1) := by decide +kernel
theorem d_L_law_37 : decode code 37 = .ok (.iconst 5, 1) := by decide +kernel
theorem d_L_law_38 : decode code 38 = .ok (.isub, 1) := by decide +kernel
theorem d_L_law_39 : decode code 39 = .ok (.if_icmp .gt 891, 3) := by decide +kernel
theorem d_L_law_42 : decode code 42 = .ok (.aload_n 0, 1) := by decide +kernel
theorem d_L_law_43 : decode code 43 = .ok (.iload 4, 2) := by decide +kernel
theorem d_L_law_45 : decode code 45 = .ok (.iaload, 1) := by decide +kernel
theorem d_L_law_46 : decode code 46 = .ok (.bipush 15, 2) := by decide +kernel
theorem d_L_law_48 : decode code 48 = .ok (.iand, 1) := by decide +kernel
theorem d_L_law_49 : decode code 49 = .ok (.tableswitch 875 0 15 #[79, 140, 153, 221, 246, 259, 327, 399, 455, 523, 549, 586, 658, 726, 782, 807], 79) := by decide +kernel
theorem d_L_law_128 : decode code 128 = .ok (.aload_n 1, 1) := by decide +kernel
theorem d_L_law_129 : decode code 129 = .ok (.aload_n 0, 1) := by decide +kernel
theorem d_L_law_130 : decode code 130 = .ok (.iload 4, 2) := by decide +kernel
theorem d_L_law_132 : decode code 132 = .ok (.iconst 1, 1) := by decide +kernel
theorem d_L_law_133 : decode code 133 = .ok (.iadd, 1) := by decide +kernel
theorem d_L_law_134 : decode code 134 = .ok (.iaload, 1) := by decide +kernel
theorem d_L_law_135 : decode code 135 = .ok (.aload_n 0, 1) := by decide +kernel
theorem d_L_law_136 : decode code 136 = .ok (.iload 4, 2) := by decide +kernel
theorem d_L_law_138 : decode code 138 = .ok (.iconst 2, 1) := by decide +kernel
theorem d_L_law_139 : decode code 139 = .ok (.iadd, 1) := by decide +kernel
theorem d_L_law_140 : decode code 140 = .ok (.iaload, 1) := by decide +kernel
theorem d_L_law_141 : decode code 141 = .ok (.aload_n 0, 1) := by decide +kernel
theorem d_L_law_142 : decode code 142 = .ok (.iload 4, 2) := by decide +kernel
theorem d_L_law_144 : decode code 144 = .ok (.iconst 3, 1) := by decide +kernel
theorem d_L_law_145 : decode code 145 = .ok (.iadd, 1) := by decide +kernel
theorem d_L_law_146 : decode code 146 = .ok (.iaload, 1) := by decide +kernel
theorem d_L_law_147 : decode code 147 = .ok (.aload_n 0, 1) := by decide +kernel
theorem d_L_law_148 : decode code 148 = .ok (.iload 4, 2) := by decide +kernel
theorem d_L_law_150 : decode code 150 = .ok (.iconst 4, 1) := by decide +kernel
theorem d_L_law_151 : decode code 151 = .ok (.iadd, 1) := by decide +kernel
theorem d_L_law_152 : decode code 152 = .ok (.iaload, 1) := by decide +kernel
theorem d_L_law_153 : decode code 153 = .ok (.invokevirtual 59, 3) := by decide +kernel
theorem d_L_law_156 : decode code 156 = .ok (.aload_n 2, 1) := by decide +kernel
theorem d_L_law_157 : decode code 157 = .ok (.aload_n 0, 1) := by decide +kernel
theorem d_L_law_158 : decode code 158 = .ok (.iload 4, 2) := by decide +kernel
theorem d_L_law_160 : decode code 160 = .ok (.iconst 1, 1) := by decide +kernel
theorem d_L_law_161 : decode code 161 = .ok (.iadd, 1) := by decide +kernel
theorem d_L_law_162 : decode code 162 = .ok (.iaload, 1) := by decide +kernel
theorem d_L_law_163 : decode code 163 = .ok (.aload_n 0, 1) := by decide +kernel
theorem d_L_law_164 : decode code 164 = .ok (.iload 4, 2) := by decide +kernel
theorem d_L_law_166 : decode code 166 = .ok (.iconst 2, 1) := by decide +kernel
theorem d_L_law_167 : decode code 167 = .ok (.iadd, 1) := by decide +kernel
theorem d_L_law_168 : decode code 168 = .ok (.iaload, 1) := by decide +kernel
theorem d_L_law_169 : decode code 169 = .ok (.aload_n 0, 1) := by decide +kernel
theorem d_L_law_170 : decode code 170 = .ok (.iload 4, 2) := by decide +kernel
theorem d_L_law_172 : decode code 172 = .ok (.iconst 3, 1) := by decide +kernel
theorem d_L_law_173 : decode code 173 = .ok (.iadd, 1) := by decide +kernel
theorem d_L_law_174 : decode code 174 = .ok (.iaload, 1) := by decide +kernel
theorem d_L_law_175 : decode code 175 = .ok (.aload_n 0, 1) := by decide +kernel
theorem d_L_law_176 : decode code 176 = .ok (.iload 4, 2) := by decide +kernel
theorem d_L_law_178 : decode code 178 = .ok (.iconst 4, 1) := by decide +kernel
theorem d_L_law_179 : decode code 179 = .ok (.iadd, 1) := by decide +kernel
theorem d_L_law_180 : decode code 180 = .ok (.iaload, 1) := by decide +kernel
theorem d_L_law_181 : decode code 181 = .ok (.invokevirtual 63, 3) := by decide +kernel
theorem d_L_law_184 : decode code 184 = .ok (.if_icmp .eq 740, 3) := by decide +kernel
theorem d_L_law_187 : decode code 187 = .ok (.iconst 0, 1) := by decide +kernel
theorem d_L_law_188 : decode code 188 = .ok (.ireturn, 1) := by decide +kernel
theorem d_L_law_189 : decode code 189 = .ok (.aload_n 1, 1) := by decide +kernel
theorem d_L_law_190 : decode code 190 = .ok (.invokevirtual 64, 3) := by decide +kernel
theorem d_L_law_193 : decode code 193 = .ok (.aload_n 2, 1) := by decide +kernel
theorem d_L_law_194 : decode code 194 = .ok (.invokevirtual 68, 3) := by decide +kernel
theorem d_L_law_197 : decode code 197 = .ok (.if_icmp .eq 727, 3) := by decide +kernel
theorem d_L_law_200 : decode code 200 = .ok (.iconst 0, 1) := by decide +kernel
theorem d_L_law_201 : decode code 201 = .ok (.ireturn, 1) := by decide +kernel
theorem d_L_law_202 : decode code 202 = .ok (.aload_n 1, 1) := by decide +kernel
theorem d_L_law_203 : decode code 203 = .ok (.aload_n 0, 1) := by decide +kernel
theorem d_L_law_204 : decode code 204 = .ok (.iload 4, 2) := by decide +kernel
theorem d_L_law_206 : decode code 206 = .ok (.iconst 1, 1) := by decide +kernel
theorem d_L_law_207 : decode code 207 = .ok (.iadd, 1) := by decide +kernel
theorem d_L_law_208 : decode code 208 = .ok (.iaload, 1) := by decide +kernel
theorem d_L_law_209 : decode code 209 = .ok (.aload_n 0, 1) := by decide +kernel
theorem d_L_law_210 : decode code 210 = .ok (.iload 4, 2) := by decide +kernel
theorem d_L_law_212 : decode code 212 = .ok (.iconst 2, 1) := by decide +kernel
theorem d_L_law_213 : decode code 213 = .ok (.iadd, 1) := by decide +kernel
theorem d_L_law_214 : decode code 214 = .ok (.iaload, 1) := by decide +kernel
theorem d_L_law_215 : decode code 215 = .ok (.aload_n 3, 1) := by decide +kernel
theorem d_L_law_216 : decode code 216 = .ok (.invokestatic 69, 3) := by decide +kernel
theorem d_L_law_219 : decode code 219 = .ok (.istore 5, 2) := by decide +kernel
theorem d_L_law_221 : decode code 221 = .ok (.aload_n 2, 1) := by decide +kernel
theorem d_L_law_222 : decode code 222 = .ok (.aload_n 0, 1) := by decide +kernel
theorem d_L_law_223 : decode code 223 = .ok (.iload 4, 2) := by decide +kernel
theorem d_L_law_225 : decode code 225 = .ok (.iconst 1, 1) := by decide +kernel
theorem d_L_law_226 : decode code 226 = .ok (.iadd, 1) := by decide +kernel
theorem d_L_law_227 : decode code 227 = .ok (.iaload, 1) := by decide +kernel
theorem d_L_law_228 : decode code 228 = .ok (.aload_n 0, 1) := by decide +kernel
theorem d_L_law_229 : decode code 229 = .ok (.iload 4, 2) := by decide +kernel
theorem d_L_law_231 : decode code 231 = .ok (.iconst 2, 1) := by decide +kernel
theorem d_L_law_232 : decode code 232 = .ok (.iadd, 1) := by decide +kernel
theorem d_L_law_233 : decode code 233 = .ok (.iaload, 1) := by decide +kernel
theorem d_L_law_234 : decode code 234 = .ok (.invokevirtual 72, 3) := by decide +kernel
theorem d_L_law_237 : decode code 237 = .ok (.istore 6, 2) := by decide +kernel
theorem d_L_law_239 : decode code 239 = .ok (.aload_n 2, 1) := by decide +kernel
theorem d_L_law_240 : decode code 240 = .ok (.invokevirtual 73, 3) := by decide +kernel
theorem d_L_law_243 : decode code 243 = .ok (.iload 5, 2) := by decide +kernel
theorem d_L_law_245 : decode code 245 = .ok (.if_icmp .eq 5, 3) := by decide +kernel
theorem d_L_law_248 : decode code 248 = .ok (.iconst 0, 1) := by decide +kernel
theorem d_L_law_249 : decode code 249 = .ok (.ireturn, 1) := by decide +kernel
theorem d_L_law_250 : decode code 250 = .ok (.iload 5, 2) := by decide +kernel
theorem d_L_law_252 : decode code 252 = .ok (.ifCond .ne 15, 3) := by decide +kernel
theorem d_L_law_255 : decode code 255 = .ok (.aload_n 3, 1) := by decide +kernel
theorem d_L_law_256 : decode code 256 = .ok (.iconst 0, 1) := by decide +kernel
theorem d_L_law_257 : decode code 257 = .ok (.laload, 1) := by decide +kernel
theorem d_L_law_258 : decode code 258 = .ok (.iload 6, 2) := by decide +kernel
theorem d_L_law_260 : decode code 260 = .ok (.i2l, 1) := by decide +kernel
theorem d_L_law_261 : decode code 261 = .ok (.lcmp, 1) := by decide +kernel
theorem d_L_law_262 : decode code 262 = .ok (.ifCond .eq 5, 3) := by decide +kernel
theorem d_L_law_265 : decode code 265 = .ok (.iconst 0, 1) := by decide +kernel
theorem d_L_law_266 : decode code 266 = .ok (.ireturn, 1) := by decide +kernel
theorem d_L_law_267 : decode code 267 = .ok (.goto 657, 3) := by decide +kernel
theorem d_L_law_270 : decode code 270 = .ok (.aload_n 1, 1) := by decide +kernel
theorem d_L_law_271 : decode code 271 = .ok (.aload_n 0, 1) := by decide +kernel
theorem d_L_law_272 : decode code 272 = .ok (.iload 4, 2) := by decide +kernel
theorem d_L_law_274 : decode code 274 = .ok (.iconst 1, 1) := by decide +kernel
theorem d_L_law_275 : decode code 275 = .ok (.iadd, 1) := by decide +kernel
theorem d_L_law_276 : decode code 276 = .ok (.iaload, 1) := by decide +kernel
theorem d_L_law_277 : decode code 277 = .ok (.invokevirtual 76, 3) := by decide +kernel
theorem d_L_law_280 : decode code 280 = .ok (.aload_n 2, 1) := by decide +kernel
theorem d_L_law_281 : decode code 281 = .ok (.aload_n 0, 1) := by decide +kernel
theorem d_L_law_282 : decode code 282 = .ok (.iload 4, 2) := by decide +kernel
theorem d_L_law_284 : decode code 284 = .ok (.iconst 1, 1) := by decide +kernel
theorem d_L_law_285 : decode code 285 = .ok (.iadd, 1) := by decide +kernel
theorem d_L_law_286 : decode code 286 = .ok (.iaload, 1) := by decide +kernel
theorem d_L_law_287 : decode code 287 = .ok (.invokevirtual 79, 3) := by decide +kernel
theorem d_L_law_290 : decode code 290 = .ok (.if_icmp .eq 634, 3) := by decide +kernel
theorem d_L_law_293 : decode code 293 = .ok (.iconst 0, 1) := by decide +kernel
theorem d_L_law_294 : decode code 294 = .ok (.ireturn, 1) := by decide +kernel
theorem d_L_law_295 : decode code 295 = .ok (.aload_n 1, 1) := by decide +kernel
theorem d_L_law_296 : decode code 296 = .ok (.invokevirtual 80, 3) := by decide +kernel
theorem d_L_law_299 : decode code 299 = .ok (.aload_n 2, 1) := by decide +kernel
theorem d_L_law_300 : decode code 300 = .ok (.invokevirtual 83, 3) := by decide +kernel
theorem d_L_law_303 : decode code 303 = .ok (.if_icmp .eq 621, 3) := by decide +kernel
theorem d_L_law_306 : decode code 306 = .ok (.iconst 0, 1) := by decide +kernel
theorem d_L_law_307 : decode code 307 = .ok (.ireturn, 1) := by decide +kernel
theorem d_L_law_308 : decode code 308 = .ok (.aload_n 1, 1) := by decide +kernel
theorem d_L_law_309 : decode code 309 = .ok (.aload_n 0, 1) := by decide +kernel
theorem d_L_law_310 : decode code 310 = .ok (.iload 4, 2) := by decide +kernel
theorem d_L_law_312 : decode code 312 = .ok (.iconst 1, 1) := by decide +kernel
theorem d_L_law_313 : decode code 313 = .ok (.iadd, 1) := by decide +kernel
theorem d_L_law_314 : decode code 314 = .ok (.iaload, 1) := by decide +kernel
theorem d_L_law_315 : decode code 315 = .ok (.aload_n 0, 1) := by decide +kernel
theorem d_L_law_316 : decode code 316 = .ok (.iload 4, 2) := by decide +kernel
theorem d_L_law_318 : decode code 318 = .ok (.iconst 2, 1) := by decide +kernel
theorem d_L_law_319 : decode code 319 = .ok (.iadd, 1) := by decide +kernel
theorem d_L_law_320 : decode code 320 = .ok (.iaload, 1) := by decide +kernel
theorem d_L_law_321 : decode code 321 = .ok (.aload_n 3, 1) := by decide +kernel
theorem d_L_law_322 : decode code 322 = .ok (.invokestatic 84, 3) := by decide +kernel
theorem d_L_law_325 : decode code 325 = .ok (.istore 5, 2) := by decide +kernel
theorem d_L_law_327 : decode code 327 = .ok (.aload_n 2, 1) := by decide +kernel
theorem d_L_law_328 : decode code 328 = .ok (.aload_n 0, 1) := by decide +kernel
theorem d_L_law_329 : decode code 329 = .ok (.iload 4, 2) := by decide +kernel
theorem d_L_law_331 : decode code 331 = .ok (.iconst 1, 1) := by decide +kernel
theorem d_L_law_332 : decode code 332 = .ok (.iadd, 1) := by decide +kernel
theorem d_L_law_333 : decode code 333 = .ok (.iaload, 1) := by decide +kernel
theorem d_L_law_334 : decode code 334 = .ok (.aload_n 0, 1) := by decide +kernel
theorem d_L_law_335 : decode code 335 = .ok (.iload 4, 2) := by decide +kernel
theorem d_L_law_337 : decode code 337 = .ok (.iconst 2, 1) := by decide +kernel
theorem d_L_law_338 : decode code 338 = .ok (.iadd, 1) := by decide +kernel
theorem d_L_law_339 : decode code 339 = .ok (.iaload, 1) := by decide +kernel
theorem d_L_law_340 : decode code 340 = .ok (.invokevirtual 86, 3) := by decide +kernel
theorem d_L_law_343 : decode code 343 = .ok (.istore 6, 2) := by decide +kernel
theorem d_L_law_345 : decode code 345 = .ok (.aload_n 2, 1) := by decide +kernel
theorem d_L_law_346 : decode code 346 = .ok (.invokevirtual 73, 3) := by decide +kernel
theorem d_L_law_349 : decode code 349 = .ok (.iload 5, 2) := by decide +kernel
theorem d_L_law_351 : decode code 351 = .ok (.if_icmp .eq 5, 3) := by decide +kernel
theorem d_L_law_354 : decode code 354 = .ok (.iconst 0, 1) := by decide +kernel
theorem d_L_law_355 : decode code 355 = .ok (.ireturn, 1) := by decide +kernel
theorem d_L_law_356 : decode code 356 = .ok (.iload 5, 2) := by decide +kernel
theorem d_L_law_358 : decode code 358 = .ok (.ifCond .ne 15, 3) := by decide +kernel
theorem d_L_law_361 : decode code 361 = .ok (.aload_n 3, 1) := by decide +kernel
theorem d_L_law_362 : decode code 362 = .ok (.iconst 0, 1) := by decide +kernel
theorem d_L_law_363 : decode code 363 = .ok (.laload, 1) := by decide +kernel
theorem d_L_law_364 : decode code 364 = .ok (.iload 6, 2) := by decide +kernel
theorem d_L_law_366 : decode code 366 = .ok (.i2l, 1) := by decide +kernel
theorem d_L_law_367 : decode code 367 = .ok (.lcmp, 1) := by decide +kernel
theorem d_L_law_368 : decode code 368 = .ok (.ifCond .eq 5, 3) := by decide +kernel
theorem d_L_law_371 : decode code 371 = .ok (.iconst 0, 1) := by decide +kernel
theorem d_L_law_372 : decode code 372 = .ok (.ireturn, 1) := by decide +kernel
theorem d_L_law_373 : decode code 373 = .ok (.goto 551, 3) := by decide +kernel
theorem d_L_law_376 : decode code 376 = .ok (.aload_n 1, 1) := by decide +kernel
theorem d_L_law_377 : decode code 377 = .ok (.aload_n 0, 1) := by decide +kernel
theorem d_L_law_378 : decode code 378 = .ok (.iload 4, 2) := by decide +kernel
theorem d_L_law_380 : decode code 380 = .ok (.iconst 1, 1) := by decide +kernel
theorem d_L_law_381 : decode code 381 = .ok (.iadd, 1) := by decide +kernel
theorem d_L_law_382 : decode code 382 = .ok (.iaload, 1) := by decide +kernel
theorem d_L_law_383 : decode code 383 = .ok (.aload_n 0, 1) := by decide +kernel
theorem d_L_law_384 : decode code 384 = .ok (.iload 4, 2) := by decide +kernel
theorem d_L_law_386 : decode code 386 = .ok (.iconst 2, 1) := by decide +kernel
theorem d_L_law_387 : decode code 387 = .ok (.iadd, 1) := by decide +kernel
theorem d_L_law_388 : decode code 388 = .ok (.iaload, 1) := by decide +kernel
theorem d_L_law_389 : decode code 389 = .ok (.aload_n 0, 1) := by decide +kernel
theorem d_L_law_390 : decode code 390 = .ok (.iload 4, 2) := by decide +kernel
theorem d_L_law_392 : decode code 392 = .ok (.iconst 3, 1) := by decide +kernel
theorem d_L_law_393 : decode code 393 = .ok (.iadd, 1) := by decide +kernel
theorem d_L_law_394 : decode code 394 = .ok (.iaload, 1) := by decide +kernel
theorem d_L_law_395 : decode code 395 = .ok (.aload_n 0, 1) := by decide +kernel
theorem d_L_law_396 : decode code 396 = .ok (.iload 4, 2) := by decide +kernel
theorem d_L_law_398 : decode code 398 = .ok (.iconst 4, 1) := by decide +kernel
theorem d_L_law_399 : decode code 399 = .ok (.iadd, 1) := by decide +kernel
theorem d_L_law_400 : decode code 400 = .ok (.iaload, 1) := by decide +kernel
theorem d_L_law_401 : decode code 401 = .ok (.invokestatic 87, 3) := by decide +kernel
theorem d_L_law_404 : decode code 404 = .ok (.istore 5, 2) := by decide +kernel
theorem d_L_law_406 : decode code 406 = .ok (.aload_n 2, 1) := by decide +kernel
theorem d_L_law_407 : decode code 407 = .ok (.aload_n 0, 1) := by decide +kernel
theorem d_L_law_408 : decode code 408 = .ok (.iload 4, 2) := by decide +kernel
theorem d_L_law_410 : decode code 410 = .ok (.iconst 1, 1) := by decide +kernel
theorem d_L_law_411 : decode code 411 = .ok (.iadd, 1) := by decide +kernel
theorem d_L_law_412 : decode code 412 = .ok (.iaload, 1) := by decide +kernel
theorem d_L_law_413 : decode code 413 = .ok (.aload_n 0, 1) := by decide +kernel
theorem d_L_law_414 : decode code 414 = .ok (.iload 4, 2) := by decide +kernel
theorem d_L_law_416 : decode code 416 = .ok (.iconst 2, 1) := by decide +kernel
theorem d_L_law_417 : decode code 417 = .ok (.iadd, 1) := by decide +kernel
theorem d_L_law_418 : decode code 418 = .ok (.iaload, 1) := by decide +kernel
theorem d_L_law_419 : decode code 419 = .ok (.aload_n 0, 1) := by decide +kernel
theorem d_L_law_420 : decode code 420 = .ok (.iload 4, 2) := by decide +kernel
theorem d_L_law_422 : decode code 422 = .ok (.iconst 3, 1) := by decide +kernel
theorem d_L_law_423 : decode code 423 = .ok (.iadd, 1) := by decide +kernel
theorem d_L_law_424 : decode code 424 = .ok (.iaload, 1) := by decide +kernel
theorem d_L_law_425 : decode code 425 = .ok (.aload_n 0, 1) := by decide +kernel
theorem d_L_law_426 : decode code 426 = .ok (.iload 4, 2) := by decide +kernel
theorem d_L_law_428 : decode code 428 = .ok (.iconst 4, 1) := by decide +kernel
theorem d_L_law_429 : decode code 429 = .ok (.iadd, 1) := by decide +kernel
theorem d_L_law_430 : decode code 430 = .ok (.iaload, 1) := by decide +kernel
theorem d_L_law_431 : decode code 431 = .ok (.invokevirtual 90, 3) := by decide +kernel
theorem d_L_law_434 : decode code 434 = .ok (.aload_n 2, 1) := by decide +kernel
theorem d_L_law_435 : decode code 435 = .ok (.invokevirtual 73, 3) := by decide +kernel
theorem d_L_law_438 : decode code 438 = .ok (.iload 5, 2) := by decide +kernel
theorem d_L_law_440 : decode code 440 = .ok (.if_icmp .eq 5, 3) := by decide +kernel
theorem d_L_law_443 : decode code 443 = .ok (.iconst 0, 1) := by decide +kernel
theorem d_L_law_444 : decode code 444 = .ok (.ireturn, 1) := by decide +kernel
theorem d_L_law_445 : decode code 445 = .ok (.goto 479, 3) := by decide +kernel
theorem d_L_law_448 : decode code 448 = .ok (.aload_n 1, 1) := by decide +kernel
theorem d_L_law_449 : decode code 449 = .ok (.aload_n 0, 1) := by decide +kernel
theorem d_L_law_450 : decode code 450 = .ok (.iload 4, 2) := by decide +kernel
theorem d_L_law_452 : decode code 452 = .ok (.iconst 1, 1) := by decide +kernel
theorem d_L_law_453 : decode code 453 = .ok (.iadd, 1) := by decide +kernel
theorem d_L_law_454 : decode code 454 = .ok (.iaload, 1) := by decide +kernel
theorem d_L_law_455 : decode code 455 = .ok (.aload_n 3, 1) := by decide +kernel
theorem d_L_law_456 : decode code 456 = .ok (.invokestatic 91, 3) := by decide +kernel
theorem d_L_law_459 : decode code 459 = .ok (.istore 5, 2) := by decide +kernel
theorem d_L_law_461 : decode code 461 = .ok (.aload_n 2, 1) := by decide +kernel
theorem d_L_law_462 : decode code 462 = .ok (.aload_n 0, 1) := by decide +kernel
theorem d_L_law_463 : decode code 463 = .ok (.iload 4, 2) := by decide +kernel
theorem d_L_law_465 : decode code 465 = .ok (.iconst 1, 1) := by decide +kernel
theorem d_L_law_466 : decode code 466 = .ok (.iadd, 1) := by decide +kernel
theorem d_L_law_467 : decode code 467 = .ok (.iaload, 1) := by decide +kernel
theorem d_L_law_468 : decode code 468 = .ok (.invokevirtual 94, 3) := by decide +kernel
theorem d_L_law_471 : decode code 471 = .ok (.istore 6, 2) := by decide +kernel
theorem d_L_law_473 : decode code 473 = .ok (.aload_n 2, 1) := by decide +kernel
theorem d_L_law_474 : decode code 474 = .ok (.invokevirtual 73, 3) := by decide +kernel
theorem d_L_law_477 : decode code 477 = .ok (.iload 5, 2) := by decide +kernel
theorem d_L_law_479 : decode code 479 = .ok (.if_icmp .eq 5, 3) := by decide +kernel
theorem d_L_law_482 : decode code 482 = .ok (.iconst 0, 1) := by decide +kernel
theorem d_L_law_483 : decode code 483 = .ok (.ireturn, 1) := by decide +kernel
theorem d_L_law_484 : decode code 484 = .ok (.iload 5, 2) := by decide +kernel
theorem d_L_law_486 : decode code 486 = .ok (.ifCond .ne 15, 3) := by decide +kernel
theorem d_L_law_489 : decode code 489 = .ok (.aload_n 3, 1) := by decide +kernel
theorem d_L_law_490 : decode code 490 = .ok (.iconst 0, 1) := by decide +kernel
theorem d_L_law_491 : decode code 491 = .ok (.laload, 1) := by decide +kernel
theorem d_L_law_492 : decode code 492 = .ok (.iload 6, 2) := by decide +kernel
theorem d_L_law_494 : decode code 494 = .ok (.i2l, 1) := by decide +kernel
theorem d_L_law_495 : decode code 495 = .ok (.lcmp, 1) := by decide +kernel
theorem d_L_law_496 : decode code 496 = .ok (.ifCond .eq 5, 3) := by decide +kernel
theorem d_L_law_499 : decode code 499 = .ok (.iconst 0, 1) := by decide +kernel
theorem d_L_law_500 : decode code 500 = .ok (.ireturn, 1) := by decide +kernel
theorem d_L_law_501 : decode code 501 = .ok (.goto 423, 3) := by decide +kernel
theorem d_L_law_504 : decode code 504 = .ok (.aload_n 1, 1) := by decide +kernel
theorem d_L_law_505 : decode code 505 = .ok (.aload_n 0, 1) := by decide +kernel
theorem d_L_law_506 : decode code 506 = .ok (.iload 4, 2) := by decide +kernel
theorem d_L_law_508 : decode code 508 = .ok (.iconst 1, 1) := by decide +kernel
theorem d_L_law_509 : decode code 509 = .ok (.iadd, 1) := by decide +kernel
theorem d_L_law_510 : decode code 510 = .ok (.iaload, 1) := by decide +kernel
theorem d_L_law_511 : decode code 511 = .ok (.aload_n 0, 1) := by decide +kernel
theorem d_L_law_512 : decode code 512 = .ok (.iload 4, 2) := by decide +kernel
theorem d_L_law_514 : decode code 514 = .ok (.iconst 2, 1) := by decide +kernel
theorem d_L_law_515 : decode code 515 = .ok (.iadd, 1) := by decide +kernel
theorem d_L_law_516 : decode code 516 = .ok (.iaload, 1) := by decide +kernel
theorem d_L_law_517 : decode code 517 = .ok (.aload_n 3, 1) := by decide +kernel
theorem d_L_law_518 : decode code 518 = .ok (.invokestatic 95, 3) := by decide +kernel
theorem d_L_law_521 : decode code 521 = .ok (.istore 5, 2) := by decide +kernel
theorem d_L_law_523 : decode code 523 = .ok (.aload_n 2, 1) := by decide +kernel
theorem d_L_law_524 : decode code 524 = .ok (.aload_n 0, 1) := by decide +kernel
theorem d_L_law_525 : decode code 525 = .ok (.iload 4, 2) := by decide +kernel
theorem d_L_law_527 : decode code 527 = .ok (.iconst 1, 1) := by decide +kernel
theorem d_L_law_528 : decode code 528 = .ok (.iadd, 1) := by decide +kernel
theorem d_L_law_529 : decode code 529 = .ok (.iaload, 1) := by decide +kernel
theorem d_L_law_530 : decode code 530 = .ok (.aload_n 0, 1) := by decide +kernel
theorem d_L_law_531 : decode code 531 = .ok (.iload 4, 2) := by decide +kernel
theorem d_L_law_533 : decode code 533 = .ok (.iconst 2, 1) := by decide +kernel
theorem d_L_law_534 : decode code 534 = .ok (.iadd, 1) := by decide +kernel
theorem d_L_law_535 : decode code 535 = .ok (.iaload, 1) := by decide +kernel
theorem d_L_law_536 : decode code 536 = .ok (.invokevirtual 97, 3) := by decide +kernel
theorem d_L_law_539 : decode code 539 = .ok (.istore 6, 2) := by decide +kernel
theorem d_L_law_541 : decode code 541 = .ok (.aload_n 2, 1) := by decide +kernel
theorem d_L_law_542 : decode code 542 = .ok (.invokevirtual 73, 3) := by decide +kernel
theorem d_L_law_545 : decode code 545 = .ok (.iload 5, 2) := by decide +kernel
theorem d_L_law_547 : decode code 547 = .ok (.if_icmp .eq 5, 3) := by decide +kernel
theorem d_L_law_550 : decode code 550 = .ok (.iconst 0, 1) := by decide +kernel
theorem d_L_law_551 : decode code 551 = .ok (.ireturn, 1) := by decide +kernel
theorem d_L_law_552 : decode code 552 = .ok (.iload 5, 2) := by decide +kernel
theorem d_L_law_554 : decode code 554 = .ok (.ifCond .ne 15, 3) := by decide +kernel
theorem d_L_law_557 : decode code 557 = .ok (.aload_n 3, 1) := by decide +kernel
theorem d_L_law_558 : decode code 558 = .ok (.iconst 0, 1) := by decide +kernel
theorem d_L_law_559 : decode code 559 = .ok (.laload, 1) := by decide +kernel
theorem d_L_law_560 : decode code 560 = .ok (.iload 6, 2) := by decide +kernel
theorem d_L_law_562 : decode code 562 = .ok (.i2l, 1) := by decide +kernel
theorem d_L_law_563 : decode code 563 = .ok (.lcmp, 1) := by decide +kernel
theorem d_L_law_564 : decode code 564 = .ok (.ifCond .eq 5, 3) := by decide +kernel
theorem d_L_law_567 : decode code 567 = .ok (.iconst 0, 1) := by decide +kernel
theorem d_L_law_568 : decode code 568 = .ok (.ireturn, 1) := by decide +kernel
theorem d_L_law_569 : decode code 569 = .ok (.goto 355, 3) := by decide +kernel
theorem d_L_law_572 : decode code 572 = .ok (.aload_n 1, 1) := by decide +kernel
theorem d_L_law_573 : decode code 573 = .ok (.aload_n 0, 1) := by decide +kernel
theorem d_L_law_574 : decode code 574 = .ok (.iload 4, 2) := by decide +kernel
theorem d_L_law_576 : decode code 576 = .ok (.iconst 1, 1) := by decide +kernel
theorem d_L_law_577 : decode code 577 = .ok (.iadd, 1) := by decide +kernel
theorem d_L_law_578 : decode code 578 = .ok (.iaload, 1) := by decide +kernel
theorem d_L_law_579 : decode code 579 = .ok (.invokevirtual 98, 3) := by decide +kernel
theorem d_L_law_582 : decode code 582 = .ok (.aload_n 2, 1) := by decide +kernel
theorem d_L_law_583 : decode code 583 = .ok (.aload_n 0, 1) := by decide +kernel
theorem d_L_law_584 : decode code 584 = .ok (.iload 4, 2) := by decide +kernel
theorem d_L_law_586 : decode code 586 = .ok (.iconst 1, 1) := by decide +kernel
theorem d_L_law_587 : decode code 587 = .ok (.iadd, 1) := by decide +kernel
theorem d_L_law_588 : decode code 588 = .ok (.iaload, 1) := by decide +kernel
theorem d_L_law_589 : decode code 589 = .ok (.invokevirtual 102, 3) := by decide +kernel
theorem d_L_law_592 : decode code 592 = .ok (.lcmp, 1) := by decide +kernel
theorem d_L_law_593 : decode code 593 = .ok (.ifCond .eq 331, 3) := by decide +kernel
theorem d_L_law_596 : decode code 596 = .ok (.iconst 0, 1) := by decide +kernel
theorem d_L_law_597 : decode code 597 = .ok (.ireturn, 1) := by decide +kernel
theorem d_L_law_598 : decode code 598 = .ok (.aload_n 1, 1) := by decide +kernel
theorem d_L_law_599 : decode code 599 = .ok (.aload_n 0, 1) := by decide +kernel
theorem d_L_law_600 : decode code 600 = .ok (.iload 4, 2) := by decide +kernel
theorem d_L_law_602 : decode code 602 = .ok (.iconst 1, 1) := by decide +kernel
theorem d_L_law_603 : decode code 603 = .ok (.iadd, 1) := by decide +kernel
theorem d_L_law_604 : decode code 604 = .ok (.iaload, 1) := by decide +kernel
theorem d_L_law_605 : decode code 605 = .ok (.aload_n 0, 1) := by decide +kernel
theorem d_L_law_606 : decode code 606 = .ok (.iload 4, 2) := by decide +kernel
theorem d_L_law_608 : decode code 608 = .ok (.iconst 2, 1) := by decide +kernel
theorem d_L_law_609 : decode code 609 = .ok (.iadd, 1) := by decide +kernel
theorem d_L_law_610 : decode code 610 = .ok (.iaload, 1) := by decide +kernel
theorem d_L_law_611 : decode code 611 = .ok (.invokevirtual 103, 3) := by decide +kernel
theorem d_L_law_614 : decode code 614 = .ok (.aload_n 2, 1) := by decide +kernel
theorem d_L_law_615 : decode code 615 = .ok (.aload_n 0, 1) := by decide +kernel
theorem d_L_law_616 : decode code 616 = .ok (.iload 4, 2) := by decide +kernel
theorem d_L_law_618 : decode code 618 = .ok (.iconst 1, 1) := by decide +kernel
theorem d_L_law_619 : decode code 619 = .ok (.iadd, 1) := by decide +kernel
theorem d_L_law_620 : decode code 620 = .ok (.iaload, 1) := by decide +kernel
theorem d_L_law_621 : decode code 621 = .ok (.aload_n 0, 1) := by decide +kernel
theorem d_L_law_622 : decode code 622 = .ok (.iload 4, 2) := by decide +kernel
theorem d_L_law_624 : decode code 624 = .ok (.iconst 2, 1) := by decide +kernel
theorem d_L_law_625 : decode code 625 = .ok (.iadd, 1) := by decide +kernel
theorem d_L_law_626 : decode code 626 = .ok (.iaload, 1) := by decide +kernel
theorem d_L_law_627 : decode code 627 = .ok (.invokevirtual 106, 3) := by decide +kernel
theorem d_L_law_630 : decode code 630 = .ok (.if_icmp .eq 294, 3) := by decide +kernel
theorem d_L_law_633 : decode code 633 = .ok (.iconst 0, 1) := by decide +kernel
theorem d_L_law_634 : decode code 634 = .ok (.ireturn, 1) := by decide +kernel
theorem d_L_law_635 : decode code 635 = .ok (.aload_n 1, 1) := by decide +kernel
theorem d_L_law_636 : decode code 636 = .ok (.aload_n 0, 1) := by decide +kernel
theorem d_L_law_637 : decode code 637 = .ok (.iload 4, 2) := by decide +kernel
theorem d_L_law_639 : decode code 639 = .ok (.iconst 1, 1) := by decide +kernel
theorem d_L_law_640 : decode code 640 = .ok (.iadd, 1) := by decide +kernel
theorem d_L_law_641 : decode code 641 = .ok (.iaload, 1) := by decide +kernel
theorem d_L_law_642 : decode code 642 = .ok (.aload_n 0, 1) := by decide +kernel
theorem d_L_law_643 : decode code 643 = .ok (.iload 4, 2) := by decide +kernel
theorem d_L_law_645 : decode code 645 = .ok (.iconst 2, 1) := by decide +kernel
theorem d_L_law_646 : decode code 646 = .ok (.iadd, 1) := by decide +kernel
theorem d_L_law_647 : decode code 647 = .ok (.iaload, 1) := by decide +kernel
theorem d_L_law_648 : decode code 648 = .ok (.aload_n 0, 1) := by decide +kernel
theorem d_L_law_649 : decode code 649 = .ok (.iload 4, 2) := by decide +kernel
theorem d_L_law_651 : decode code 651 = .ok (.iconst 3, 1) := by decide +kernel
theorem d_L_law_652 : decode code 652 = .ok (.iadd, 1) := by decide +kernel
theorem d_L_law_653 : decode code 653 = .ok (.iaload, 1) := by decide +kernel
theorem d_L_law_654 : decode code 654 = .ok (.aload_n 0, 1) := by decide +kernel
theorem d_L_law_655 : decode code 655 = .ok (.iload 4, 2) := by decide +kernel
theorem d_L_law_657 : decode code 657 = .ok (.iconst 4, 1) := by decide +kernel
theorem d_L_law_658 : decode code 658 = .ok (.iadd, 1) := by decide +kernel
theorem d_L_law_659 : decode code 659 = .ok (.iaload, 1) := by decide +kernel
theorem d_L_law_660 : decode code 660 = .ok (.invokestatic 107, 3) := by decide +kernel
theorem d_L_law_663 : decode code 663 = .ok (.istore 5, 2) := by decide +kernel
theorem d_L_law_665 : decode code 665 = .ok (.aload_n 2, 1) := by decide +kernel
theorem d_L_law_666 : decode code 666 = .ok (.aload_n 0, 1) := by decide +kernel
theorem d_L_law_667 : decode code 667 = .ok (.iload 4, 2) := by decide +kernel
theorem d_L_law_669 : decode code 669 = .ok (.iconst 1, 1) := by decide +kernel
theorem d_L_law_670 : decode code 670 = .ok (.iadd, 1) := by decide +kernel
theorem d_L_law_671 : decode code 671 = .ok (.iaload, 1) := by decide +kernel
theorem d_L_law_672 : decode code 672 = .ok (.aload_n 0, 1) := by decide +kernel
theorem d_L_law_673 : decode code 673 = .ok (.iload 4, 2) := by decide +kernel
theorem d_L_law_675 : decode code 675 = .ok (.iconst 2, 1) := by decide +kernel
theorem d_L_law_676 : decode code 676 = .ok (.iadd, 1) := by decide +kernel
theorem d_L_law_677 : decode code 677 = .ok (.iaload, 1) := by decide +kernel
theorem d_L_law_678 : decode code 678 = .ok (.aload_n 0, 1) := by decide +kernel
theorem d_L_law_679 : decode code 679 = .ok (.iload 4, 2) := by decide +kernel
theorem d_L_law_681 : decode code 681 = .ok (.iconst 3, 1) := by decide +kernel
theorem d_L_law_682 : decode code 682 = .ok (.iadd, 1) := by decide +kernel
theorem d_L_law_683 : decode code 683 = .ok (.iaload, 1) := by decide +kernel
theorem d_L_law_684 : decode code 684 = .ok (.aload_n 0, 1) := by decide +kernel
theorem d_L_law_685 : decode code 685 = .ok (.iload 4, 2) := by decide +kernel
theorem d_L_law_687 : decode code 687 = .ok (.iconst 4, 1) := by decide +kernel
theorem d_L_law_688 : decode code 688 = .ok (.iadd, 1) := by decide +kernel
theorem d_L_law_689 : decode code 689 = .ok (.iaload, 1) := by decide +kernel
theorem d_L_law_690 : decode code 690 = .ok (.invokevirtual 109, 3) := by decide +kernel
theorem d_L_law_693 : decode code 693 = .ok (.aload_n 2, 1) := by decide +kernel
theorem d_L_law_694 : decode code 694 = .ok (.invokevirtual 73, 3) := by decide +kernel
theorem d_L_law_697 : decode code 697 = .ok (.iload 5, 2) := by decide +kernel
theorem d_L_law_699 : decode code 699 = .ok (.if_icmp .eq 5, 3) := by decide +kernel
theorem d_L_law_702 : decode code 702 = .ok (.iconst 0, 1) := by decide +kernel
theorem d_L_law_703 : decode code 703 = .ok (.ireturn, 1) := by decide +kernel
theorem d_L_law_704 : decode code 704 = .ok (.goto 220, 3) := by decide +kernel
theorem d_L_law_707 : decode code 707 = .ok (.aload_n 1, 1) := by decide +kernel
theorem d_L_law_708 : decode code 708 = .ok (.aload_n 0, 1) := by decide +kernel
theorem d_L_law_709 : decode code 709 = .ok (.iload 4, 2) := by decide +kernel
theorem d_L_law_711 : decode code 711 = .ok (.iconst 1, 1) := by decide +kernel
theorem d_L_law_712 : decode code 712 = .ok (.iadd, 1) := by decide +kernel
theorem d_L_law_713 : decode code 713 = .ok (.iaload, 1) := by decide +kernel
theorem d_L_law_714 : decode code 714 = .ok (.aload_n 0, 1) := by decide +kernel
theorem d_L_law_715 : decode code 715 = .ok (.iload 4, 2) := by decide +kernel
theorem d_L_law_717 : decode code 717 = .ok (.iconst 2, 1) := by decide +kernel
theorem d_L_law_718 : decode code 718 = .ok (.iadd, 1) := by decide +kernel
theorem d_L_law_719 : decode code 719 = .ok (.iaload, 1) := by decide +kernel
theorem d_L_law_720 : decode code 720 = .ok (.aload_n 3, 1) := by decide +kernel
theorem d_L_law_721 : decode code 721 = .ok (.invokestatic 110, 3) := by decide +kernel
theorem d_L_law_724 : decode code 724 = .ok (.istore 5, 2) := by decide +kernel
theorem d_L_law_726 : decode code 726 = .ok (.aload_n 2, 1) := by decide +kernel
theorem d_L_law_727 : decode code 727 = .ok (.aload_n 0, 1) := by decide +kernel
theorem d_L_law_728 : decode code 728 = .ok (.iload 4, 2) := by decide +kernel
theorem d_L_law_730 : decode code 730 = .ok (.iconst 1, 1) := by decide +kernel
theorem d_L_law_731 : decode code 731 = .ok (.iadd, 1) := by decide +kernel
theorem d_L_law_732 : decode code 732 = .ok (.iaload, 1) := by decide +kernel
theorem d_L_law_733 : decode code 733 = .ok (.aload_n 0, 1) := by decide +kernel
theorem d_L_law_734 : decode code 734 = .ok (.iload 4, 2) := by decide +kernel
theorem d_L_law_736 : decode code 736 = .ok (.iconst 2, 1) := by decide +kernel
theorem d_L_law_737 : decode code 737 = .ok (.iadd, 1) := by decide +kernel
theorem d_L_law_738 : decode code 738 = .ok (.iaload, 1) := by decide +kernel
theorem d_L_law_739 : decode code 739 = .ok (.invokevirtual 112, 3) := by decide +kernel
theorem d_L_law_742 : decode code 742 = .ok (.istore 6, 2) := by decide +kernel
theorem d_L_law_744 : decode code 744 = .ok (.aload_n 2, 1) := by decide +kernel
theorem d_L_law_745 : decode code 745 = .ok (.invokevirtual 73, 3) := by decide +kernel
theorem d_L_law_748 : decode code 748 = .ok (.iload 5, 2) := by decide +kernel
theorem d_L_law_750 : decode code 750 = .ok (.if_icmp .eq 5, 3) := by decide +kernel
theorem d_L_law_753 : decode code 753 = .ok (.iconst 0, 1) := by decide +kernel
theorem d_L_law_754 : decode code 754 = .ok (.ireturn, 1) := by decide +kernel
theorem d_L_law_755 : decode code 755 = .ok (.iload 5, 2) := by decide +kernel
theorem d_L_law_757 : decode code 757 = .ok (.ifCond .ne 15, 3) := by decide +kernel
theorem d_L_law_760 : decode code 760 = .ok (.aload_n 3, 1) := by decide +kernel
theorem d_L_law_761 : decode code 761 = .ok (.iconst 0, 1) := by decide +kernel
theorem d_L_law_762 : decode code 762 = .ok (.laload, 1) := by decide +kernel
theorem d_L_law_763 : decode code 763 = .ok (.iload 6, 2) := by decide +kernel
theorem d_L_law_765 : decode code 765 = .ok (.i2l, 1) := by decide +kernel
theorem d_L_law_766 : decode code 766 = .ok (.lcmp, 1) := by decide +kernel
theorem d_L_law_767 : decode code 767 = .ok (.ifCond .eq 5, 3) := by decide +kernel
theorem d_L_law_770 : decode code 770 = .ok (.iconst 0, 1) := by decide +kernel
theorem d_L_law_771 : decode code 771 = .ok (.ireturn, 1) := by decide +kernel
theorem d_L_law_772 : decode code 772 = .ok (.goto 152, 3) := by decide +kernel
theorem d_L_law_775 : decode code 775 = .ok (.aload_n 1, 1) := by decide +kernel
theorem d_L_law_776 : decode code 776 = .ok (.aload_n 0, 1) := by decide +kernel
theorem d_L_law_777 : decode code 777 = .ok (.iload 4, 2) := by decide +kernel
theorem d_L_law_779 : decode code 779 = .ok (.iconst 1, 1) := by decide +kernel
theorem d_L_law_780 : decode code 780 = .ok (.iadd, 1) := by decide +kernel
theorem d_L_law_781 : decode code 781 = .ok (.iaload, 1) := by decide +kernel
theorem d_L_law_782 : decode code 782 = .ok (.aload_n 3, 1) := by decide +kernel
theorem d_L_law_783 : decode code 783 = .ok (.invokestatic 113, 3) := by decide +kernel
theorem d_L_law_786 : decode code 786 = .ok (.istore 5, 2) := by decide +kernel
theorem d_L_law_788 : decode code 788 = .ok (.aload_n 2, 1) := by decide +kernel
theorem d_L_law_789 : decode code 789 = .ok (.aload_n 0, 1) := by decide +kernel
theorem d_L_law_790 : decode code 790 = .ok (.iload 4, 2) := by decide +kernel
theorem d_L_law_792 : decode code 792 = .ok (.iconst 1, 1) := by decide +kernel
theorem d_L_law_793 : decode code 793 = .ok (.iadd, 1) := by decide +kernel
theorem d_L_law_794 : decode code 794 = .ok (.iaload, 1) := by decide +kernel
theorem d_L_law_795 : decode code 795 = .ok (.invokevirtual 115, 3) := by decide +kernel
theorem d_L_law_798 : decode code 798 = .ok (.istore 6, 2) := by decide +kernel
theorem d_L_law_800 : decode code 800 = .ok (.aload_n 2, 1) := by decide +kernel
theorem d_L_law_801 : decode code 801 = .ok (.invokevirtual 73, 3) := by decide +kernel
theorem d_L_law_804 : decode code 804 = .ok (.iload 5, 2) := by decide +kernel
theorem d_L_law_806 : decode code 806 = .ok (.if_icmp .eq 5, 3) := by decide +kernel
theorem d_L_law_809 : decode code 809 = .ok (.iconst 0, 1) := by decide +kernel
theorem d_L_law_810 : decode code 810 = .ok (.ireturn, 1) := by decide +kernel
theorem d_L_law_811 : decode code 811 = .ok (.iload 5, 2) := by decide +kernel
theorem d_L_law_813 : decode code 813 = .ok (.ifCond .ne 15, 3) := by decide +kernel
theorem d_L_law_816 : decode code 816 = .ok (.aload_n 3, 1) := by decide +kernel
theorem d_L_law_817 : decode code 817 = .ok (.iconst 0, 1) := by decide +kernel
theorem d_L_law_818 : decode code 818 = .ok (.laload, 1) := by decide +kernel
theorem d_L_law_819 : decode code 819 = .ok (.iload 6, 2) := by decide +kernel
theorem d_L_law_821 : decode code 821 = .ok (.i2l, 1) := by decide +kernel
theorem d_L_law_822 : decode code 822 = .ok (.lcmp, 1) := by decide +kernel
theorem d_L_law_823 : decode code 823 = .ok (.ifCond .eq 5, 3) := by decide +kernel
theorem d_L_law_826 : decode code 826 = .ok (.iconst 0, 1) := by decide +kernel
theorem d_L_law_827 : decode code 827 = .ok (.ireturn, 1) := by decide +kernel
theorem d_L_law_828 : decode code 828 = .ok (.goto 96, 3) := by decide +kernel
theorem d_L_law_831 : decode code 831 = .ok (.aload_n 1, 1) := by decide +kernel
theorem d_L_law_832 : decode code 832 = .ok (.aload_n 0, 1) := by decide +kernel
theorem d_L_law_833 : decode code 833 = .ok (.iload 4, 2) := by decide +kernel
theorem d_L_law_835 : decode code 835 = .ok (.iconst 1, 1) := by decide +kernel
theorem d_L_law_836 : decode code 836 = .ok (.iadd, 1) := by decide +kernel
theorem d_L_law_837 : decode code 837 = .ok (.iaload, 1) := by decide +kernel
theorem d_L_law_838 : decode code 838 = .ok (.invokevirtual 116, 3) := by decide +kernel
theorem d_L_law_841 : decode code 841 = .ok (.aload_n 2, 1) := by decide +kernel
theorem d_L_law_842 : decode code 842 = .ok (.aload_n 0, 1) := by decide +kernel
theorem d_L_law_843 : decode code 843 = .ok (.iload 4, 2) := by decide +kernel
theorem d_L_law_845 : decode code 845 = .ok (.iconst 1, 1) := by decide +kernel
theorem d_L_law_846 : decode code 846 = .ok (.iadd, 1) := by decide +kernel
theorem d_L_law_847 : decode code 847 = .ok (.iaload, 1) := by decide +kernel
theorem d_L_law_848 : decode code 848 = .ok (.invokevirtual 119, 3) := by decide +kernel
theorem d_L_law_851 : decode code 851 = .ok (.if_icmp .eq 73, 3) := by decide +kernel
theorem d_L_law_854 : decode code 854 = .ok (.iconst 0, 1) := by decide +kernel
theorem d_L_law_855 : decode code 855 = .ok (.ireturn, 1) := by decide +kernel
theorem d_L_law_856 : decode code 856 = .ok (.aload_n 1, 1) := by decide +kernel
theorem d_L_law_857 : decode code 857 = .ok (.aload_n 0, 1) := by decide +kernel
theorem d_L_law_858 : decode code 858 = .ok (.iload 4, 2) := by decide +kernel
theorem d_L_law_860 : decode code 860 = .ok (.iconst 1, 1) := by decide +kernel
theorem d_L_law_861 : decode code 861 = .ok (.iadd, 1) := by decide +kernel
theorem d_L_law_862 : decode code 862 = .ok (.iaload, 1) := by decide +kernel
theorem d_L_law_863 : decode code 863 = .ok (.aload_n 0, 1) := by decide +kernel
theorem d_L_law_864 : decode code 864 = .ok (.iload 4, 2) := by decide +kernel
theorem d_L_law_866 : decode code 866 = .ok (.iconst 2, 1) := by decide +kernel
theorem d_L_law_867 : decode code 867 = .ok (.iadd, 1) := by decide +kernel
theorem d_L_law_868 : decode code 868 = .ok (.iaload, 1) := by decide +kernel
theorem d_L_law_869 : decode code 869 = .ok (.aload_n 3, 1) := by decide +kernel
theorem d_L_law_870 : decode code 870 = .ok (.invokestatic 120, 3) := by decide +kernel
theorem d_L_law_873 : decode code 873 = .ok (.istore 5, 2) := by decide +kernel
theorem d_L_law_875 : decode code 875 = .ok (.aload_n 2, 1) := by decide +kernel
theorem d_L_law_876 : decode code 876 = .ok (.aload_n 0, 1) := by decide +kernel
theorem d_L_law_877 : decode code 877 = .ok (.iload 4, 2) := by decide +kernel
theorem d_L_law_879 : decode code 879 = .ok (.iconst 1, 1) := by decide +kernel
theorem d_L_law_880 : decode code 880 = .ok (.iadd, 1) := by decide +kernel
theorem d_L_law_881 : decode code 881 = .ok (.iaload, 1) := by decide +kernel
theorem d_L_law_882 : decode code 882 = .ok (.aload_n 0, 1) := by decide +kernel
theorem d_L_law_883 : decode code 883 = .ok (.iload 4, 2) := by decide +kernel
theorem d_L_law_885 : decode code 885 = .ok (.iconst 2, 1) := by decide +kernel
theorem d_L_law_886 : decode code 886 = .ok (.iadd, 1) := by decide +kernel
theorem d_L_law_887 : decode code 887 = .ok (.iaload, 1) := by decide +kernel
theorem d_L_law_888 : decode code 888 = .ok (.invokevirtual 122, 3) := by decide +kernel
theorem d_L_law_891 : decode code 891 = .ok (.istore 6, 2) := by decide +kernel
theorem d_L_law_893 : decode code 893 = .ok (.aload_n 2, 1) := by decide +kernel
theorem d_L_law_894 : decode code 894 = .ok (.invokevirtual 73, 3) := by decide +kernel
theorem d_L_law_897 : decode code 897 = .ok (.iload 5, 2) := by decide +kernel
theorem d_L_law_899 : decode code 899 = .ok (.if_icmp .eq 5, 3) := by decide +kernel
theorem d_L_law_902 : decode code 902 = .ok (.iconst 0, 1) := by decide +kernel
theorem d_L_law_903 : decode code 903 = .ok (.ireturn, 1) := by decide +kernel
theorem d_L_law_904 : decode code 904 = .ok (.iload 5, 2) := by decide +kernel
theorem d_L_law_906 : decode code 906 = .ok (.ifCond .ne 15, 3) := by decide +kernel
theorem d_L_law_909 : decode code 909 = .ok (.aload_n 3, 1) := by decide +kernel
theorem d_L_law_910 : decode code 910 = .ok (.iconst 0, 1) := by decide +kernel
theorem d_L_law_911 : decode code 911 = .ok (.laload, 1) := by decide +kernel
theorem d_L_law_912 : decode code 912 = .ok (.iload 6, 2) := by decide +kernel
theorem d_L_law_914 : decode code 914 = .ok (.i2l, 1) := by decide +kernel
theorem d_L_law_915 : decode code 915 = .ok (.lcmp, 1) := by decide +kernel
theorem d_L_law_916 : decode code 916 = .ok (.ifCond .eq 5, 3) := by decide +kernel
theorem d_L_law_919 : decode code 919 = .ok (.iconst 0, 1) := by decide +kernel
theorem d_L_law_920 : decode code 920 = .ok (.ireturn, 1) := by decide +kernel
theorem d_L_law_921 : decode code 921 = .ok (.goto 3, 3) := by decide +kernel
theorem d_L_law_924 : decode code 924 = .ok (.iinc 4 5, 3) := by decide +kernel
theorem d_L_law_927 : decode code 927 = .ok (.goto (-894), 3) := by decide +kernel
theorem d_L_law_930 : decode code 930 = .ok (.iconst 1, 1) := by decide +kernel
theorem d_L_law_931 : decode code 931 = .ok (.ireturn, 1) := by decide +kernel
