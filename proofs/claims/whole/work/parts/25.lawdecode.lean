/-! printed by wip/whole/gen/gen.py -/
theorem d_law_0 : decode code 0 = .ok (.new 8, 3) := by decide +kernel
theorem d_law_3 : decode code 3 = .ok (.dup, 1) := by decide +kernel
theorem d_law_4 : decode code 4 = .ok (.invokespecial 54, 3) := by decide +kernel
theorem d_law_7 : decode code 7 = .ok (.astore_n 1, 1) := by decide +kernel
theorem d_law_8 : decode code 8 = .ok (.new 55, 3) := by decide +kernel
theorem d_law_11 : decode code 11 = .ok (.dup, 1) := by decide +kernel
theorem d_law_12 : decode code 12 = .ok (.invokespecial 57, 3) := by decide +kernel
theorem d_law_15 : decode code 15 = .ok (.astore_n 2, 1) := by decide +kernel
theorem d_law_16 : decode code 16 = .ok (.iconst 1, 1) := by decide +kernel
theorem d_law_17 : decode code 17 = .ok (.newarray .long, 2) := by decide +kernel
theorem d_law_19 : decode code 19 = .ok (.astore_n 3, 1) := by decide +kernel
theorem d_law_20 : decode code 20 = .ok (.iconst 0, 1) := by decide +kernel
theorem d_law_21 : decode code 21 = .ok (.istore 4, 2) := by decide +kernel
theorem d_law_23 : decode code 23 = .ok (.iload 4, 2) := by decide +kernel
theorem d_law_25 : decode code 25 = .ok (.aload_n 0, 1) := by decide +kernel
theorem d_law_26 : decode code 26 = .ok (.arraylength, 1) := by decide +kernel
theorem d_law_27 : decode code 27 = .ok (.bipush 6, 2) := by decide +kernel
theorem d_law_29 : decode code 29 = .ok (.isub, 1) := by decide +kernel
theorem d_law_30 : decode code 30 = .ok (.if_icmp .gt 951, 3) := by decide +kernel
theorem d_law_33 : decode code 33 = .ok (.aload_n 0, 1) := by decide +kernel
theorem d_law_34 : decode code 34 = .ok (.iload 4, 2) := by decide +kernel
theorem d_law_36 : decode code 36 = .ok (.iaload, 1) := by decide +kernel
theorem d_law_37 : decode code 37 = .ok (.bipush 15, 2) := by decide +kernel
theorem d_law_39 : decode code 39 = .ok (.iand, 1) := by decide +kernel
theorem d_law_40 : decode code 40 = .ok (.tableswitch 935 0 13 #[72, 176, 232, 245, 301, 357, 425, 521, 596, 671, 751, 819, 899, 924], 72) := by decide +kernel
theorem d_law_112 : decode code 112 = .ok (.aload_n 1, 1) := by decide +kernel
theorem d_law_113 : decode code 113 = .ok (.aload_n 0, 1) := by decide +kernel
theorem d_law_114 : decode code 114 = .ok (.iload 4, 2) := by decide +kernel
theorem d_law_116 : decode code 116 = .ok (.iconst 1, 1) := by decide +kernel
theorem d_law_117 : decode code 117 = .ok (.iadd, 1) := by decide +kernel
theorem d_law_118 : decode code 118 = .ok (.iaload, 1) := by decide +kernel
theorem d_law_119 : decode code 119 = .ok (.aload_n 0, 1) := by decide +kernel
theorem d_law_120 : decode code 120 = .ok (.iload 4, 2) := by decide +kernel
theorem d_law_122 : decode code 122 = .ok (.iconst 2, 1) := by decide +kernel
theorem d_law_123 : decode code 123 = .ok (.iadd, 1) := by decide +kernel
theorem d_law_124 : decode code 124 = .ok (.iaload, 1) := by decide +kernel
theorem d_law_125 : decode code 125 = .ok (.aload_n 0, 1) := by decide +kernel
theorem d_law_126 : decode code 126 = .ok (.iload 4, 2) := by decide +kernel
theorem d_law_128 : decode code 128 = .ok (.iconst 3, 1) := by decide +kernel
theorem d_law_129 : decode code 129 = .ok (.iadd, 1) := by decide +kernel
theorem d_law_130 : decode code 130 = .ok (.iaload, 1) := by decide +kernel
theorem d_law_131 : decode code 131 = .ok (.aload_n 0, 1) := by decide +kernel
theorem d_law_132 : decode code 132 = .ok (.iload 4, 2) := by decide +kernel
theorem d_law_134 : decode code 134 = .ok (.iconst 4, 1) := by decide +kernel
theorem d_law_135 : decode code 135 = .ok (.iadd, 1) := by decide +kernel
theorem d_law_136 : decode code 136 = .ok (.iaload, 1) := by decide +kernel
theorem d_law_137 : decode code 137 = .ok (.aload_n 0, 1) := by decide +kernel
theorem d_law_138 : decode code 138 = .ok (.iload 4, 2) := by decide +kernel
theorem d_law_140 : decode code 140 = .ok (.iconst 5, 1) := by decide +kernel
theorem d_law_141 : decode code 141 = .ok (.iadd, 1) := by decide +kernel
theorem d_law_142 : decode code 142 = .ok (.iaload, 1) := by decide +kernel
theorem d_law_143 : decode code 143 = .ok (.aload_n 3, 1) := by decide +kernel
theorem d_law_144 : decode code 144 = .ok (.invokestatic 58, 3) := by decide +kernel
theorem d_law_147 : decode code 147 = .ok (.istore 5, 2) := by decide +kernel
theorem d_law_149 : decode code 149 = .ok (.aload_n 2, 1) := by decide +kernel
theorem d_law_150 : decode code 150 = .ok (.aload_n 0, 1) := by decide +kernel
theorem d_law_151 : decode code 151 = .ok (.iload 4, 2) := by decide +kernel
theorem d_law_153 : decode code 153 = .ok (.iconst 1, 1) := by decide +kernel
theorem d_law_154 : decode code 154 = .ok (.iadd, 1) := by decide +kernel
theorem d_law_155 : decode code 155 = .ok (.iaload, 1) := by decide +kernel
theorem d_law_156 : decode code 156 = .ok (.aload_n 0, 1) := by decide +kernel
theorem d_law_157 : decode code 157 = .ok (.iload 4, 2) := by decide +kernel
theorem d_law_159 : decode code 159 = .ok (.iconst 2, 1) := by decide +kernel
theorem d_law_160 : decode code 160 = .ok (.iadd, 1) := by decide +kernel
theorem d_law_161 : decode code 161 = .ok (.iaload, 1) := by decide +kernel
theorem d_law_162 : decode code 162 = .ok (.aload_n 0, 1) := by decide +kernel
theorem d_law_163 : decode code 163 = .ok (.iload 4, 2) := by decide +kernel
theorem d_law_165 : decode code 165 = .ok (.iconst 3, 1) := by decide +kernel
theorem d_law_166 : decode code 166 = .ok (.iadd, 1) := by decide +kernel
theorem d_law_167 : decode code 167 = .ok (.iaload, 1) := by decide +kernel
theorem d_law_168 : decode code 168 = .ok (.aload_n 0, 1) := by decide +kernel
theorem d_law_169 : decode code 169 = .ok (.iload 4, 2) := by decide +kernel
theorem d_law_171 : decode code 171 = .ok (.iconst 4, 1) := by decide +kernel
theorem d_law_172 : decode code 172 = .ok (.iadd, 1) := by decide +kernel
theorem d_law_173 : decode code 173 = .ok (.iaload, 1) := by decide +kernel
theorem d_law_174 : decode code 174 = .ok (.aload_n 0, 1) := by decide +kernel
theorem d_law_175 : decode code 175 = .ok (.iload 4, 2) := by decide +kernel
theorem d_law_177 : decode code 177 = .ok (.iconst 5, 1) := by decide +kernel
theorem d_law_178 : decode code 178 = .ok (.iadd, 1) := by decide +kernel
theorem d_law_179 : decode code 179 = .ok (.iaload, 1) := by decide +kernel
theorem d_law_180 : decode code 180 = .ok (.invokevirtual 63, 3) := by decide +kernel
theorem d_law_183 : decode code 183 = .ok (.istore 6, 2) := by decide +kernel
theorem d_law_185 : decode code 185 = .ok (.aload_n 2, 1) := by decide +kernel
theorem d_law_186 : decode code 186 = .ok (.invokevirtual 64, 3) := by decide +kernel
theorem d_law_189 : decode code 189 = .ok (.iload 5, 2) := by decide +kernel
theorem d_law_191 : decode code 191 = .ok (.if_icmp .eq 5, 3) := by decide +kernel
theorem d_law_194 : decode code 194 = .ok (.iconst 0, 1) := by decide +kernel
theorem d_law_195 : decode code 195 = .ok (.ireturn, 1) := by decide +kernel
theorem d_law_196 : decode code 196 = .ok (.iload 5, 2) := by decide +kernel
theorem d_law_198 : decode code 198 = .ok (.ifCond .ne 15, 3) := by decide +kernel
theorem d_law_201 : decode code 201 = .ok (.aload_n 3, 1) := by decide +kernel
theorem d_law_202 : decode code 202 = .ok (.iconst 0, 1) := by decide +kernel
theorem d_law_203 : decode code 203 = .ok (.laload, 1) := by decide +kernel
theorem d_law_204 : decode code 204 = .ok (.iload 6, 2) := by decide +kernel
theorem d_law_206 : decode code 206 = .ok (.i2l, 1) := by decide +kernel
theorem d_law_207 : decode code 207 = .ok (.lcmp, 1) := by decide +kernel
theorem d_law_208 : decode code 208 = .ok (.ifCond .eq 5, 3) := by decide +kernel
theorem d_law_211 : decode code 211 = .ok (.iconst 0, 1) := by decide +kernel
theorem d_law_212 : decode code 212 = .ok (.ireturn, 1) := by decide +kernel
theorem d_law_213 : decode code 213 = .ok (.goto 762, 3) := by decide +kernel
theorem d_law_216 : decode code 216 = .ok (.aload_n 1, 1) := by decide +kernel
theorem d_law_217 : decode code 217 = .ok (.aload_n 0, 1) := by decide +kernel
theorem d_law_218 : decode code 218 = .ok (.iload 4, 2) := by decide +kernel
theorem d_law_220 : decode code 220 = .ok (.iconst 1, 1) := by decide +kernel
theorem d_law_221 : decode code 221 = .ok (.iadd, 1) := by decide +kernel
theorem d_law_222 : decode code 222 = .ok (.iaload, 1) := by decide +kernel
theorem d_law_223 : decode code 223 = .ok (.aload_n 3, 1) := by decide +kernel
theorem d_law_224 : decode code 224 = .ok (.invokestatic 68, 3) := by decide +kernel
theorem d_law_227 : decode code 227 = .ok (.istore 5, 2) := by decide +kernel
theorem d_law_229 : decode code 229 = .ok (.aload_n 2, 1) := by decide +kernel
theorem d_law_230 : decode code 230 = .ok (.aload_n 0, 1) := by decide +kernel
theorem d_law_231 : decode code 231 = .ok (.iload 4, 2) := by decide +kernel
theorem d_law_233 : decode code 233 = .ok (.iconst 1, 1) := by decide +kernel
theorem d_law_234 : decode code 234 = .ok (.iadd, 1) := by decide +kernel
theorem d_law_235 : decode code 235 = .ok (.iaload, 1) := by decide +kernel
theorem d_law_236 : decode code 236 = .ok (.invokevirtual 71, 3) := by decide +kernel
theorem d_law_239 : decode code 239 = .ok (.istore 6, 2) := by decide +kernel
theorem d_law_241 : decode code 241 = .ok (.aload_n 2, 1) := by decide +kernel
theorem d_law_242 : decode code 242 = .ok (.invokevirtual 64, 3) := by decide +kernel
theorem d_law_245 : decode code 245 = .ok (.iload 5, 2) := by decide +kernel
theorem d_law_247 : decode code 247 = .ok (.if_icmp .eq 5, 3) := by decide +kernel
theorem d_law_250 : decode code 250 = .ok (.iconst 0, 1) := by decide +kernel
theorem d_law_251 : decode code 251 = .ok (.ireturn, 1) := by decide +kernel
theorem d_law_252 : decode code 252 = .ok (.iload 5, 2) := by decide +kernel
theorem d_law_254 : decode code 254 = .ok (.ifCond .ne 15, 3) := by decide +kernel
theorem d_law_257 : decode code 257 = .ok (.aload_n 3, 1) := by decide +kernel
theorem d_law_258 : decode code 258 = .ok (.iconst 0, 1) := by decide +kernel
theorem d_law_259 : decode code 259 = .ok (.laload, 1) := by decide +kernel
theorem d_law_260 : decode code 260 = .ok (.iload 6, 2) := by decide +kernel
theorem d_law_262 : decode code 262 = .ok (.i2l, 1) := by decide +kernel
theorem d_law_263 : decode code 263 = .ok (.lcmp, 1) := by decide +kernel
theorem d_law_264 : decode code 264 = .ok (.ifCond .eq 5, 3) := by decide +kernel
theorem d_law_267 : decode code 267 = .ok (.iconst 0, 1) := by decide +kernel
theorem d_law_268 : decode code 268 = .ok (.ireturn, 1) := by decide +kernel
theorem d_law_269 : decode code 269 = .ok (.goto 706, 3) := by decide +kernel
theorem d_law_272 : decode code 272 = .ok (.aload_n 1, 1) := by decide +kernel
theorem d_law_273 : decode code 273 = .ok (.invokevirtual 72, 3) := by decide +kernel
theorem d_law_276 : decode code 276 = .ok (.aload_n 2, 1) := by decide +kernel
theorem d_law_277 : decode code 277 = .ok (.invokevirtual 75, 3) := by decide +kernel
theorem d_law_280 : decode code 280 = .ok (.if_icmp .eq 695, 3) := by decide +kernel
theorem d_law_283 : decode code 283 = .ok (.iconst 0, 1) := by decide +kernel
theorem d_law_284 : decode code 284 = .ok (.ireturn, 1) := by decide +kernel
theorem d_law_285 : decode code 285 = .ok (.aload_n 1, 1) := by decide +kernel
theorem d_law_286 : decode code 286 = .ok (.aload_n 0, 1) := by decide +kernel
theorem d_law_287 : decode code 287 = .ok (.iload 4, 2) := by decide +kernel
theorem d_law_289 : decode code 289 = .ok (.iconst 1, 1) := by decide +kernel
theorem d_law_290 : decode code 290 = .ok (.iadd, 1) := by decide +kernel
theorem d_law_291 : decode code 291 = .ok (.iaload, 1) := by decide +kernel
theorem d_law_292 : decode code 292 = .ok (.aload_n 3, 1) := by decide +kernel
theorem d_law_293 : decode code 293 = .ok (.invokestatic 76, 3) := by decide +kernel
theorem d_law_296 : decode code 296 = .ok (.istore 5, 2) := by decide +kernel
theorem d_law_298 : decode code 298 = .ok (.aload_n 2, 1) := by decide +kernel
theorem d_law_299 : decode code 299 = .ok (.aload_n 0, 1) := by decide +kernel
theorem d_law_300 : decode code 300 = .ok (.iload 4, 2) := by decide +kernel
theorem d_law_302 : decode code 302 = .ok (.iconst 1, 1) := by decide +kernel
theorem d_law_303 : decode code 303 = .ok (.iadd, 1) := by decide +kernel
theorem d_law_304 : decode code 304 = .ok (.iaload, 1) := by decide +kernel
theorem d_law_305 : decode code 305 = .ok (.invokevirtual 78, 3) := by decide +kernel
theorem d_law_308 : decode code 308 = .ok (.istore 6, 2) := by decide +kernel
theorem d_law_310 : decode code 310 = .ok (.aload_n 2, 1) := by decide +kernel
theorem d_law_311 : decode code 311 = .ok (.invokevirtual 64, 3) := by decide +kernel
theorem d_law_314 : decode code 314 = .ok (.iload 5, 2) := by decide +kernel
theorem d_law_316 : decode code 316 = .ok (.if_icmp .eq 5, 3) := by decide +kernel
theorem d_law_319 : decode code 319 = .ok (.iconst 0, 1) := by decide +kernel
theorem d_law_320 : decode code 320 = .ok (.ireturn, 1) := by decide +kernel
theorem d_law_321 : decode code 321 = .ok (.iload 5, 2) := by decide +kernel
theorem d_law_323 : decode code 323 = .ok (.ifCond .ne 15, 3) := by decide +kernel
theorem d_law_326 : decode code 326 = .ok (.aload_n 3, 1) := by decide +kernel
theorem d_law_327 : decode code 327 = .ok (.iconst 0, 1) := by decide +kernel
theorem d_law_328 : decode code 328 = .ok (.laload, 1) := by decide +kernel
theorem d_law_329 : decode code 329 = .ok (.iload 6, 2) := by decide +kernel
theorem d_law_331 : decode code 331 = .ok (.i2l, 1) := by decide +kernel
theorem d_law_332 : decode code 332 = .ok (.lcmp, 1) := by decide +kernel
theorem d_law_333 : decode code 333 = .ok (.ifCond .eq 5, 3) := by decide +kernel
theorem d_law_336 : decode code 336 = .ok (.iconst 0, 1) := by decide +kernel
theorem d_law_337 : decode code 337 = .ok (.ireturn, 1) := by decide +kernel
theorem d_law_338 : decode code 338 = .ok (.goto 637, 3) := by decide +kernel
theorem d_law_341 : decode code 341 = .ok (.aload_n 1, 1) := by decide +kernel
theorem d_law_342 : decode code 342 = .ok (.aload_n 0, 1) := by decide +kernel
theorem d_law_343 : decode code 343 = .ok (.iload 4, 2) := by decide +kernel
theorem d_law_345 : decode code 345 = .ok (.iconst 1, 1) := by decide +kernel
theorem d_law_346 : decode code 346 = .ok (.iadd, 1) := by decide +kernel
theorem d_law_347 : decode code 347 = .ok (.iaload, 1) := by decide +kernel
theorem d_law_348 : decode code 348 = .ok (.aload_n 3, 1) := by decide +kernel
theorem d_law_349 : decode code 349 = .ok (.invokestatic 79, 3) := by decide +kernel
theorem d_law_352 : decode code 352 = .ok (.istore 5, 2) := by decide +kernel
theorem d_law_354 : decode code 354 = .ok (.aload_n 2, 1) := by decide +kernel
theorem d_law_355 : decode code 355 = .ok (.aload_n 0, 1) := by decide +kernel
theorem d_law_356 : decode code 356 = .ok (.iload 4, 2) := by decide +kernel
theorem d_law_358 : decode code 358 = .ok (.iconst 1, 1) := by decide +kernel
theorem d_law_359 : decode code 359 = .ok (.iadd, 1) := by decide +kernel
theorem d_law_360 : decode code 360 = .ok (.iaload, 1) := by decide +kernel
theorem d_law_361 : decode code 361 = .ok (.invokevirtual 81, 3) := by decide +kernel
theorem d_law_364 : decode code 364 = .ok (.istore 6, 2) := by decide +kernel
theorem d_law_366 : decode code 366 = .ok (.aload_n 2, 1) := by decide +kernel
theorem d_law_367 : decode code 367 = .ok (.invokevirtual 64, 3) := by decide +kernel
theorem d_law_370 : decode code 370 = .ok (.iload 5, 2) := by decide +kernel
theorem d_law_372 : decode code 372 = .ok (.if_icmp .eq 5, 3) := by decide +kernel
theorem d_law_375 : decode code 375 = .ok (.iconst 0, 1) := by decide +kernel
theorem d_law_376 : decode code 376 = .ok (.ireturn, 1) := by decide +kernel
theorem d_law_377 : decode code 377 = .ok (.iload 5, 2) := by decide +kernel
theorem d_law_379 : decode code 379 = .ok (.ifCond .ne 15, 3) := by decide +kernel
theorem d_law_382 : decode code 382 = .ok (.aload_n 3, 1) := by decide +kernel
theorem d_law_383 : decode code 383 = .ok (.iconst 0, 1) := by decide +kernel
theorem d_law_384 : decode code 384 = .ok (.laload, 1) := by decide +kernel
theorem d_law_385 : decode code 385 = .ok (.iload 6, 2) := by decide +kernel
theorem d_law_387 : decode code 387 = .ok (.i2l, 1) := by decide +kernel
theorem d_law_388 : decode code 388 = .ok (.lcmp, 1) := by decide +kernel
theorem d_law_389 : decode code 389 = .ok (.ifCond .eq 5, 3) := by decide +kernel
theorem d_law_392 : decode code 392 = .ok (.iconst 0, 1) := by decide +kernel
theorem d_law_393 : decode code 393 = .ok (.ireturn, 1) := by decide +kernel
theorem d_law_394 : decode code 394 = .ok (.goto 581, 3) := by decide +kernel
theorem d_law_397 : decode code 397 = .ok (.aload_n 1, 1) := by decide +kernel
theorem d_law_398 : decode code 398 = .ok (.aload_n 0, 1) := by decide +kernel
theorem d_law_399 : decode code 399 = .ok (.iload 4, 2) := by decide +kernel
theorem d_law_401 : decode code 401 = .ok (.iconst 1, 1) := by decide +kernel
theorem d_law_402 : decode code 402 = .ok (.iadd, 1) := by decide +kernel
theorem d_law_403 : decode code 403 = .ok (.iaload, 1) := by decide +kernel
theorem d_law_404 : decode code 404 = .ok (.aload_n 0, 1) := by decide +kernel
theorem d_law_405 : decode code 405 = .ok (.iload 4, 2) := by decide +kernel
theorem d_law_407 : decode code 407 = .ok (.iconst 2, 1) := by decide +kernel
theorem d_law_408 : decode code 408 = .ok (.iadd, 1) := by decide +kernel
theorem d_law_409 : decode code 409 = .ok (.iaload, 1) := by decide +kernel
theorem d_law_410 : decode code 410 = .ok (.aload_n 3, 1) := by decide +kernel
theorem d_law_411 : decode code 411 = .ok (.invokestatic 82, 3) := by decide +kernel
theorem d_law_414 : decode code 414 = .ok (.istore 5, 2) := by decide +kernel
theorem d_law_416 : decode code 416 = .ok (.aload_n 2, 1) := by decide +kernel
theorem d_law_417 : decode code 417 = .ok (.aload_n 0, 1) := by decide +kernel
theorem d_law_418 : decode code 418 = .ok (.iload 4, 2) := by decide +kernel
theorem d_law_420 : decode code 420 = .ok (.iconst 1, 1) := by decide +kernel
theorem d_law_421 : decode code 421 = .ok (.iadd, 1) := by decide +kernel
theorem d_law_422 : decode code 422 = .ok (.iaload, 1) := by decide +kernel
theorem d_law_423 : decode code 423 = .ok (.aload_n 0, 1) := by decide +kernel
theorem d_law_424 : decode code 424 = .ok (.iload 4, 2) := by decide +kernel
theorem d_law_426 : decode code 426 = .ok (.iconst 2, 1) := by decide +kernel
theorem d_law_427 : decode code 427 = .ok (.iadd, 1) := by decide +kernel
theorem d_law_428 : decode code 428 = .ok (.iaload, 1) := by decide +kernel
theorem d_law_429 : decode code 429 = .ok (.invokevirtual 85, 3) := by decide +kernel
theorem d_law_432 : decode code 432 = .ok (.istore 6, 2) := by decide +kernel
theorem d_law_434 : decode code 434 = .ok (.aload_n 2, 1) := by decide +kernel
theorem d_law_435 : decode code 435 = .ok (.invokevirtual 64, 3) := by decide +kernel
theorem d_law_438 : decode code 438 = .ok (.iload 5, 2) := by decide +kernel
theorem d_law_440 : decode code 440 = .ok (.if_icmp .eq 5, 3) := by decide +kernel
theorem d_law_443 : decode code 443 = .ok (.iconst 0, 1) := by decide +kernel
theorem d_law_444 : decode code 444 = .ok (.ireturn, 1) := by decide +kernel
theorem d_law_445 : decode code 445 = .ok (.iload 5, 2) := by decide +kernel
theorem d_law_447 : decode code 447 = .ok (.ifCond .ne 15, 3) := by decide +kernel
theorem d_law_450 : decode code 450 = .ok (.aload_n 3, 1) := by decide +kernel
theorem d_law_451 : decode code 451 = .ok (.iconst 0, 1) := by decide +kernel
theorem d_law_452 : decode code 452 = .ok (.laload, 1) := by decide +kernel
theorem d_law_453 : decode code 453 = .ok (.iload 6, 2) := by decide +kernel
theorem d_law_455 : decode code 455 = .ok (.i2l, 1) := by decide +kernel
theorem d_law_456 : decode code 456 = .ok (.lcmp, 1) := by decide +kernel
theorem d_law_457 : decode code 457 = .ok (.ifCond .eq 5, 3) := by decide +kernel
theorem d_law_460 : decode code 460 = .ok (.iconst 0, 1) := by decide +kernel
theorem d_law_461 : decode code 461 = .ok (.ireturn, 1) := by decide +kernel
theorem d_law_462 : decode code 462 = .ok (.goto 513, 3) := by decide +kernel
theorem d_law_465 : decode code 465 = .ok (.aload_n 1, 1) := by decide +kernel
theorem d_law_466 : decode code 466 = .ok (.aload_n 0, 1) := by decide +kernel
theorem d_law_467 : decode code 467 = .ok (.iload 4, 2) := by decide +kernel
theorem d_law_469 : decode code 469 = .ok (.iconst 1, 1) := by decide +kernel
theorem d_law_470 : decode code 470 = .ok (.iadd, 1) := by decide +kernel
theorem d_law_471 : decode code 471 = .ok (.iaload, 1) := by decide +kernel
theorem d_law_472 : decode code 472 = .ok (.aload_n 0, 1) := by decide +kernel
theorem d_law_473 : decode code 473 = .ok (.iload 4, 2) := by decide +kernel
theorem d_law_475 : decode code 475 = .ok (.iconst 2, 1) := by decide +kernel
theorem d_law_476 : decode code 476 = .ok (.iadd, 1) := by decide +kernel
theorem d_law_477 : decode code 477 = .ok (.iaload, 1) := by decide +kernel
theorem d_law_478 : decode code 478 = .ok (.ifCond .eq 7, 3) := by decide +kernel
theorem d_law_481 : decode code 481 = .ok (.iconst 1, 1) := by decide +kernel
theorem d_law_482 : decode code 482 = .ok (.goto 4, 3) := by decide +kernel
theorem d_law_485 : decode code 485 = .ok (.iconst 0, 1) := by decide +kernel
theorem d_law_486 : decode code 486 = .ok (.aload_n 0, 1) := by decide +kernel
theorem d_law_487 : decode code 487 = .ok (.iload 4, 2) := by decide +kernel
theorem d_law_489 : decode code 489 = .ok (.iconst 3, 1) := by decide +kernel
theorem d_law_490 : decode code 490 = .ok (.iadd, 1) := by decide +kernel
theorem d_law_491 : decode code 491 = .ok (.iaload, 1) := by decide +kernel
theorem d_law_492 : decode code 492 = .ok (.aload_n 3, 1) := by decide +kernel
theorem d_law_493 : decode code 493 = .ok (.invokestatic 86, 3) := by decide +kernel
theorem d_law_496 : decode code 496 = .ok (.istore 5, 2) := by decide +kernel
theorem d_law_498 : decode code 498 = .ok (.aload_n 2, 1) := by decide +kernel
theorem d_law_499 : decode code 499 = .ok (.aload_n 0, 1) := by decide +kernel
theorem d_law_500 : decode code 500 = .ok (.iload 4, 2) := by decide +kernel
theorem d_law_502 : decode code 502 = .ok (.iconst 1, 1) := by decide +kernel
theorem d_law_503 : decode code 503 = .ok (.iadd, 1) := by decide +kernel
theorem d_law_504 : decode code 504 = .ok (.iaload, 1) := by decide +kernel
theorem d_law_505 : decode code 505 = .ok (.aload_n 0, 1) := by decide +kernel
theorem d_law_506 : decode code 506 = .ok (.iload 4, 2) := by decide +kernel
theorem d_law_508 : decode code 508 = .ok (.iconst 2, 1) := by decide +kernel
theorem d_law_509 : decode code 509 = .ok (.iadd, 1) := by decide +kernel
theorem d_law_510 : decode code 510 = .ok (.iaload, 1) := by decide +kernel
theorem d_law_511 : decode code 511 = .ok (.ifCond .eq 7, 3) := by decide +kernel
theorem d_law_514 : decode code 514 = .ok (.iconst 1, 1) := by decide +kernel
theorem d_law_515 : decode code 515 = .ok (.goto 4, 3) := by decide +kernel
theorem d_law_518 : decode code 518 = .ok (.iconst 0, 1) := by decide +kernel
theorem d_law_519 : decode code 519 = .ok (.aload_n 0, 1) := by decide +kernel
theorem d_law_520 : decode code 520 = .ok (.iload 4, 2) := by decide +kernel
theorem d_law_522 : decode code 522 = .ok (.iconst 3, 1) := by decide +kernel
theorem d_law_523 : decode code 523 = .ok (.iadd, 1) := by decide +kernel
theorem d_law_524 : decode code 524 = .ok (.iaload, 1) := by decide +kernel
theorem d_law_525 : decode code 525 = .ok (.invokevirtual 89, 3) := by decide +kernel
theorem d_law_528 : decode code 528 = .ok (.istore 6, 2) := by decide +kernel
theorem d_law_530 : decode code 530 = .ok (.aload_n 2, 1) := by decide +kernel
theorem d_law_531 : decode code 531 = .ok (.invokevirtual 64, 3) := by decide +kernel
theorem d_law_534 : decode code 534 = .ok (.iload 5, 2) := by decide +kernel
theorem d_law_536 : decode code 536 = .ok (.if_icmp .eq 5, 3) := by decide +kernel
theorem d_law_539 : decode code 539 = .ok (.iconst 0, 1) := by decide +kernel
theorem d_law_540 : decode code 540 = .ok (.ireturn, 1) := by decide +kernel
theorem d_law_541 : decode code 541 = .ok (.iload 5, 2) := by decide +kernel
theorem d_law_543 : decode code 543 = .ok (.ifCond .ne 15, 3) := by decide +kernel
theorem d_law_546 : decode code 546 = .ok (.aload_n 3, 1) := by decide +kernel
theorem d_law_547 : decode code 547 = .ok (.iconst 0, 1) := by decide +kernel
theorem d_law_548 : decode code 548 = .ok (.laload, 1) := by decide +kernel
theorem d_law_549 : decode code 549 = .ok (.iload 6, 2) := by decide +kernel
theorem d_law_551 : decode code 551 = .ok (.i2l, 1) := by decide +kernel
theorem d_law_552 : decode code 552 = .ok (.lcmp, 1) := by decide +kernel
theorem d_law_553 : decode code 553 = .ok (.ifCond .eq 5, 3) := by decide +kernel
theorem d_law_556 : decode code 556 = .ok (.iconst 0, 1) := by decide +kernel
theorem d_law_557 : decode code 557 = .ok (.ireturn, 1) := by decide +kernel
theorem d_law_558 : decode code 558 = .ok (.goto 417, 3) := by decide +kernel
theorem d_law_561 : decode code 561 = .ok (.aload_n 1, 1) := by decide +kernel
theorem d_law_562 : decode code 562 = .ok (.aload_n 0, 1) := by decide +kernel
theorem d_law_563 : decode code 563 = .ok (.iload 4, 2) := by decide +kernel
theorem d_law_565 : decode code 565 = .ok (.iconst 1, 1) := by decide +kernel
theorem d_law_566 : decode code 566 = .ok (.iadd, 1) := by decide +kernel
theorem d_law_567 : decode code 567 = .ok (.iaload, 1) := by decide +kernel
theorem d_law_568 : decode code 568 = .ok (.aload_n 0, 1) := by decide +kernel
theorem d_law_569 : decode code 569 = .ok (.iload 4, 2) := by decide +kernel
theorem d_law_571 : decode code 571 = .ok (.iconst 2, 1) := by decide +kernel
theorem d_law_572 : decode code 572 = .ok (.iadd, 1) := by decide +kernel
theorem d_law_573 : decode code 573 = .ok (.iaload, 1) := by decide +kernel
theorem d_law_574 : decode code 574 = .ok (.aload_n 3, 1) := by decide +kernel
theorem d_law_575 : decode code 575 = .ok (.invokestatic 90, 3) := by decide +kernel
theorem d_law_578 : decode code 578 = .ok (.istore 5, 2) := by decide +kernel
theorem d_law_580 : decode code 580 = .ok (.aload_n 2, 1) := by decide +kernel
theorem d_law_581 : decode code 581 = .ok (.aload_n 0, 1) := by decide +kernel
theorem d_law_582 : decode code 582 = .ok (.iload 4, 2) := by decide +kernel
theorem d_law_584 : decode code 584 = .ok (.iconst 1, 1) := by decide +kernel
theorem d_law_585 : decode code 585 = .ok (.iadd, 1) := by decide +kernel
theorem d_law_586 : decode code 586 = .ok (.iaload, 1) := by decide +kernel
theorem d_law_587 : decode code 587 = .ok (.aload_n 0, 1) := by decide +kernel
theorem d_law_588 : decode code 588 = .ok (.iload 4, 2) := by decide +kernel
theorem d_law_590 : decode code 590 = .ok (.iconst 2, 1) := by decide +kernel
theorem d_law_591 : decode code 591 = .ok (.iadd, 1) := by decide +kernel
theorem d_law_592 : decode code 592 = .ok (.iaload, 1) := by decide +kernel
theorem d_law_593 : decode code 593 = .ok (.invokevirtual 92, 3) := by decide +kernel
theorem d_law_596 : decode code 596 = .ok (.istore 6, 2) := by decide +kernel
theorem d_law_598 : decode code 598 = .ok (.aload_n 2, 1) := by decide +kernel
theorem d_law_599 : decode code 599 = .ok (.invokevirtual 64, 3) := by decide +kernel
theorem d_law_602 : decode code 602 = .ok (.iload 5, 2) := by decide +kernel
theorem d_law_604 : decode code 604 = .ok (.if_icmp .eq 5, 3) := by decide +kernel
theorem d_law_607 : decode code 607 = .ok (.iconst 0, 1) := by decide +kernel
theorem d_law_608 : decode code 608 = .ok (.ireturn, 1) := by decide +kernel
theorem d_law_609 : decode code 609 = .ok (.iload 5, 2) := by decide +kernel
theorem d_law_611 : decode code 611 = .ok (.ifCond .ne 22, 3) := by decide +kernel
theorem d_law_614 : decode code 614 = .ok (.aload_n 3, 1) := by decide +kernel
theorem d_law_615 : decode code 615 = .ok (.iconst 0, 1) := by decide +kernel
theorem d_law_616 : decode code 616 = .ok (.laload, 1) := by decide +kernel
theorem d_law_617 : decode code 617 = .ok (.iload 6, 2) := by decide +kernel
theorem d_law_619 : decode code 619 = .ok (.ifCond .eq 7, 3) := by decide +kernel
theorem d_law_622 : decode code 622 = .ok (.lconst 1, 1) := by decide +kernel
theorem d_law_623 : decode code 623 = .ok (.goto 4, 3) := by decide +kernel
theorem d_law_626 : decode code 626 = .ok (.lconst 0, 1) := by decide +kernel
theorem d_law_627 : decode code 627 = .ok (.lcmp, 1) := by decide +kernel
theorem d_law_628 : decode code 628 = .ok (.ifCond .eq 5, 3) := by decide +kernel
theorem d_law_631 : decode code 631 = .ok (.iconst 0, 1) := by decide +kernel
theorem d_law_632 : decode code 632 = .ok (.ireturn, 1) := by decide +kernel
theorem d_law_633 : decode code 633 = .ok (.goto 342, 3) := by decide +kernel
theorem d_law_636 : decode code 636 = .ok (.aload_n 1, 1) := by decide +kernel
theorem d_law_637 : decode code 637 = .ok (.aload_n 0, 1) := by decide +kernel
theorem d_law_638 : decode code 638 = .ok (.iload 4, 2) := by decide +kernel
theorem d_law_640 : decode code 640 = .ok (.iconst 1, 1) := by decide +kernel
theorem d_law_641 : decode code 641 = .ok (.iadd, 1) := by decide +kernel
theorem d_law_642 : decode code 642 = .ok (.iaload, 1) := by decide +kernel
theorem d_law_643 : decode code 643 = .ok (.aload_n 0, 1) := by decide +kernel
theorem d_law_644 : decode code 644 = .ok (.iload 4, 2) := by decide +kernel
theorem d_law_646 : decode code 646 = .ok (.iconst 2, 1) := by decide +kernel
theorem d_law_647 : decode code 647 = .ok (.iadd, 1) := by decide +kernel
theorem d_law_648 : decode code 648 = .ok (.iaload, 1) := by decide +kernel
theorem d_law_649 : decode code 649 = .ok (.aload_n 3, 1) := by decide +kernel
theorem d_law_650 : decode code 650 = .ok (.invokestatic 93, 3) := by decide +kernel
theorem d_law_653 : decode code 653 = .ok (.istore 5, 2) := by decide +kernel
theorem d_law_655 : decode code 655 = .ok (.aload_n 2, 1) := by decide +kernel
theorem d_law_656 : decode code 656 = .ok (.aload_n 0, 1) := by decide +kernel
theorem d_law_657 : decode code 657 = .ok (.iload 4, 2) := by decide +kernel
theorem d_law_659 : decode code 659 = .ok (.iconst 1, 1) := by decide +kernel
theorem d_law_660 : decode code 660 = .ok (.iadd, 1) := by decide +kernel
theorem d_law_661 : decode code 661 = .ok (.iaload, 1) := by decide +kernel
theorem d_law_662 : decode code 662 = .ok (.aload_n 0, 1) := by decide +kernel
theorem d_law_663 : decode code 663 = .ok (.iload 4, 2) := by decide +kernel
theorem d_law_665 : decode code 665 = .ok (.iconst 2, 1) := by decide +kernel
theorem d_law_666 : decode code 666 = .ok (.iadd, 1) := by decide +kernel
theorem d_law_667 : decode code 667 = .ok (.iaload, 1) := by decide +kernel
theorem d_law_668 : decode code 668 = .ok (.invokevirtual 95, 3) := by decide +kernel
theorem d_law_671 : decode code 671 = .ok (.istore 6, 2) := by decide +kernel
theorem d_law_673 : decode code 673 = .ok (.aload_n 2, 1) := by decide +kernel
theorem d_law_674 : decode code 674 = .ok (.invokevirtual 64, 3) := by decide +kernel
theorem d_law_677 : decode code 677 = .ok (.iload 5, 2) := by decide +kernel
theorem d_law_679 : decode code 679 = .ok (.if_icmp .eq 5, 3) := by decide +kernel
theorem d_law_682 : decode code 682 = .ok (.iconst 0, 1) := by decide +kernel
theorem d_law_683 : decode code 683 = .ok (.ireturn, 1) := by decide +kernel
theorem d_law_684 : decode code 684 = .ok (.iload 5, 2) := by decide +kernel
theorem d_law_686 : decode code 686 = .ok (.ifCond .ne 22, 3) := by decide +kernel
theorem d_law_689 : decode code 689 = .ok (.aload_n 3, 1) := by decide +kernel
theorem d_law_690 : decode code 690 = .ok (.iconst 0, 1) := by decide +kernel
theorem d_law_691 : decode code 691 = .ok (.laload, 1) := by decide +kernel
theorem d_law_692 : decode code 692 = .ok (.iload 6, 2) := by decide +kernel
theorem d_law_694 : decode code 694 = .ok (.ifCond .eq 7, 3) := by decide +kernel
theorem d_law_697 : decode code 697 = .ok (.lconst 1, 1) := by decide +kernel
theorem d_law_698 : decode code 698 = .ok (.goto 4, 3) := by decide +kernel
theorem d_law_701 : decode code 701 = .ok (.lconst 0, 1) := by decide +kernel
theorem d_law_702 : decode code 702 = .ok (.lcmp, 1) := by decide +kernel
theorem d_law_703 : decode code 703 = .ok (.ifCond .eq 5, 3) := by decide +kernel
theorem d_law_706 : decode code 706 = .ok (.iconst 0, 1) := by decide +kernel
theorem d_law_707 : decode code 707 = .ok (.ireturn, 1) := by decide +kernel
theorem d_law_708 : decode code 708 = .ok (.goto 267, 3) := by decide +kernel
theorem d_law_711 : decode code 711 = .ok (.aload_n 1, 1) := by decide +kernel
theorem d_law_712 : decode code 712 = .ok (.aload_n 0, 1) := by decide +kernel
theorem d_law_713 : decode code 713 = .ok (.iload 4, 2) := by decide +kernel
theorem d_law_715 : decode code 715 = .ok (.iconst 1, 1) := by decide +kernel
theorem d_law_716 : decode code 716 = .ok (.iadd, 1) := by decide +kernel
theorem d_law_717 : decode code 717 = .ok (.iaload, 1) := by decide +kernel
theorem d_law_718 : decode code 718 = .ok (.aload_n 0, 1) := by decide +kernel
theorem d_law_719 : decode code 719 = .ok (.iload 4, 2) := by decide +kernel
theorem d_law_721 : decode code 721 = .ok (.iconst 2, 1) := by decide +kernel
theorem d_law_722 : decode code 722 = .ok (.iadd, 1) := by decide +kernel
theorem d_law_723 : decode code 723 = .ok (.iaload, 1) := by decide +kernel
theorem d_law_724 : decode code 724 = .ok (.aload_n 0, 1) := by decide +kernel
theorem d_law_725 : decode code 725 = .ok (.iload 4, 2) := by decide +kernel
theorem d_law_727 : decode code 727 = .ok (.iconst 3, 1) := by decide +kernel
theorem d_law_728 : decode code 728 = .ok (.iadd, 1) := by decide +kernel
theorem d_law_729 : decode code 729 = .ok (.iaload, 1) := by decide +kernel
theorem d_law_730 : decode code 730 = .ok (.aload_n 3, 1) := by decide +kernel
theorem d_law_731 : decode code 731 = .ok (.invokestatic 96, 3) := by decide +kernel
theorem d_law_734 : decode code 734 = .ok (.istore 5, 2) := by decide +kernel
theorem d_law_736 : decode code 736 = .ok (.aload_n 2, 1) := by decide +kernel
theorem d_law_737 : decode code 737 = .ok (.aload_n 0, 1) := by decide +kernel
theorem d_law_738 : decode code 738 = .ok (.iload 4, 2) := by decide +kernel
theorem d_law_740 : decode code 740 = .ok (.iconst 1, 1) := by decide +kernel
theorem d_law_741 : decode code 741 = .ok (.iadd, 1) := by decide +kernel
theorem d_law_742 : decode code 742 = .ok (.iaload, 1) := by decide +kernel
theorem d_law_743 : decode code 743 = .ok (.aload_n 0, 1) := by decide +kernel
theorem d_law_744 : decode code 744 = .ok (.iload 4, 2) := by decide +kernel
theorem d_law_746 : decode code 746 = .ok (.iconst 2, 1) := by decide +kernel
theorem d_law_747 : decode code 747 = .ok (.iadd, 1) := by decide +kernel
theorem d_law_748 : decode code 748 = .ok (.iaload, 1) := by decide +kernel
theorem d_law_749 : decode code 749 = .ok (.aload_n 0, 1) := by decide +kernel
theorem d_law_750 : decode code 750 = .ok (.iload 4, 2) := by decide +kernel
theorem d_law_752 : decode code 752 = .ok (.iconst 3, 1) := by decide +kernel
theorem d_law_753 : decode code 753 = .ok (.iadd, 1) := by decide +kernel
theorem d_law_754 : decode code 754 = .ok (.iaload, 1) := by decide +kernel
theorem d_law_755 : decode code 755 = .ok (.invokevirtual 99, 3) := by decide +kernel
theorem d_law_758 : decode code 758 = .ok (.istore 6, 2) := by decide +kernel
theorem d_law_760 : decode code 760 = .ok (.aload_n 2, 1) := by decide +kernel
theorem d_law_761 : decode code 761 = .ok (.invokevirtual 64, 3) := by decide +kernel
theorem d_law_764 : decode code 764 = .ok (.iload 5, 2) := by decide +kernel
theorem d_law_766 : decode code 766 = .ok (.if_icmp .eq 5, 3) := by decide +kernel
theorem d_law_769 : decode code 769 = .ok (.iconst 0, 1) := by decide +kernel
theorem d_law_770 : decode code 770 = .ok (.ireturn, 1) := by decide +kernel
theorem d_law_771 : decode code 771 = .ok (.iload 5, 2) := by decide +kernel
theorem d_law_773 : decode code 773 = .ok (.ifCond .ne 15, 3) := by decide +kernel
theorem d_law_776 : decode code 776 = .ok (.aload_n 3, 1) := by decide +kernel
theorem d_law_777 : decode code 777 = .ok (.iconst 0, 1) := by decide +kernel
theorem d_law_778 : decode code 778 = .ok (.laload, 1) := by decide +kernel
theorem d_law_779 : decode code 779 = .ok (.iload 6, 2) := by decide +kernel
theorem d_law_781 : decode code 781 = .ok (.i2l, 1) := by decide +kernel
theorem d_law_782 : decode code 782 = .ok (.lcmp, 1) := by decide +kernel
theorem d_law_783 : decode code 783 = .ok (.ifCond .eq 5, 3) := by decide +kernel
theorem d_law_786 : decode code 786 = .ok (.iconst 0, 1) := by decide +kernel
theorem d_law_787 : decode code 787 = .ok (.ireturn, 1) := by decide +kernel
theorem d_law_788 : decode code 788 = .ok (.goto 187, 3) := by decide +kernel
theorem d_law_791 : decode code 791 = .ok (.aload_n 1, 1) := by decide +kernel
theorem d_law_792 : decode code 792 = .ok (.aload_n 0, 1) := by decide +kernel
theorem d_law_793 : decode code 793 = .ok (.iload 4, 2) := by decide +kernel
theorem d_law_795 : decode code 795 = .ok (.iconst 1, 1) := by decide +kernel
theorem d_law_796 : decode code 796 = .ok (.iadd, 1) := by decide +kernel
theorem d_law_797 : decode code 797 = .ok (.iaload, 1) := by decide +kernel
theorem d_law_798 : decode code 798 = .ok (.aload_n 0, 1) := by decide +kernel
theorem d_law_799 : decode code 799 = .ok (.iload 4, 2) := by decide +kernel
theorem d_law_801 : decode code 801 = .ok (.iconst 2, 1) := by decide +kernel
theorem d_law_802 : decode code 802 = .ok (.iadd, 1) := by decide +kernel
theorem d_law_803 : decode code 803 = .ok (.iaload, 1) := by decide +kernel
theorem d_law_804 : decode code 804 = .ok (.aload_n 3, 1) := by decide +kernel
theorem d_law_805 : decode code 805 = .ok (.invokestatic 100, 3) := by decide +kernel
theorem d_law_808 : decode code 808 = .ok (.istore 5, 2) := by decide +kernel
theorem d_law_810 : decode code 810 = .ok (.aload_n 2, 1) := by decide +kernel
theorem d_law_811 : decode code 811 = .ok (.aload_n 0, 1) := by decide +kernel
theorem d_law_812 : decode code 812 = .ok (.iload 4, 2) := by decide +kernel
theorem d_law_814 : decode code 814 = .ok (.iconst 1, 1) := by decide +kernel
theorem d_law_815 : decode code 815 = .ok (.iadd, 1) := by decide +kernel
theorem d_law_816 : decode code 816 = .ok (.iaload, 1) := by decide +kernel
theorem d_law_817 : decode code 817 = .ok (.aload_n 0, 1) := by decide +kernel
theorem d_law_818 : decode code 818 = .ok (.iload 4, 2) := by decide +kernel
theorem d_law_820 : decode code 820 = .ok (.iconst 2, 1) := by decide +kernel
theorem d_law_821 : decode code 821 = .ok (.iadd, 1) := by decide +kernel
theorem d_law_822 : decode code 822 = .ok (.iaload, 1) := by decide +kernel
theorem d_law_823 : decode code 823 = .ok (.invokevirtual 102, 3) := by decide +kernel
theorem d_law_826 : decode code 826 = .ok (.istore 6, 2) := by decide +kernel
theorem d_law_828 : decode code 828 = .ok (.aload_n 2, 1) := by decide +kernel
theorem d_law_829 : decode code 829 = .ok (.invokevirtual 64, 3) := by decide +kernel
theorem d_law_832 : decode code 832 = .ok (.iload 5, 2) := by decide +kernel
theorem d_law_834 : decode code 834 = .ok (.if_icmp .eq 5, 3) := by decide +kernel
theorem d_law_837 : decode code 837 = .ok (.iconst 0, 1) := by decide +kernel
theorem d_law_838 : decode code 838 = .ok (.ireturn, 1) := by decide +kernel
theorem d_law_839 : decode code 839 = .ok (.iload 5, 2) := by decide +kernel
theorem d_law_841 : decode code 841 = .ok (.ifCond .ne 15, 3) := by decide +kernel
theorem d_law_844 : decode code 844 = .ok (.aload_n 3, 1) := by decide +kernel
theorem d_law_845 : decode code 845 = .ok (.iconst 0, 1) := by decide +kernel
theorem d_law_846 : decode code 846 = .ok (.laload, 1) := by decide +kernel
theorem d_law_847 : decode code 847 = .ok (.iload 6, 2) := by decide +kernel
theorem d_law_849 : decode code 849 = .ok (.i2l, 1) := by decide +kernel
theorem d_law_850 : decode code 850 = .ok (.lcmp, 1) := by decide +kernel
theorem d_law_851 : decode code 851 = .ok (.ifCond .eq 5, 3) := by decide +kernel
theorem d_law_854 : decode code 854 = .ok (.iconst 0, 1) := by decide +kernel
theorem d_law_855 : decode code 855 = .ok (.ireturn, 1) := by decide +kernel
theorem d_law_856 : decode code 856 = .ok (.goto 119, 3) := by decide +kernel
theorem d_law_859 : decode code 859 = .ok (.aload_n 1, 1) := by decide +kernel
theorem d_law_860 : decode code 860 = .ok (.aload_n 0, 1) := by decide +kernel
theorem d_law_861 : decode code 861 = .ok (.iload 4, 2) := by decide +kernel
theorem d_law_863 : decode code 863 = .ok (.iconst 1, 1) := by decide +kernel
theorem d_law_864 : decode code 864 = .ok (.iadd, 1) := by decide +kernel
theorem d_law_865 : decode code 865 = .ok (.iaload, 1) := by decide +kernel
theorem d_law_866 : decode code 866 = .ok (.aload_n 0, 1) := by decide +kernel
theorem d_law_867 : decode code 867 = .ok (.iload 4, 2) := by decide +kernel
theorem d_law_869 : decode code 869 = .ok (.iconst 2, 1) := by decide +kernel
theorem d_law_870 : decode code 870 = .ok (.iadd, 1) := by decide +kernel
theorem d_law_871 : decode code 871 = .ok (.iaload, 1) := by decide +kernel
theorem d_law_872 : decode code 872 = .ok (.aload_n 0, 1) := by decide +kernel
theorem d_law_873 : decode code 873 = .ok (.iload 4, 2) := by decide +kernel
theorem d_law_875 : decode code 875 = .ok (.iconst 3, 1) := by decide +kernel
theorem d_law_876 : decode code 876 = .ok (.iadd, 1) := by decide +kernel
theorem d_law_877 : decode code 877 = .ok (.iaload, 1) := by decide +kernel
theorem d_law_878 : decode code 878 = .ok (.aload_n 3, 1) := by decide +kernel
theorem d_law_879 : decode code 879 = .ok (.invokestatic 103, 3) := by decide +kernel
theorem d_law_882 : decode code 882 = .ok (.istore 5, 2) := by decide +kernel
theorem d_law_884 : decode code 884 = .ok (.aload_n 2, 1) := by decide +kernel
theorem d_law_885 : decode code 885 = .ok (.aload_n 0, 1) := by decide +kernel
theorem d_law_886 : decode code 886 = .ok (.iload 4, 2) := by decide +kernel
theorem d_law_888 : decode code 888 = .ok (.iconst 1, 1) := by decide +kernel
theorem d_law_889 : decode code 889 = .ok (.iadd, 1) := by decide +kernel
theorem d_law_890 : decode code 890 = .ok (.iaload, 1) := by decide +kernel
theorem d_law_891 : decode code 891 = .ok (.aload_n 0, 1) := by decide +kernel
theorem d_law_892 : decode code 892 = .ok (.iload 4, 2) := by decide +kernel
theorem d_law_894 : decode code 894 = .ok (.iconst 2, 1) := by decide +kernel
theorem d_law_895 : decode code 895 = .ok (.iadd, 1) := by decide +kernel
theorem d_law_896 : decode code 896 = .ok (.iaload, 1) := by decide +kernel
theorem d_law_897 : decode code 897 = .ok (.aload_n 0, 1) := by decide +kernel
theorem d_law_898 : decode code 898 = .ok (.iload 4, 2) := by decide +kernel
theorem d_law_900 : decode code 900 = .ok (.iconst 3, 1) := by decide +kernel
theorem d_law_901 : decode code 901 = .ok (.iadd, 1) := by decide +kernel
theorem d_law_902 : decode code 902 = .ok (.iaload, 1) := by decide +kernel
theorem d_law_903 : decode code 903 = .ok (.invokevirtual 105, 3) := by decide +kernel
theorem d_law_906 : decode code 906 = .ok (.istore 6, 2) := by decide +kernel
theorem d_law_908 : decode code 908 = .ok (.aload_n 2, 1) := by decide +kernel
theorem d_law_909 : decode code 909 = .ok (.invokevirtual 64, 3) := by decide +kernel
theorem d_law_912 : decode code 912 = .ok (.iload 5, 2) := by decide +kernel
theorem d_law_914 : decode code 914 = .ok (.if_icmp .eq 5, 3) := by decide +kernel
theorem d_law_917 : decode code 917 = .ok (.iconst 0, 1) := by decide +kernel
theorem d_law_918 : decode code 918 = .ok (.ireturn, 1) := by decide +kernel
theorem d_law_919 : decode code 919 = .ok (.iload 5, 2) := by decide +kernel
theorem d_law_921 : decode code 921 = .ok (.ifCond .ne 15, 3) := by decide +kernel
theorem d_law_924 : decode code 924 = .ok (.aload_n 3, 1) := by decide +kernel
theorem d_law_925 : decode code 925 = .ok (.iconst 0, 1) := by decide +kernel
theorem d_law_926 : decode code 926 = .ok (.laload, 1) := by decide +kernel
theorem d_law_927 : decode code 927 = .ok (.iload 6, 2) := by decide +kernel
theorem d_law_929 : decode code 929 = .ok (.i2l, 1) := by decide +kernel
theorem d_law_930 : decode code 930 = .ok (.lcmp, 1) := by decide +kernel
theorem d_law_931 : decode code 931 = .ok (.ifCond .eq 5, 3) := by decide +kernel
theorem d_law_934 : decode code 934 = .ok (.iconst 0, 1) := by decide +kernel
theorem d_law_935 : decode code 935 = .ok (.ireturn, 1) := by decide +kernel
theorem d_law_936 : decode code 936 = .ok (.goto 39, 3) := by decide +kernel
theorem d_law_939 : decode code 939 = .ok (.aload_n 1, 1) := by decide +kernel
theorem d_law_940 : decode code 940 = .ok (.aload_n 0, 1) := by decide +kernel
theorem d_law_941 : decode code 941 = .ok (.iload 4, 2) := by decide +kernel
theorem d_law_943 : decode code 943 = .ok (.iconst 1, 1) := by decide +kernel
theorem d_law_944 : decode code 944 = .ok (.iadd, 1) := by decide +kernel
theorem d_law_945 : decode code 945 = .ok (.iaload, 1) := by decide +kernel
theorem d_law_946 : decode code 946 = .ok (.invokevirtual 106, 3) := by decide +kernel
theorem d_law_949 : decode code 949 = .ok (.aload_n 2, 1) := by decide +kernel
theorem d_law_950 : decode code 950 = .ok (.aload_n 0, 1) := by decide +kernel
theorem d_law_951 : decode code 951 = .ok (.iload 4, 2) := by decide +kernel
theorem d_law_953 : decode code 953 = .ok (.iconst 1, 1) := by decide +kernel
theorem d_law_954 : decode code 954 = .ok (.iadd, 1) := by decide +kernel
theorem d_law_955 : decode code 955 = .ok (.iaload, 1) := by decide +kernel
theorem d_law_956 : decode code 956 = .ok (.invokevirtual 109, 3) := by decide +kernel
theorem d_law_959 : decode code 959 = .ok (.if_icmp .eq 16, 3) := by decide +kernel
theorem d_law_962 : decode code 962 = .ok (.iconst 0, 1) := by decide +kernel
theorem d_law_963 : decode code 963 = .ok (.ireturn, 1) := by decide +kernel
theorem d_law_964 : decode code 964 = .ok (.aload_n 1, 1) := by decide +kernel
theorem d_law_965 : decode code 965 = .ok (.invokevirtual 110, 3) := by decide +kernel
theorem d_law_968 : decode code 968 = .ok (.aload_n 2, 1) := by decide +kernel
theorem d_law_969 : decode code 969 = .ok (.invokevirtual 113, 3) := by decide +kernel
theorem d_law_972 : decode code 972 = .ok (.goto 3, 3) := by decide +kernel
theorem d_law_975 : decode code 975 = .ok (.iinc 4 6, 3) := by decide +kernel
theorem d_law_978 : decode code 978 = .ok (.goto (-955), 3) := by decide +kernel
theorem d_law_981 : decode code 981 = .ok (.iconst 1, 1) := by decide +kernel
theorem d_law_982 : decode code 982 = .ok (.ireturn, 1) := by decide +kernel
