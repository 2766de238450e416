/-! the law's own walk, case by case (printed by gen_law.py) -/
theorem d_law_0 : decode code 0 = .ok (.new 8, 3) := by decide +kernel
theorem d_law_3 : decode code 3 = .ok (.dup, 1) := by decide +kernel
theorem d_law_4 : decode code 4 = .ok (.invokespecial 71, 3) := by decide +kernel
theorem d_law_7 : decode code 7 = .ok (.astore_n 1, 1) := by decide +kernel
theorem d_law_8 : decode code 8 = .ok (.new 72, 3) := by decide +kernel
theorem d_law_11 : decode code 11 = .ok (.dup, 1) := by decide +kernel
theorem d_law_12 : decode code 12 = .ok (.invokespecial 74, 3) := by decide +kernel
theorem d_law_15 : decode code 15 = .ok (.astore_n 2, 1) := by decide +kernel
theorem d_law_16 : decode code 16 = .ok (.iconst 1, 1) := by decide +kernel
theorem d_law_17 : decode code 17 = .ok (.newarray .long, 2) := by decide +kernel
theorem d_law_19 : decode code 19 = .ok (.astore_n 3, 1) := by decide +kernel
theorem d_law_20 : decode code 20 = .ok (.iconst 0, 1) := by decide +kernel
theorem d_law_21 : decode code 21 = .ok (.istore 4, 2) := by decide +kernel
theorem d_law_23 : decode code 23 = .ok (.iload 4, 2) := by decide +kernel
theorem d_law_25 : decode code 25 = .ok (.aload_n 0, 1) := by decide +kernel
theorem d_law_26 : decode code 26 = .ok (.arraylength, 1) := by decide +kernel
theorem d_law_27 : decode code 27 = .ok (.bipush 6, 2) := by decide +kernel
theorem d_law_29 : decode code 29 = .ok (.isub, 1) := by decide +kernel
theorem d_law_30 : decode code 30 = .ok (.if_icmp .gt 1160, 3) := by decide +kernel
theorem d_law_33 : decode code 33 = .ok (.aload_n 0, 1) := by decide +kernel
theorem d_law_34 : decode code 34 = .ok (.iload 4, 2) := by decide +kernel
theorem d_law_36 : decode code 36 = .ok (.iaload, 1) := by decide +kernel
theorem d_law_37 : decode code 37 = .ok (.bipush 31, 2) := by decide +kernel
theorem d_law_39 : decode code 39 = .ok (.iand, 1) := by decide +kernel
theorem d_law_40 : decode code 40 = .ok (.tableswitch 1144 0 16 #[84, 188, 244, 281, 361, 417, 484, 540, 596, 651, 707, 763, 819, 927, 983, 1051, 1119], 84) := by decide +kernel
theorem d_law_124 : decode code 124 = .ok (.aload_n 1, 1) := by decide +kernel
theorem d_law_125 : decode code 125 = .ok (.aload_n 0, 1) := by decide +kernel
theorem d_law_126 : decode code 126 = .ok (.iload 4, 2) := by decide +kernel
theorem d_law_128 : decode code 128 = .ok (.iconst 1, 1) := by decide +kernel
theorem d_law_129 : decode code 129 = .ok (.iadd, 1) := by decide +kernel
theorem d_law_130 : decode code 130 = .ok (.iaload, 1) := by decide +kernel
theorem d_law_131 : decode code 131 = .ok (.aload_n 0, 1) := by decide +kernel
theorem d_law_132 : decode code 132 = .ok (.iload 4, 2) := by decide +kernel
theorem d_law_134 : decode code 134 = .ok (.iconst 2, 1) := by decide +kernel
theorem d_law_135 : decode code 135 = .ok (.iadd, 1) := by decide +kernel
theorem d_law_136 : decode code 136 = .ok (.iaload, 1) := by decide +kernel
theorem d_law_137 : decode code 137 = .ok (.aload_n 0, 1) := by decide +kernel
theorem d_law_138 : decode code 138 = .ok (.iload 4, 2) := by decide +kernel
theorem d_law_140 : decode code 140 = .ok (.iconst 3, 1) := by decide +kernel
theorem d_law_141 : decode code 141 = .ok (.iadd, 1) := by decide +kernel
theorem d_law_142 : decode code 142 = .ok (.iaload, 1) := by decide +kernel
theorem d_law_143 : decode code 143 = .ok (.aload_n 0, 1) := by decide +kernel
theorem d_law_144 : decode code 144 = .ok (.iload 4, 2) := by decide +kernel
theorem d_law_146 : decode code 146 = .ok (.iconst 4, 1) := by decide +kernel
theorem d_law_147 : decode code 147 = .ok (.iadd, 1) := by decide +kernel
theorem d_law_148 : decode code 148 = .ok (.iaload, 1) := by decide +kernel
theorem d_law_149 : decode code 149 = .ok (.aload_n 0, 1) := by decide +kernel
theorem d_law_150 : decode code 150 = .ok (.iload 4, 2) := by decide +kernel
theorem d_law_152 : decode code 152 = .ok (.iconst 5, 1) := by decide +kernel
theorem d_law_153 : decode code 153 = .ok (.iadd, 1) := by decide +kernel
theorem d_law_154 : decode code 154 = .ok (.iaload, 1) := by decide +kernel
theorem d_law_155 : decode code 155 = .ok (.aload_n 3, 1) := by decide +kernel
theorem d_law_156 : decode code 156 = .ok (.invokestatic 75, 3) := by decide +kernel
theorem d_law_159 : decode code 159 = .ok (.istore 5, 2) := by decide +kernel
theorem d_law_161 : decode code 161 = .ok (.aload_n 2, 1) := by decide +kernel
theorem d_law_162 : decode code 162 = .ok (.aload_n 0, 1) := by decide +kernel
theorem d_law_163 : decode code 163 = .ok (.iload 4, 2) := by decide +kernel
theorem d_law_165 : decode code 165 = .ok (.iconst 1, 1) := by decide +kernel
theorem d_law_166 : decode code 166 = .ok (.iadd, 1) := by decide +kernel
theorem d_law_167 : decode code 167 = .ok (.iaload, 1) := by decide +kernel
theorem d_law_168 : decode code 168 = .ok (.aload_n 0, 1) := by decide +kernel
theorem d_law_169 : decode code 169 = .ok (.iload 4, 2) := by decide +kernel
theorem d_law_171 : decode code 171 = .ok (.iconst 2, 1) := by decide +kernel
theorem d_law_172 : decode code 172 = .ok (.iadd, 1) := by decide +kernel
theorem d_law_173 : decode code 173 = .ok (.iaload, 1) := by decide +kernel
theorem d_law_174 : decode code 174 = .ok (.aload_n 0, 1) := by decide +kernel
theorem d_law_175 : decode code 175 = .ok (.iload 4, 2) := by decide +kernel
theorem d_law_177 : decode code 177 = .ok (.iconst 3, 1) := by decide +kernel
theorem d_law_178 : decode code 178 = .ok (.iadd, 1) := by decide +kernel
theorem d_law_179 : decode code 179 = .ok (.iaload, 1) := by decide +kernel
theorem d_law_180 : decode code 180 = .ok (.aload_n 0, 1) := by decide +kernel
theorem d_law_181 : decode code 181 = .ok (.iload 4, 2) := by decide +kernel
theorem d_law_183 : decode code 183 = .ok (.iconst 4, 1) := by decide +kernel
theorem d_law_184 : decode code 184 = .ok (.iadd, 1) := by decide +kernel
theorem d_law_185 : decode code 185 = .ok (.iaload, 1) := by decide +kernel
theorem d_law_186 : decode code 186 = .ok (.aload_n 0, 1) := by decide +kernel
theorem d_law_187 : decode code 187 = .ok (.iload 4, 2) := by decide +kernel
theorem d_law_189 : decode code 189 = .ok (.iconst 5, 1) := by decide +kernel
theorem d_law_190 : decode code 190 = .ok (.iadd, 1) := by decide +kernel
theorem d_law_191 : decode code 191 = .ok (.iaload, 1) := by decide +kernel
theorem d_law_192 : decode code 192 = .ok (.invokevirtual 80, 3) := by decide +kernel
theorem d_law_195 : decode code 195 = .ok (.istore 6, 2) := by decide +kernel
theorem d_law_197 : decode code 197 = .ok (.aload_n 2, 1) := by decide +kernel
theorem d_law_198 : decode code 198 = .ok (.invokevirtual 81, 3) := by decide +kernel
theorem d_law_201 : decode code 201 = .ok (.iload 5, 2) := by decide +kernel
theorem d_law_203 : decode code 203 = .ok (.if_icmp .eq 5, 3) := by decide +kernel
theorem d_law_206 : decode code 206 = .ok (.iconst 0, 1) := by decide +kernel
theorem d_law_207 : decode code 207 = .ok (.ireturn, 1) := by decide +kernel
theorem d_law_208 : decode code 208 = .ok (.iload 5, 2) := by decide +kernel
theorem d_law_210 : decode code 210 = .ok (.ifCond .ne 15, 3) := by decide +kernel
theorem d_law_213 : decode code 213 = .ok (.aload_n 3, 1) := by decide +kernel
theorem d_law_214 : decode code 214 = .ok (.iconst 0, 1) := by decide +kernel
theorem d_law_215 : decode code 215 = .ok (.laload, 1) := by decide +kernel
theorem d_law_216 : decode code 216 = .ok (.iload 6, 2) := by decide +kernel
theorem d_law_218 : decode code 218 = .ok (.i2l, 1) := by decide +kernel
theorem d_law_219 : decode code 219 = .ok (.lcmp, 1) := by decide +kernel
theorem d_law_220 : decode code 220 = .ok (.ifCond .eq 5, 3) := by decide +kernel
theorem d_law_223 : decode code 223 = .ok (.iconst 0, 1) := by decide +kernel
theorem d_law_224 : decode code 224 = .ok (.ireturn, 1) := by decide +kernel
theorem d_law_225 : decode code 225 = .ok (.goto 959, 3) := by decide +kernel
theorem d_law_228 : decode code 228 = .ok (.aload_n 1, 1) := by decide +kernel
theorem d_law_229 : decode code 229 = .ok (.aload_n 0, 1) := by decide +kernel
theorem d_law_230 : decode code 230 = .ok (.iload 4, 2) := by decide +kernel
theorem d_law_232 : decode code 232 = .ok (.iconst 1, 1) := by decide +kernel
theorem d_law_233 : decode code 233 = .ok (.iadd, 1) := by decide +kernel
theorem d_law_234 : decode code 234 = .ok (.iaload, 1) := by decide +kernel
theorem d_law_235 : decode code 235 = .ok (.aload_n 3, 1) := by decide +kernel
theorem d_law_236 : decode code 236 = .ok (.invokestatic 85, 3) := by decide +kernel
theorem d_law_239 : decode code 239 = .ok (.istore 5, 2) := by decide +kernel
theorem d_law_241 : decode code 241 = .ok (.aload_n 2, 1) := by decide +kernel
theorem d_law_242 : decode code 242 = .ok (.aload_n 0, 1) := by decide +kernel
theorem d_law_243 : decode code 243 = .ok (.iload 4, 2) := by decide +kernel
theorem d_law_245 : decode code 245 = .ok (.iconst 1, 1) := by decide +kernel
theorem d_law_246 : decode code 246 = .ok (.iadd, 1) := by decide +kernel
theorem d_law_247 : decode code 247 = .ok (.iaload, 1) := by decide +kernel
theorem d_law_248 : decode code 248 = .ok (.invokevirtual 88, 3) := by decide +kernel
theorem d_law_251 : decode code 251 = .ok (.istore 6, 2) := by decide +kernel
theorem d_law_253 : decode code 253 = .ok (.aload_n 2, 1) := by decide +kernel
theorem d_law_254 : decode code 254 = .ok (.invokevirtual 81, 3) := by decide +kernel
theorem d_law_257 : decode code 257 = .ok (.iload 5, 2) := by decide +kernel
theorem d_law_259 : decode code 259 = .ok (.if_icmp .eq 5, 3) := by decide +kernel
theorem d_law_262 : decode code 262 = .ok (.iconst 0, 1) := by decide +kernel
theorem d_law_263 : decode code 263 = .ok (.ireturn, 1) := by decide +kernel
theorem d_law_264 : decode code 264 = .ok (.iload 5, 2) := by decide +kernel
theorem d_law_266 : decode code 266 = .ok (.ifCond .ne 15, 3) := by decide +kernel
theorem d_law_269 : decode code 269 = .ok (.aload_n 3, 1) := by decide +kernel
theorem d_law_270 : decode code 270 = .ok (.iconst 0, 1) := by decide +kernel
theorem d_law_271 : decode code 271 = .ok (.laload, 1) := by decide +kernel
theorem d_law_272 : decode code 272 = .ok (.iload 6, 2) := by decide +kernel
theorem d_law_274 : decode code 274 = .ok (.i2l, 1) := by decide +kernel
theorem d_law_275 : decode code 275 = .ok (.lcmp, 1) := by decide +kernel
theorem d_law_276 : decode code 276 = .ok (.ifCond .eq 5, 3) := by decide +kernel
theorem d_law_279 : decode code 279 = .ok (.iconst 0, 1) := by decide +kernel
theorem d_law_280 : decode code 280 = .ok (.ireturn, 1) := by decide +kernel
theorem d_law_281 : decode code 281 = .ok (.goto 903, 3) := by decide +kernel
theorem d_law_284 : decode code 284 = .ok (.aload_n 1, 1) := by decide +kernel
theorem d_law_285 : decode code 285 = .ok (.aload_n 0, 1) := by decide +kernel
theorem d_law_286 : decode code 286 = .ok (.iload 4, 2) := by decide +kernel
theorem d_law_288 : decode code 288 = .ok (.iconst 1, 1) := by decide +kernel
theorem d_law_289 : decode code 289 = .ok (.iadd, 1) := by decide +kernel
theorem d_law_290 : decode code 290 = .ok (.iaload, 1) := by decide +kernel
theorem d_law_291 : decode code 291 = .ok (.aload_n 0, 1) := by decide +kernel
theorem d_law_292 : decode code 292 = .ok (.iload 4, 2) := by decide +kernel
theorem d_law_294 : decode code 294 = .ok (.iconst 2, 1) := by decide +kernel
theorem d_law_295 : decode code 295 = .ok (.iadd, 1) := by decide +kernel
theorem d_law_296 : decode code 296 = .ok (.iaload, 1) := by decide +kernel
theorem d_law_297 : decode code 297 = .ok (.invokevirtual 89, 3) := by decide +kernel
theorem d_law_300 : decode code 300 = .ok (.aload_n 2, 1) := by decide +kernel
theorem d_law_301 : decode code 301 = .ok (.aload_n 0, 1) := by decide +kernel
theorem d_law_302 : decode code 302 = .ok (.iload 4, 2) := by decide +kernel
theorem d_law_304 : decode code 304 = .ok (.iconst 1, 1) := by decide +kernel
theorem d_law_305 : decode code 305 = .ok (.iadd, 1) := by decide +kernel
theorem d_law_306 : decode code 306 = .ok (.iaload, 1) := by decide +kernel
theorem d_law_307 : decode code 307 = .ok (.aload_n 0, 1) := by decide +kernel
theorem d_law_308 : decode code 308 = .ok (.iload 4, 2) := by decide +kernel
theorem d_law_310 : decode code 310 = .ok (.iconst 2, 1) := by decide +kernel
theorem d_law_311 : decode code 311 = .ok (.iadd, 1) := by decide +kernel
theorem d_law_312 : decode code 312 = .ok (.iaload, 1) := by decide +kernel
theorem d_law_313 : decode code 313 = .ok (.invokevirtual 92, 3) := by decide +kernel
theorem d_law_316 : decode code 316 = .ok (.if_icmp .eq 868, 3) := by decide +kernel
theorem d_law_319 : decode code 319 = .ok (.iconst 0, 1) := by decide +kernel
theorem d_law_320 : decode code 320 = .ok (.ireturn, 1) := by decide +kernel
theorem d_law_321 : decode code 321 = .ok (.aload_n 1, 1) := by decide +kernel
theorem d_law_322 : decode code 322 = .ok (.aload_n 0, 1) := by decide +kernel
theorem d_law_323 : decode code 323 = .ok (.iload 4, 2) := by decide +kernel
theorem d_law_325 : decode code 325 = .ok (.iconst 1, 1) := by decide +kernel
theorem d_law_326 : decode code 326 = .ok (.iadd, 1) := by decide +kernel
theorem d_law_327 : decode code 327 = .ok (.iaload, 1) := by decide +kernel
theorem d_law_328 : decode code 328 = .ok (.aload_n 0, 1) := by decide +kernel
theorem d_law_329 : decode code 329 = .ok (.iload 4, 2) := by decide +kernel
theorem d_law_331 : decode code 331 = .ok (.iconst 2, 1) := by decide +kernel
theorem d_law_332 : decode code 332 = .ok (.iadd, 1) := by decide +kernel
theorem d_law_333 : decode code 333 = .ok (.iaload, 1) := by decide +kernel
theorem d_law_334 : decode code 334 = .ok (.aload_n 0, 1) := by decide +kernel
theorem d_law_335 : decode code 335 = .ok (.iload 4, 2) := by decide +kernel
theorem d_law_337 : decode code 337 = .ok (.iconst 3, 1) := by decide +kernel
theorem d_law_338 : decode code 338 = .ok (.iadd, 1) := by decide +kernel
theorem d_law_339 : decode code 339 = .ok (.iaload, 1) := by decide +kernel
theorem d_law_340 : decode code 340 = .ok (.aload_n 3, 1) := by decide +kernel
theorem d_law_341 : decode code 341 = .ok (.invokestatic 93, 3) := by decide +kernel
theorem d_law_344 : decode code 344 = .ok (.istore 5, 2) := by decide +kernel
theorem d_law_346 : decode code 346 = .ok (.aload_n 2, 1) := by decide +kernel
theorem d_law_347 : decode code 347 = .ok (.aload_n 0, 1) := by decide +kernel
theorem d_law_348 : decode code 348 = .ok (.iload 4, 2) := by decide +kernel
theorem d_law_350 : decode code 350 = .ok (.iconst 1, 1) := by decide +kernel
theorem d_law_351 : decode code 351 = .ok (.iadd, 1) := by decide +kernel
theorem d_law_352 : decode code 352 = .ok (.iaload, 1) := by decide +kernel
theorem d_law_353 : decode code 353 = .ok (.aload_n 0, 1) := by decide +kernel
theorem d_law_354 : decode code 354 = .ok (.iload 4, 2) := by decide +kernel
theorem d_law_356 : decode code 356 = .ok (.iconst 2, 1) := by decide +kernel
theorem d_law_357 : decode code 357 = .ok (.iadd, 1) := by decide +kernel
theorem d_law_358 : decode code 358 = .ok (.iaload, 1) := by decide +kernel
theorem d_law_359 : decode code 359 = .ok (.aload_n 0, 1) := by decide +kernel
theorem d_law_360 : decode code 360 = .ok (.iload 4, 2) := by decide +kernel
theorem d_law_362 : decode code 362 = .ok (.iconst 3, 1) := by decide +kernel
theorem d_law_363 : decode code 363 = .ok (.iadd, 1) := by decide +kernel
theorem d_law_364 : decode code 364 = .ok (.iaload, 1) := by decide +kernel
theorem d_law_365 : decode code 365 = .ok (.invokevirtual 96, 3) := by decide +kernel
theorem d_law_368 : decode code 368 = .ok (.istore 6, 2) := by decide +kernel
theorem d_law_370 : decode code 370 = .ok (.aload_n 2, 1) := by decide +kernel
theorem d_law_371 : decode code 371 = .ok (.invokevirtual 81, 3) := by decide +kernel
theorem d_law_374 : decode code 374 = .ok (.iload 5, 2) := by decide +kernel
theorem d_law_376 : decode code 376 = .ok (.if_icmp .eq 5, 3) := by decide +kernel
theorem d_law_379 : decode code 379 = .ok (.iconst 0, 1) := by decide +kernel
theorem d_law_380 : decode code 380 = .ok (.ireturn, 1) := by decide +kernel
theorem d_law_381 : decode code 381 = .ok (.iload 5, 2) := by decide +kernel
theorem d_law_383 : decode code 383 = .ok (.ifCond .ne 15, 3) := by decide +kernel
theorem d_law_386 : decode code 386 = .ok (.aload_n 3, 1) := by decide +kernel
theorem d_law_387 : decode code 387 = .ok (.iconst 0, 1) := by decide +kernel
theorem d_law_388 : decode code 388 = .ok (.laload, 1) := by decide +kernel
theorem d_law_389 : decode code 389 = .ok (.iload 6, 2) := by decide +kernel
theorem d_law_391 : decode code 391 = .ok (.i2l, 1) := by decide +kernel
theorem d_law_392 : decode code 392 = .ok (.lcmp, 1) := by decide +kernel
theorem d_law_393 : decode code 393 = .ok (.ifCond .eq 5, 3) := by decide +kernel
theorem d_law_396 : decode code 396 = .ok (.iconst 0, 1) := by decide +kernel
theorem d_law_397 : decode code 397 = .ok (.ireturn, 1) := by decide +kernel
theorem d_law_398 : decode code 398 = .ok (.goto 786, 3) := by decide +kernel
theorem d_law_401 : decode code 401 = .ok (.aload_n 1, 1) := by decide +kernel
theorem d_law_402 : decode code 402 = .ok (.aload_n 0, 1) := by decide +kernel
theorem d_law_403 : decode code 403 = .ok (.iload 4, 2) := by decide +kernel
theorem d_law_405 : decode code 405 = .ok (.iconst 1, 1) := by decide +kernel
theorem d_law_406 : decode code 406 = .ok (.iadd, 1) := by decide +kernel
theorem d_law_407 : decode code 407 = .ok (.iaload, 1) := by decide +kernel
theorem d_law_408 : decode code 408 = .ok (.aload_n 3, 1) := by decide +kernel
theorem d_law_409 : decode code 409 = .ok (.invokestatic 97, 3) := by decide +kernel
theorem d_law_412 : decode code 412 = .ok (.istore 5, 2) := by decide +kernel
theorem d_law_414 : decode code 414 = .ok (.aload_n 2, 1) := by decide +kernel
theorem d_law_415 : decode code 415 = .ok (.aload_n 0, 1) := by decide +kernel
theorem d_law_416 : decode code 416 = .ok (.iload 4, 2) := by decide +kernel
theorem d_law_418 : decode code 418 = .ok (.iconst 1, 1) := by decide +kernel
theorem d_law_419 : decode code 419 = .ok (.iadd, 1) := by decide +kernel
theorem d_law_420 : decode code 420 = .ok (.iaload, 1) := by decide +kernel
theorem d_law_421 : decode code 421 = .ok (.invokevirtual 99, 3) := by decide +kernel
theorem d_law_424 : decode code 424 = .ok (.istore 6, 2) := by decide +kernel
theorem d_law_426 : decode code 426 = .ok (.aload_n 2, 1) := by decide +kernel
theorem d_law_427 : decode code 427 = .ok (.invokevirtual 81, 3) := by decide +kernel
theorem d_law_430 : decode code 430 = .ok (.iload 5, 2) := by decide +kernel
theorem d_law_432 : decode code 432 = .ok (.if_icmp .eq 5, 3) := by decide +kernel
theorem d_law_435 : decode code 435 = .ok (.iconst 0, 1) := by decide +kernel
theorem d_law_436 : decode code 436 = .ok (.ireturn, 1) := by decide +kernel
theorem d_law_437 : decode code 437 = .ok (.iload 5, 2) := by decide +kernel
theorem d_law_439 : decode code 439 = .ok (.ifCond .ne 15, 3) := by decide +kernel
theorem d_law_442 : decode code 442 = .ok (.aload_n 3, 1) := by decide +kernel
theorem d_law_443 : decode code 443 = .ok (.iconst 0, 1) := by decide +kernel
theorem d_law_444 : decode code 444 = .ok (.laload, 1) := by decide +kernel
theorem d_law_445 : decode code 445 = .ok (.iload 6, 2) := by decide +kernel
theorem d_law_447 : decode code 447 = .ok (.i2l, 1) := by decide +kernel
theorem d_law_448 : decode code 448 = .ok (.lcmp, 1) := by decide +kernel
theorem d_law_449 : decode code 449 = .ok (.ifCond .eq 5, 3) := by decide +kernel
theorem d_law_452 : decode code 452 = .ok (.iconst 0, 1) := by decide +kernel
theorem d_law_453 : decode code 453 = .ok (.ireturn, 1) := by decide +kernel
theorem d_law_454 : decode code 454 = .ok (.goto 730, 3) := by decide +kernel
theorem d_law_457 : decode code 457 = .ok (.aload_n 1, 1) := by decide +kernel
theorem d_law_458 : decode code 458 = .ok (.aload_n 0, 1) := by decide +kernel
theorem d_law_459 : decode code 459 = .ok (.iload 4, 2) := by decide +kernel
theorem d_law_461 : decode code 461 = .ok (.iconst 1, 1) := by decide +kernel
theorem d_law_462 : decode code 462 = .ok (.iadd, 1) := by decide +kernel
theorem d_law_463 : decode code 463 = .ok (.iaload, 1) := by decide +kernel
theorem d_law_464 : decode code 464 = .ok (.aload_n 0, 1) := by decide +kernel
theorem d_law_465 : decode code 465 = .ok (.iload 4, 2) := by decide +kernel
theorem d_law_467 : decode code 467 = .ok (.iconst 2, 1) := by decide +kernel
theorem d_law_468 : decode code 468 = .ok (.iadd, 1) := by decide +kernel
theorem d_law_469 : decode code 469 = .ok (.iaload, 1) := by decide +kernel
theorem d_law_470 : decode code 470 = .ok (.aload_n 3, 1) := by decide +kernel
theorem d_law_471 : decode code 471 = .ok (.invokestatic 100, 3) := by decide +kernel
theorem d_law_474 : decode code 474 = .ok (.istore 5, 2) := by decide +kernel
theorem d_law_476 : decode code 476 = .ok (.aload_n 2, 1) := by decide +kernel
theorem d_law_477 : decode code 477 = .ok (.aload_n 0, 1) := by decide +kernel
theorem d_law_478 : decode code 478 = .ok (.iload 4, 2) := by decide +kernel
theorem d_law_480 : decode code 480 = .ok (.iconst 1, 1) := by decide +kernel
theorem d_law_481 : decode code 481 = .ok (.iadd, 1) := by decide +kernel
theorem d_law_482 : decode code 482 = .ok (.iaload, 1) := by decide +kernel
theorem d_law_483 : decode code 483 = .ok (.aload_n 0, 1) := by decide +kernel
theorem d_law_484 : decode code 484 = .ok (.iload 4, 2) := by decide +kernel
theorem d_law_486 : decode code 486 = .ok (.iconst 2, 1) := by decide +kernel
theorem d_law_487 : decode code 487 = .ok (.iadd, 1) := by decide +kernel
theorem d_law_488 : decode code 488 = .ok (.iaload, 1) := by decide +kernel
theorem d_law_489 : decode code 489 = .ok (.invokevirtual 103, 3) := by decide +kernel
theorem d_law_492 : decode code 492 = .ok (.lstore 6, 2) := by decide +kernel
theorem d_law_494 : decode code 494 = .ok (.aload_n 2, 1) := by decide +kernel
theorem d_law_495 : decode code 495 = .ok (.invokevirtual 81, 3) := by decide +kernel
theorem d_law_498 : decode code 498 = .ok (.iload 5, 2) := by decide +kernel
theorem d_law_500 : decode code 500 = .ok (.if_icmp .eq 5, 3) := by decide +kernel
theorem d_law_503 : decode code 503 = .ok (.iconst 0, 1) := by decide +kernel
theorem d_law_504 : decode code 504 = .ok (.ireturn, 1) := by decide +kernel
theorem d_law_505 : decode code 505 = .ok (.iload 5, 2) := by decide +kernel
theorem d_law_507 : decode code 507 = .ok (.ifCond .ne 14, 3) := by decide +kernel
theorem d_law_510 : decode code 510 = .ok (.aload_n 3, 1) := by decide +kernel
theorem d_law_511 : decode code 511 = .ok (.iconst 0, 1) := by decide +kernel
theorem d_law_512 : decode code 512 = .ok (.laload, 1) := by decide +kernel
theorem d_law_513 : decode code 513 = .ok (.lload 6, 2) := by decide +kernel
theorem d_law_515 : decode code 515 = .ok (.lcmp, 1) := by decide +kernel
theorem d_law_516 : decode code 516 = .ok (.ifCond .eq 5, 3) := by decide +kernel
theorem d_law_519 : decode code 519 = .ok (.iconst 0, 1) := by decide +kernel
theorem d_law_520 : decode code 520 = .ok (.ireturn, 1) := by decide +kernel
theorem d_law_521 : decode code 521 = .ok (.goto 663, 3) := by decide +kernel
theorem d_law_524 : decode code 524 = .ok (.aload_n 1, 1) := by decide +kernel
theorem d_law_525 : decode code 525 = .ok (.aload_n 0, 1) := by decide +kernel
theorem d_law_526 : decode code 526 = .ok (.iload 4, 2) := by decide +kernel
theorem d_law_528 : decode code 528 = .ok (.iconst 1, 1) := by decide +kernel
theorem d_law_529 : decode code 529 = .ok (.iadd, 1) := by decide +kernel
theorem d_law_530 : decode code 530 = .ok (.iaload, 1) := by decide +kernel
theorem d_law_531 : decode code 531 = .ok (.aload_n 3, 1) := by decide +kernel
theorem d_law_532 : decode code 532 = .ok (.invokestatic 104, 3) := by decide +kernel
theorem d_law_535 : decode code 535 = .ok (.istore 5, 2) := by decide +kernel
theorem d_law_537 : decode code 537 = .ok (.aload_n 2, 1) := by decide +kernel
theorem d_law_538 : decode code 538 = .ok (.aload_n 0, 1) := by decide +kernel
theorem d_law_539 : decode code 539 = .ok (.iload 4, 2) := by decide +kernel
theorem d_law_541 : decode code 541 = .ok (.iconst 1, 1) := by decide +kernel
theorem d_law_542 : decode code 542 = .ok (.iadd, 1) := by decide +kernel
theorem d_law_543 : decode code 543 = .ok (.iaload, 1) := by decide +kernel
theorem d_law_544 : decode code 544 = .ok (.invokevirtual 106, 3) := by decide +kernel
theorem d_law_547 : decode code 547 = .ok (.istore 6, 2) := by decide +kernel
theorem d_law_549 : decode code 549 = .ok (.aload_n 2, 1) := by decide +kernel
theorem d_law_550 : decode code 550 = .ok (.invokevirtual 81, 3) := by decide +kernel
theorem d_law_553 : decode code 553 = .ok (.iload 5, 2) := by decide +kernel
theorem d_law_555 : decode code 555 = .ok (.if_icmp .eq 5, 3) := by decide +kernel
theorem d_law_558 : decode code 558 = .ok (.iconst 0, 1) := by decide +kernel
theorem d_law_559 : decode code 559 = .ok (.ireturn, 1) := by decide +kernel
theorem d_law_560 : decode code 560 = .ok (.iload 5, 2) := by decide +kernel
theorem d_law_562 : decode code 562 = .ok (.ifCond .ne 15, 3) := by decide +kernel
theorem d_law_565 : decode code 565 = .ok (.aload_n 3, 1) := by decide +kernel
theorem d_law_566 : decode code 566 = .ok (.iconst 0, 1) := by decide +kernel
theorem d_law_567 : decode code 567 = .ok (.laload, 1) := by decide +kernel
theorem d_law_568 : decode code 568 = .ok (.iload 6, 2) := by decide +kernel
theorem d_law_570 : decode code 570 = .ok (.i2l, 1) := by decide +kernel
theorem d_law_571 : decode code 571 = .ok (.lcmp, 1) := by decide +kernel
theorem d_law_572 : decode code 572 = .ok (.ifCond .eq 5, 3) := by decide +kernel
theorem d_law_575 : decode code 575 = .ok (.iconst 0, 1) := by decide +kernel
theorem d_law_576 : decode code 576 = .ok (.ireturn, 1) := by decide +kernel
theorem d_law_577 : decode code 577 = .ok (.goto 607, 3) := by decide +kernel
theorem d_law_580 : decode code 580 = .ok (.aload_n 1, 1) := by decide +kernel
theorem d_law_581 : decode code 581 = .ok (.aload_n 0, 1) := by decide +kernel
theorem d_law_582 : decode code 582 = .ok (.iload 4, 2) := by decide +kernel
theorem d_law_584 : decode code 584 = .ok (.iconst 1, 1) := by decide +kernel
theorem d_law_585 : decode code 585 = .ok (.iadd, 1) := by decide +kernel
theorem d_law_586 : decode code 586 = .ok (.iaload, 1) := by decide +kernel
theorem d_law_587 : decode code 587 = .ok (.aload_n 3, 1) := by decide +kernel
theorem d_law_588 : decode code 588 = .ok (.invokestatic 107, 3) := by decide +kernel
theorem d_law_591 : decode code 591 = .ok (.istore 5, 2) := by decide +kernel
theorem d_law_593 : decode code 593 = .ok (.aload_n 2, 1) := by decide +kernel
theorem d_law_594 : decode code 594 = .ok (.aload_n 0, 1) := by decide +kernel
theorem d_law_595 : decode code 595 = .ok (.iload 4, 2) := by decide +kernel
theorem d_law_597 : decode code 597 = .ok (.iconst 1, 1) := by decide +kernel
theorem d_law_598 : decode code 598 = .ok (.iadd, 1) := by decide +kernel
theorem d_law_599 : decode code 599 = .ok (.iaload, 1) := by decide +kernel
theorem d_law_600 : decode code 600 = .ok (.invokevirtual 109, 3) := by decide +kernel
theorem d_law_603 : decode code 603 = .ok (.istore 6, 2) := by decide +kernel
theorem d_law_605 : decode code 605 = .ok (.aload_n 2, 1) := by decide +kernel
theorem d_law_606 : decode code 606 = .ok (.invokevirtual 81, 3) := by decide +kernel
theorem d_law_609 : decode code 609 = .ok (.iload 5, 2) := by decide +kernel
theorem d_law_611 : decode code 611 = .ok (.if_icmp .eq 5, 3) := by decide +kernel
theorem d_law_614 : decode code 614 = .ok (.iconst 0, 1) := by decide +kernel
theorem d_law_615 : decode code 615 = .ok (.ireturn, 1) := by decide +kernel
theorem d_law_616 : decode code 616 = .ok (.iload 5, 2) := by decide +kernel
theorem d_law_618 : decode code 618 = .ok (.ifCond .ne 15, 3) := by decide +kernel
theorem d_law_621 : decode code 621 = .ok (.aload_n 3, 1) := by decide +kernel
theorem d_law_622 : decode code 622 = .ok (.iconst 0, 1) := by decide +kernel
theorem d_law_623 : decode code 623 = .ok (.laload, 1) := by decide +kernel
theorem d_law_624 : decode code 624 = .ok (.iload 6, 2) := by decide +kernel
theorem d_law_626 : decode code 626 = .ok (.i2l, 1) := by decide +kernel
theorem d_law_627 : decode code 627 = .ok (.lcmp, 1) := by decide +kernel
theorem d_law_628 : decode code 628 = .ok (.ifCond .eq 5, 3) := by decide +kernel
theorem d_law_631 : decode code 631 = .ok (.iconst 0, 1) := by decide +kernel
theorem d_law_632 : decode code 632 = .ok (.ireturn, 1) := by decide +kernel
theorem d_law_633 : decode code 633 = .ok (.goto 551, 3) := by decide +kernel
theorem d_law_636 : decode code 636 = .ok (.aload_n 1, 1) := by decide +kernel
theorem d_law_637 : decode code 637 = .ok (.aload_n 0, 1) := by decide +kernel
theorem d_law_638 : decode code 638 = .ok (.iload 4, 2) := by decide +kernel
theorem d_law_640 : decode code 640 = .ok (.iconst 1, 1) := by decide +kernel
theorem d_law_641 : decode code 641 = .ok (.iadd, 1) := by decide +kernel
theorem d_law_642 : decode code 642 = .ok (.iaload, 1) := by decide +kernel
theorem d_law_643 : decode code 643 = .ok (.aload_n 3, 1) := by decide +kernel
theorem d_law_644 : decode code 644 = .ok (.invokestatic 110, 3) := by decide +kernel
theorem d_law_647 : decode code 647 = .ok (.istore 5, 2) := by decide +kernel
theorem d_law_649 : decode code 649 = .ok (.aload_n 2, 1) := by decide +kernel
theorem d_law_650 : decode code 650 = .ok (.aload_n 0, 1) := by decide +kernel
theorem d_law_651 : decode code 651 = .ok (.iload 4, 2) := by decide +kernel
theorem d_law_653 : decode code 653 = .ok (.iconst 1, 1) := by decide +kernel
theorem d_law_654 : decode code 654 = .ok (.iadd, 1) := by decide +kernel
theorem d_law_655 : decode code 655 = .ok (.iaload, 1) := by decide +kernel
theorem d_law_656 : decode code 656 = .ok (.invokevirtual 112, 3) := by decide +kernel
theorem d_law_659 : decode code 659 = .ok (.lstore 6, 2) := by decide +kernel
theorem d_law_661 : decode code 661 = .ok (.aload_n 2, 1) := by decide +kernel
theorem d_law_662 : decode code 662 = .ok (.invokevirtual 81, 3) := by decide +kernel
theorem d_law_665 : decode code 665 = .ok (.iload 5, 2) := by decide +kernel
theorem d_law_667 : decode code 667 = .ok (.if_icmp .eq 5, 3) := by decide +kernel
theorem d_law_670 : decode code 670 = .ok (.iconst 0, 1) := by decide +kernel
theorem d_law_671 : decode code 671 = .ok (.ireturn, 1) := by decide +kernel
theorem d_law_672 : decode code 672 = .ok (.iload 5, 2) := by decide +kernel
theorem d_law_674 : decode code 674 = .ok (.ifCond .ne 14, 3) := by decide +kernel
theorem d_law_677 : decode code 677 = .ok (.aload_n 3, 1) := by decide +kernel
theorem d_law_678 : decode code 678 = .ok (.iconst 0, 1) := by decide +kernel
theorem d_law_679 : decode code 679 = .ok (.laload, 1) := by decide +kernel
theorem d_law_680 : decode code 680 = .ok (.lload 6, 2) := by decide +kernel
theorem d_law_682 : decode code 682 = .ok (.lcmp, 1) := by decide +kernel
theorem d_law_683 : decode code 683 = .ok (.ifCond .eq 5, 3) := by decide +kernel
theorem d_law_686 : decode code 686 = .ok (.iconst 0, 1) := by decide +kernel
theorem d_law_687 : decode code 687 = .ok (.ireturn, 1) := by decide +kernel
theorem d_law_688 : decode code 688 = .ok (.goto 496, 3) := by decide +kernel
theorem d_law_691 : decode code 691 = .ok (.aload_n 1, 1) := by decide +kernel
theorem d_law_692 : decode code 692 = .ok (.aload_n 0, 1) := by decide +kernel
theorem d_law_693 : decode code 693 = .ok (.iload 4, 2) := by decide +kernel
theorem d_law_695 : decode code 695 = .ok (.iconst 1, 1) := by decide +kernel
theorem d_law_696 : decode code 696 = .ok (.iadd, 1) := by decide +kernel
theorem d_law_697 : decode code 697 = .ok (.iaload, 1) := by decide +kernel
theorem d_law_698 : decode code 698 = .ok (.aload_n 3, 1) := by decide +kernel
theorem d_law_699 : decode code 699 = .ok (.invokestatic 113, 3) := by decide +kernel
theorem d_law_702 : decode code 702 = .ok (.istore 5, 2) := by decide +kernel
theorem d_law_704 : decode code 704 = .ok (.aload_n 2, 1) := by decide +kernel
theorem d_law_705 : decode code 705 = .ok (.aload_n 0, 1) := by decide +kernel
theorem d_law_706 : decode code 706 = .ok (.iload 4, 2) := by decide +kernel
theorem d_law_708 : decode code 708 = .ok (.iconst 1, 1) := by decide +kernel
theorem d_law_709 : decode code 709 = .ok (.iadd, 1) := by decide +kernel
theorem d_law_710 : decode code 710 = .ok (.iaload, 1) := by decide +kernel
theorem d_law_711 : decode code 711 = .ok (.invokevirtual 115, 3) := by decide +kernel
theorem d_law_714 : decode code 714 = .ok (.istore 6, 2) := by decide +kernel
theorem d_law_716 : decode code 716 = .ok (.aload_n 2, 1) := by decide +kernel
theorem d_law_717 : decode code 717 = .ok (.invokevirtual 81, 3) := by decide +kernel
theorem d_law_720 : decode code 720 = .ok (.iload 5, 2) := by decide +kernel
theorem d_law_722 : decode code 722 = .ok (.if_icmp .eq 5, 3) := by decide +kernel
theorem d_law_725 : decode code 725 = .ok (.iconst 0, 1) := by decide +kernel
theorem d_law_726 : decode code 726 = .ok (.ireturn, 1) := by decide +kernel
theorem d_law_727 : decode code 727 = .ok (.iload 5, 2) := by decide +kernel
theorem d_law_729 : decode code 729 = .ok (.ifCond .ne 15, 3) := by decide +kernel
theorem d_law_732 : decode code 732 = .ok (.aload_n 3, 1) := by decide +kernel
theorem d_law_733 : decode code 733 = .ok (.iconst 0, 1) := by decide +kernel
theorem d_law_734 : decode code 734 = .ok (.laload, 1) := by decide +kernel
theorem d_law_735 : decode code 735 = .ok (.iload 6, 2) := by decide +kernel
theorem d_law_737 : decode code 737 = .ok (.i2l, 1) := by decide +kernel
theorem d_law_738 : decode code 738 = .ok (.lcmp, 1) := by decide +kernel
theorem d_law_739 : decode code 739 = .ok (.ifCond .eq 5, 3) := by decide +kernel
theorem d_law_742 : decode code 742 = .ok (.iconst 0, 1) := by decide +kernel
theorem d_law_743 : decode code 743 = .ok (.ireturn, 1) := by decide +kernel
theorem d_law_744 : decode code 744 = .ok (.goto 440, 3) := by decide +kernel
theorem d_law_747 : decode code 747 = .ok (.aload_n 1, 1) := by decide +kernel
theorem d_law_748 : decode code 748 = .ok (.aload_n 0, 1) := by decide +kernel
theorem d_law_749 : decode code 749 = .ok (.iload 4, 2) := by decide +kernel
theorem d_law_751 : decode code 751 = .ok (.iconst 1, 1) := by decide +kernel
theorem d_law_752 : decode code 752 = .ok (.iadd, 1) := by decide +kernel
theorem d_law_753 : decode code 753 = .ok (.iaload, 1) := by decide +kernel
theorem d_law_754 : decode code 754 = .ok (.aload_n 3, 1) := by decide +kernel
theorem d_law_755 : decode code 755 = .ok (.invokestatic 116, 3) := by decide +kernel
theorem d_law_758 : decode code 758 = .ok (.istore 5, 2) := by decide +kernel
theorem d_law_760 : decode code 760 = .ok (.aload_n 2, 1) := by decide +kernel
theorem d_law_761 : decode code 761 = .ok (.aload_n 0, 1) := by decide +kernel
theorem d_law_762 : decode code 762 = .ok (.iload 4, 2) := by decide +kernel
theorem d_law_764 : decode code 764 = .ok (.iconst 1, 1) := by decide +kernel
theorem d_law_765 : decode code 765 = .ok (.iadd, 1) := by decide +kernel
theorem d_law_766 : decode code 766 = .ok (.iaload, 1) := by decide +kernel
theorem d_law_767 : decode code 767 = .ok (.invokevirtual 118, 3) := by decide +kernel
theorem d_law_770 : decode code 770 = .ok (.istore 6, 2) := by decide +kernel
theorem d_law_772 : decode code 772 = .ok (.aload_n 2, 1) := by decide +kernel
theorem d_law_773 : decode code 773 = .ok (.invokevirtual 81, 3) := by decide +kernel
theorem d_law_776 : decode code 776 = .ok (.iload 5, 2) := by decide +kernel
theorem d_law_778 : decode code 778 = .ok (.if_icmp .eq 5, 3) := by decide +kernel
theorem d_law_781 : decode code 781 = .ok (.iconst 0, 1) := by decide +kernel
theorem d_law_782 : decode code 782 = .ok (.ireturn, 1) := by decide +kernel
theorem d_law_783 : decode code 783 = .ok (.iload 5, 2) := by decide +kernel
theorem d_law_785 : decode code 785 = .ok (.ifCond .ne 15, 3) := by decide +kernel
theorem d_law_788 : decode code 788 = .ok (.aload_n 3, 1) := by decide +kernel
theorem d_law_789 : decode code 789 = .ok (.iconst 0, 1) := by decide +kernel
theorem d_law_790 : decode code 790 = .ok (.laload, 1) := by decide +kernel
theorem d_law_791 : decode code 791 = .ok (.iload 6, 2) := by decide +kernel
theorem d_law_793 : decode code 793 = .ok (.i2l, 1) := by decide +kernel
theorem d_law_794 : decode code 794 = .ok (.lcmp, 1) := by decide +kernel
theorem d_law_795 : decode code 795 = .ok (.ifCond .eq 5, 3) := by decide +kernel
theorem d_law_798 : decode code 798 = .ok (.iconst 0, 1) := by decide +kernel
theorem d_law_799 : decode code 799 = .ok (.ireturn, 1) := by decide +kernel
theorem d_law_800 : decode code 800 = .ok (.goto 384, 3) := by decide +kernel
theorem d_law_803 : decode code 803 = .ok (.aload_n 1, 1) := by decide +kernel
theorem d_law_804 : decode code 804 = .ok (.aload_n 0, 1) := by decide +kernel
theorem d_law_805 : decode code 805 = .ok (.iload 4, 2) := by decide +kernel
theorem d_law_807 : decode code 807 = .ok (.iconst 1, 1) := by decide +kernel
theorem d_law_808 : decode code 808 = .ok (.iadd, 1) := by decide +kernel
theorem d_law_809 : decode code 809 = .ok (.iaload, 1) := by decide +kernel
theorem d_law_810 : decode code 810 = .ok (.aload_n 3, 1) := by decide +kernel
theorem d_law_811 : decode code 811 = .ok (.invokestatic 119, 3) := by decide +kernel
theorem d_law_814 : decode code 814 = .ok (.istore 5, 2) := by decide +kernel
theorem d_law_816 : decode code 816 = .ok (.aload_n 2, 1) := by decide +kernel
theorem d_law_817 : decode code 817 = .ok (.aload_n 0, 1) := by decide +kernel
theorem d_law_818 : decode code 818 = .ok (.iload 4, 2) := by decide +kernel
theorem d_law_820 : decode code 820 = .ok (.iconst 1, 1) := by decide +kernel
theorem d_law_821 : decode code 821 = .ok (.iadd, 1) := by decide +kernel
theorem d_law_822 : decode code 822 = .ok (.iaload, 1) := by decide +kernel
theorem d_law_823 : decode code 823 = .ok (.invokevirtual 121, 3) := by decide +kernel
theorem d_law_826 : decode code 826 = .ok (.istore 6, 2) := by decide +kernel
theorem d_law_828 : decode code 828 = .ok (.aload_n 2, 1) := by decide +kernel
theorem d_law_829 : decode code 829 = .ok (.invokevirtual 81, 3) := by decide +kernel
theorem d_law_832 : decode code 832 = .ok (.iload 5, 2) := by decide +kernel
theorem d_law_834 : decode code 834 = .ok (.if_icmp .eq 5, 3) := by decide +kernel
theorem d_law_837 : decode code 837 = .ok (.iconst 0, 1) := by decide +kernel
theorem d_law_838 : decode code 838 = .ok (.ireturn, 1) := by decide +kernel
theorem d_law_839 : decode code 839 = .ok (.iload 5, 2) := by decide +kernel
theorem d_law_841 : decode code 841 = .ok (.ifCond .ne 15, 3) := by decide +kernel
theorem d_law_844 : decode code 844 = .ok (.aload_n 3, 1) := by decide +kernel
theorem d_law_845 : decode code 845 = .ok (.iconst 0, 1) := by decide +kernel
theorem d_law_846 : decode code 846 = .ok (.laload, 1) := by decide +kernel
theorem d_law_847 : decode code 847 = .ok (.iload 6, 2) := by decide +kernel
theorem d_law_849 : decode code 849 = .ok (.i2l, 1) := by decide +kernel
theorem d_law_850 : decode code 850 = .ok (.lcmp, 1) := by decide +kernel
theorem d_law_851 : decode code 851 = .ok (.ifCond .eq 5, 3) := by decide +kernel
theorem d_law_854 : decode code 854 = .ok (.iconst 0, 1) := by decide +kernel
theorem d_law_855 : decode code 855 = .ok (.ireturn, 1) := by decide +kernel
theorem d_law_856 : decode code 856 = .ok (.goto 328, 3) := by decide +kernel
theorem d_law_859 : decode code 859 = .ok (.aload_n 1, 1) := by decide +kernel
theorem d_law_860 : decode code 860 = .ok (.aload_n 0, 1) := by decide +kernel
theorem d_law_861 : decode code 861 = .ok (.iload 4, 2) := by decide +kernel
theorem d_law_863 : decode code 863 = .ok (.iconst 1, 1) := by decide +kernel
theorem d_law_864 : decode code 864 = .ok (.iadd, 1) := by decide +kernel
theorem d_law_865 : decode code 865 = .ok (.iaload, 1) := by decide +kernel
theorem d_law_866 : decode code 866 = .ok (.aload_n 0, 1) := by decide +kernel
theorem d_law_867 : decode code 867 = .ok (.iload 4, 2) := by decide +kernel
theorem d_law_869 : decode code 869 = .ok (.iconst 2, 1) := by decide +kernel
theorem d_law_870 : decode code 870 = .ok (.iadd, 1) := by decide +kernel
theorem d_law_871 : decode code 871 = .ok (.iaload, 1) := by decide +kernel
theorem d_law_872 : decode code 872 = .ok (.aload_n 0, 1) := by decide +kernel
theorem d_law_873 : decode code 873 = .ok (.iload 4, 2) := by decide +kernel
theorem d_law_875 : decode code 875 = .ok (.iconst 3, 1) := by decide +kernel
theorem d_law_876 : decode code 876 = .ok (.iadd, 1) := by decide +kernel
theorem d_law_877 : decode code 877 = .ok (.iaload, 1) := by decide +kernel
theorem d_law_878 : decode code 878 = .ok (.aload_n 0, 1) := by decide +kernel
theorem d_law_879 : decode code 879 = .ok (.iload 4, 2) := by decide +kernel
theorem d_law_881 : decode code 881 = .ok (.iconst 4, 1) := by decide +kernel
theorem d_law_882 : decode code 882 = .ok (.iadd, 1) := by decide +kernel
theorem d_law_883 : decode code 883 = .ok (.iaload, 1) := by decide +kernel
theorem d_law_884 : decode code 884 = .ok (.ifCond .eq 7, 3) := by decide +kernel
theorem d_law_887 : decode code 887 = .ok (.iconst 1, 1) := by decide +kernel
theorem d_law_888 : decode code 888 = .ok (.goto 4, 3) := by decide +kernel
theorem d_law_891 : decode code 891 = .ok (.iconst 0, 1) := by decide +kernel
theorem d_law_892 : decode code 892 = .ok (.aload_n 3, 1) := by decide +kernel
theorem d_law_893 : decode code 893 = .ok (.invokestatic 122, 3) := by decide +kernel
theorem d_law_896 : decode code 896 = .ok (.istore 5, 2) := by decide +kernel
theorem d_law_898 : decode code 898 = .ok (.aload_n 2, 1) := by decide +kernel
theorem d_law_899 : decode code 899 = .ok (.aload_n 0, 1) := by decide +kernel
theorem d_law_900 : decode code 900 = .ok (.iload 4, 2) := by decide +kernel
theorem d_law_902 : decode code 902 = .ok (.iconst 1, 1) := by decide +kernel
theorem d_law_903 : decode code 903 = .ok (.iadd, 1) := by decide +kernel
theorem d_law_904 : decode code 904 = .ok (.iaload, 1) := by decide +kernel
theorem d_law_905 : decode code 905 = .ok (.aload_n 0, 1) := by decide +kernel
theorem d_law_906 : decode code 906 = .ok (.iload 4, 2) := by decide +kernel
theorem d_law_908 : decode code 908 = .ok (.iconst 2, 1) := by decide +kernel
theorem d_law_909 : decode code 909 = .ok (.iadd, 1) := by decide +kernel
theorem d_law_910 : decode code 910 = .ok (.iaload, 1) := by decide +kernel
theorem d_law_911 : decode code 911 = .ok (.aload_n 0, 1) := by decide +kernel
theorem d_law_912 : decode code 912 = .ok (.iload 4, 2) := by decide +kernel
theorem d_law_914 : decode code 914 = .ok (.iconst 3, 1) := by decide +kernel
theorem d_law_915 : decode code 915 = .ok (.iadd, 1) := by decide +kernel
theorem d_law_916 : decode code 916 = .ok (.iaload, 1) := by decide +kernel
theorem d_law_917 : decode code 917 = .ok (.aload_n 0, 1) := by decide +kernel
theorem d_law_918 : decode code 918 = .ok (.iload 4, 2) := by decide +kernel
theorem d_law_920 : decode code 920 = .ok (.iconst 4, 1) := by decide +kernel
theorem d_law_921 : decode code 921 = .ok (.iadd, 1) := by decide +kernel
theorem d_law_922 : decode code 922 = .ok (.iaload, 1) := by decide +kernel
theorem d_law_923 : decode code 923 = .ok (.ifCond .eq 7, 3) := by decide +kernel
theorem d_law_926 : decode code 926 = .ok (.iconst 1, 1) := by decide +kernel
theorem d_law_927 : decode code 927 = .ok (.goto 4, 3) := by decide +kernel
theorem d_law_930 : decode code 930 = .ok (.iconst 0, 1) := by decide +kernel
theorem d_law_931 : decode code 931 = .ok (.invokevirtual 125, 3) := by decide +kernel
theorem d_law_934 : decode code 934 = .ok (.istore 6, 2) := by decide +kernel
theorem d_law_936 : decode code 936 = .ok (.aload_n 2, 1) := by decide +kernel
theorem d_law_937 : decode code 937 = .ok (.invokevirtual 81, 3) := by decide +kernel
theorem d_law_940 : decode code 940 = .ok (.iload 5, 2) := by decide +kernel
theorem d_law_942 : decode code 942 = .ok (.if_icmp .eq 5, 3) := by decide +kernel
theorem d_law_945 : decode code 945 = .ok (.iconst 0, 1) := by decide +kernel
theorem d_law_946 : decode code 946 = .ok (.ireturn, 1) := by decide +kernel
theorem d_law_947 : decode code 947 = .ok (.iload 5, 2) := by decide +kernel
theorem d_law_949 : decode code 949 = .ok (.ifCond .ne 15, 3) := by decide +kernel
theorem d_law_952 : decode code 952 = .ok (.aload_n 3, 1) := by decide +kernel
theorem d_law_953 : decode code 953 = .ok (.iconst 0, 1) := by decide +kernel
theorem d_law_954 : decode code 954 = .ok (.laload, 1) := by decide +kernel
theorem d_law_955 : decode code 955 = .ok (.iload 6, 2) := by decide +kernel
theorem d_law_957 : decode code 957 = .ok (.i2l, 1) := by decide +kernel
theorem d_law_958 : decode code 958 = .ok (.lcmp, 1) := by decide +kernel
theorem d_law_959 : decode code 959 = .ok (.ifCond .eq 5, 3) := by decide +kernel
theorem d_law_962 : decode code 962 = .ok (.iconst 0, 1) := by decide +kernel
theorem d_law_963 : decode code 963 = .ok (.ireturn, 1) := by decide +kernel
theorem d_law_964 : decode code 964 = .ok (.goto 220, 3) := by decide +kernel
theorem d_law_967 : decode code 967 = .ok (.aload_n 1, 1) := by decide +kernel
theorem d_law_968 : decode code 968 = .ok (.aload_n 0, 1) := by decide +kernel
theorem d_law_969 : decode code 969 = .ok (.iload 4, 2) := by decide +kernel
theorem d_law_971 : decode code 971 = .ok (.iconst 1, 1) := by decide +kernel
theorem d_law_972 : decode code 972 = .ok (.iadd, 1) := by decide +kernel
theorem d_law_973 : decode code 973 = .ok (.iaload, 1) := by decide +kernel
theorem d_law_974 : decode code 974 = .ok (.aload_n 3, 1) := by decide +kernel
theorem d_law_975 : decode code 975 = .ok (.invokestatic 126, 3) := by decide +kernel
theorem d_law_978 : decode code 978 = .ok (.istore 5, 2) := by decide +kernel
theorem d_law_980 : decode code 980 = .ok (.aload_n 2, 1) := by decide +kernel
theorem d_law_981 : decode code 981 = .ok (.aload_n 0, 1) := by decide +kernel
theorem d_law_982 : decode code 982 = .ok (.iload 4, 2) := by decide +kernel
theorem d_law_984 : decode code 984 = .ok (.iconst 1, 1) := by decide +kernel
theorem d_law_985 : decode code 985 = .ok (.iadd, 1) := by decide +kernel
theorem d_law_986 : decode code 986 = .ok (.iaload, 1) := by decide +kernel
theorem d_law_987 : decode code 987 = .ok (.invokevirtual 128, 3) := by decide +kernel
theorem d_law_990 : decode code 990 = .ok (.istore 6, 2) := by decide +kernel
theorem d_law_992 : decode code 992 = .ok (.aload_n 2, 1) := by decide +kernel
theorem d_law_993 : decode code 993 = .ok (.invokevirtual 81, 3) := by decide +kernel
theorem d_law_996 : decode code 996 = .ok (.iload 5, 2) := by decide +kernel
theorem d_law_998 : decode code 998 = .ok (.if_icmp .eq 5, 3) := by decide +kernel
theorem d_law_1001 : decode code 1001 = .ok (.iconst 0, 1) := by decide +kernel
theorem d_law_1002 : decode code 1002 = .ok (.ireturn, 1) := by decide +kernel
theorem d_law_1003 : decode code 1003 = .ok (.iload 5, 2) := by decide +kernel
theorem d_law_1005 : decode code 1005 = .ok (.ifCond .ne 15, 3) := by decide +kernel
theorem d_law_1008 : decode code 1008 = .ok (.aload_n 3, 1) := by decide +kernel
theorem d_law_1009 : decode code 1009 = .ok (.iconst 0, 1) := by decide +kernel
theorem d_law_1010 : decode code 1010 = .ok (.laload, 1) := by decide +kernel
theorem d_law_1011 : decode code 1011 = .ok (.iload 6, 2) := by decide +kernel
theorem d_law_1013 : decode code 1013 = .ok (.i2l, 1) := by decide +kernel
theorem d_law_1014 : decode code 1014 = .ok (.lcmp, 1) := by decide +kernel
theorem d_law_1015 : decode code 1015 = .ok (.ifCond .eq 5, 3) := by decide +kernel
theorem d_law_1018 : decode code 1018 = .ok (.iconst 0, 1) := by decide +kernel
theorem d_law_1019 : decode code 1019 = .ok (.ireturn, 1) := by decide +kernel
theorem d_law_1020 : decode code 1020 = .ok (.goto 164, 3) := by decide +kernel
theorem d_law_1023 : decode code 1023 = .ok (.aload_n 1, 1) := by decide +kernel
theorem d_law_1024 : decode code 1024 = .ok (.aload_n 0, 1) := by decide +kernel
theorem d_law_1025 : decode code 1025 = .ok (.iload 4, 2) := by decide +kernel
theorem d_law_1027 : decode code 1027 = .ok (.iconst 1, 1) := by decide +kernel
theorem d_law_1028 : decode code 1028 = .ok (.iadd, 1) := by decide +kernel
theorem d_law_1029 : decode code 1029 = .ok (.iaload, 1) := by decide +kernel
theorem d_law_1030 : decode code 1030 = .ok (.aload_n 0, 1) := by decide +kernel
theorem d_law_1031 : decode code 1031 = .ok (.iload 4, 2) := by decide +kernel
theorem d_law_1033 : decode code 1033 = .ok (.iconst 2, 1) := by decide +kernel
theorem d_law_1034 : decode code 1034 = .ok (.iadd, 1) := by decide +kernel
theorem d_law_1035 : decode code 1035 = .ok (.iaload, 1) := by decide +kernel
theorem d_law_1036 : decode code 1036 = .ok (.aload_n 3, 1) := by decide +kernel
theorem d_law_1037 : decode code 1037 = .ok (.invokestatic 129, 3) := by decide +kernel
theorem d_law_1040 : decode code 1040 = .ok (.istore 5, 2) := by decide +kernel
theorem d_law_1042 : decode code 1042 = .ok (.aload_n 2, 1) := by decide +kernel
theorem d_law_1043 : decode code 1043 = .ok (.aload_n 0, 1) := by decide +kernel
theorem d_law_1044 : decode code 1044 = .ok (.iload 4, 2) := by decide +kernel
theorem d_law_1046 : decode code 1046 = .ok (.iconst 1, 1) := by decide +kernel
theorem d_law_1047 : decode code 1047 = .ok (.iadd, 1) := by decide +kernel
theorem d_law_1048 : decode code 1048 = .ok (.iaload, 1) := by decide +kernel
theorem d_law_1049 : decode code 1049 = .ok (.aload_n 0, 1) := by decide +kernel
theorem d_law_1050 : decode code 1050 = .ok (.iload 4, 2) := by decide +kernel
theorem d_law_1052 : decode code 1052 = .ok (.iconst 2, 1) := by decide +kernel
theorem d_law_1053 : decode code 1053 = .ok (.iadd, 1) := by decide +kernel
theorem d_law_1054 : decode code 1054 = .ok (.iaload, 1) := by decide +kernel
theorem d_law_1055 : decode code 1055 = .ok (.invokevirtual 131, 3) := by decide +kernel
theorem d_law_1058 : decode code 1058 = .ok (.istore 6, 2) := by decide +kernel
theorem d_law_1060 : decode code 1060 = .ok (.aload_n 2, 1) := by decide +kernel
theorem d_law_1061 : decode code 1061 = .ok (.invokevirtual 81, 3) := by decide +kernel
theorem d_law_1064 : decode code 1064 = .ok (.iload 5, 2) := by decide +kernel
theorem d_law_1066 : decode code 1066 = .ok (.if_icmp .eq 5, 3) := by decide +kernel
theorem d_law_1069 : decode code 1069 = .ok (.iconst 0, 1) := by decide +kernel
theorem d_law_1070 : decode code 1070 = .ok (.ireturn, 1) := by decide +kernel
theorem d_law_1071 : decode code 1071 = .ok (.iload 5, 2) := by decide +kernel
theorem d_law_1073 : decode code 1073 = .ok (.ifCond .ne 15, 3) := by decide +kernel
theorem d_law_1076 : decode code 1076 = .ok (.aload_n 3, 1) := by decide +kernel
theorem d_law_1077 : decode code 1077 = .ok (.iconst 0, 1) := by decide +kernel
theorem d_law_1078 : decode code 1078 = .ok (.laload, 1) := by decide +kernel
theorem d_law_1079 : decode code 1079 = .ok (.iload 6, 2) := by decide +kernel
theorem d_law_1081 : decode code 1081 = .ok (.i2l, 1) := by decide +kernel
theorem d_law_1082 : decode code 1082 = .ok (.lcmp, 1) := by decide +kernel
theorem d_law_1083 : decode code 1083 = .ok (.ifCond .eq 5, 3) := by decide +kernel
theorem d_law_1086 : decode code 1086 = .ok (.iconst 0, 1) := by decide +kernel
theorem d_law_1087 : decode code 1087 = .ok (.ireturn, 1) := by decide +kernel
theorem d_law_1088 : decode code 1088 = .ok (.goto 96, 3) := by decide +kernel
theorem d_law_1091 : decode code 1091 = .ok (.aload_n 1, 1) := by decide +kernel
theorem d_law_1092 : decode code 1092 = .ok (.aload_n 0, 1) := by decide +kernel
theorem d_law_1093 : decode code 1093 = .ok (.iload 4, 2) := by decide +kernel
theorem d_law_1095 : decode code 1095 = .ok (.iconst 1, 1) := by decide +kernel
theorem d_law_1096 : decode code 1096 = .ok (.iadd, 1) := by decide +kernel
theorem d_law_1097 : decode code 1097 = .ok (.iaload, 1) := by decide +kernel
theorem d_law_1098 : decode code 1098 = .ok (.aload_n 0, 1) := by decide +kernel
theorem d_law_1099 : decode code 1099 = .ok (.iload 4, 2) := by decide +kernel
theorem d_law_1101 : decode code 1101 = .ok (.iconst 2, 1) := by decide +kernel
theorem d_law_1102 : decode code 1102 = .ok (.iadd, 1) := by decide +kernel
theorem d_law_1103 : decode code 1103 = .ok (.iaload, 1) := by decide +kernel
theorem d_law_1104 : decode code 1104 = .ok (.aload_n 3, 1) := by decide +kernel
theorem d_law_1105 : decode code 1105 = .ok (.invokestatic 132, 3) := by decide +kernel
theorem d_law_1108 : decode code 1108 = .ok (.istore 5, 2) := by decide +kernel
theorem d_law_1110 : decode code 1110 = .ok (.aload_n 2, 1) := by decide +kernel
theorem d_law_1111 : decode code 1111 = .ok (.aload_n 0, 1) := by decide +kernel
theorem d_law_1112 : decode code 1112 = .ok (.iload 4, 2) := by decide +kernel
theorem d_law_1114 : decode code 1114 = .ok (.iconst 1, 1) := by decide +kernel
theorem d_law_1115 : decode code 1115 = .ok (.iadd, 1) := by decide +kernel
theorem d_law_1116 : decode code 1116 = .ok (.iaload, 1) := by decide +kernel
theorem d_law_1117 : decode code 1117 = .ok (.aload_n 0, 1) := by decide +kernel
theorem d_law_1118 : decode code 1118 = .ok (.iload 4, 2) := by decide +kernel
theorem d_law_1120 : decode code 1120 = .ok (.iconst 2, 1) := by decide +kernel
theorem d_law_1121 : decode code 1121 = .ok (.iadd, 1) := by decide +kernel
theorem d_law_1122 : decode code 1122 = .ok (.iaload, 1) := by decide +kernel
theorem d_law_1123 : decode code 1123 = .ok (.invokevirtual 134, 3) := by decide +kernel
theorem d_law_1126 : decode code 1126 = .ok (.istore 6, 2) := by decide +kernel
theorem d_law_1128 : decode code 1128 = .ok (.aload_n 2, 1) := by decide +kernel
theorem d_law_1129 : decode code 1129 = .ok (.invokevirtual 81, 3) := by decide +kernel
theorem d_law_1132 : decode code 1132 = .ok (.iload 5, 2) := by decide +kernel
theorem d_law_1134 : decode code 1134 = .ok (.if_icmp .eq 5, 3) := by decide +kernel
theorem d_law_1137 : decode code 1137 = .ok (.iconst 0, 1) := by decide +kernel
theorem d_law_1138 : decode code 1138 = .ok (.ireturn, 1) := by decide +kernel
theorem d_law_1139 : decode code 1139 = .ok (.iload 5, 2) := by decide +kernel
theorem d_law_1141 : decode code 1141 = .ok (.ifCond .ne 15, 3) := by decide +kernel
theorem d_law_1144 : decode code 1144 = .ok (.aload_n 3, 1) := by decide +kernel
theorem d_law_1145 : decode code 1145 = .ok (.iconst 0, 1) := by decide +kernel
theorem d_law_1146 : decode code 1146 = .ok (.laload, 1) := by decide +kernel
theorem d_law_1147 : decode code 1147 = .ok (.iload 6, 2) := by decide +kernel
theorem d_law_1149 : decode code 1149 = .ok (.i2l, 1) := by decide +kernel
theorem d_law_1150 : decode code 1150 = .ok (.lcmp, 1) := by decide +kernel
theorem d_law_1151 : decode code 1151 = .ok (.ifCond .eq 5, 3) := by decide +kernel
theorem d_law_1154 : decode code 1154 = .ok (.iconst 0, 1) := by decide +kernel
theorem d_law_1155 : decode code 1155 = .ok (.ireturn, 1) := by decide +kernel
theorem d_law_1156 : decode code 1156 = .ok (.goto 28, 3) := by decide +kernel
theorem d_law_1159 : decode code 1159 = .ok (.aload_n 1, 1) := by decide +kernel
theorem d_law_1160 : decode code 1160 = .ok (.aload_n 0, 1) := by decide +kernel
theorem d_law_1161 : decode code 1161 = .ok (.iload 4, 2) := by decide +kernel
theorem d_law_1163 : decode code 1163 = .ok (.iconst 1, 1) := by decide +kernel
theorem d_law_1164 : decode code 1164 = .ok (.iadd, 1) := by decide +kernel
theorem d_law_1165 : decode code 1165 = .ok (.iaload, 1) := by decide +kernel
theorem d_law_1166 : decode code 1166 = .ok (.invokevirtual 135, 3) := by decide +kernel
theorem d_law_1169 : decode code 1169 = .ok (.aload_n 2, 1) := by decide +kernel
theorem d_law_1170 : decode code 1170 = .ok (.aload_n 0, 1) := by decide +kernel
theorem d_law_1171 : decode code 1171 = .ok (.iload 4, 2) := by decide +kernel
theorem d_law_1173 : decode code 1173 = .ok (.iconst 1, 1) := by decide +kernel
theorem d_law_1174 : decode code 1174 = .ok (.iadd, 1) := by decide +kernel
theorem d_law_1175 : decode code 1175 = .ok (.iaload, 1) := by decide +kernel
theorem d_law_1176 : decode code 1176 = .ok (.invokevirtual 138, 3) := by decide +kernel
theorem d_law_1179 : decode code 1179 = .ok (.if_icmp .eq 5, 3) := by decide +kernel
theorem d_law_1182 : decode code 1182 = .ok (.iconst 0, 1) := by decide +kernel
theorem d_law_1183 : decode code 1183 = .ok (.ireturn, 1) := by decide +kernel
theorem d_law_1184 : decode code 1184 = .ok (.iinc 4 6, 3) := by decide +kernel
theorem d_law_1187 : decode code 1187 = .ok (.goto (-1164), 3) := by decide +kernel
theorem d_law_1190 : decode code 1190 = .ok (.iconst 1, 1) := by decide +kernel
theorem d_law_1191 : decode code 1191 = .ok (.ireturn, 1) := by decide +kernel
