/-! THE LAW: its loop. By program (wip/wp/gen_law.py). -/
theorem eL_0 : decode code 0 = .ok (.new 7, 3) := by decide +kernel
theorem eL_3 : decode code 3 = .ok (.dup, 1) := by decide +kernel
theorem eL_4 : decode code 4 = .ok (.invokespecial 9, 3) := by decide +kernel
theorem eL_7 : decode code 7 = .ok (.astore_n 1, 1) := by decide +kernel
theorem eL_8 : decode code 8 = .ok (.new 10, 3) := by decide +kernel
theorem eL_11 : decode code 11 = .ok (.dup, 1) := by decide +kernel
theorem eL_12 : decode code 12 = .ok (.invokespecial 12, 3) := by decide +kernel
theorem eL_15 : decode code 15 = .ok (.astore_n 2, 1) := by decide +kernel
theorem eL_16 : decode code 16 = .ok (.iconst 0, 1) := by decide +kernel
theorem eL_17 : decode code 17 = .ok (.istore_n 3, 1) := by decide +kernel
theorem eL_18 : decode code 18 = .ok (.iload_n 3, 1) := by decide +kernel
theorem eL_19 : decode code 19 = .ok (.aload_n 0, 1) := by decide +kernel
theorem eL_20 : decode code 20 = .ok (.arraylength, 1) := by decide +kernel
theorem eL_21 : decode code 21 = .ok (.bipush 6, 2) := by decide +kernel
theorem eL_23 : decode code 23 = .ok (.isub, 1) := by decide +kernel
theorem eL_24 : decode code 24 = .ok (.if_icmp .gt 836, 3) := by decide +kernel
theorem eL_27 : decode code 27 = .ok (.aload_n 0, 1) := by decide +kernel
theorem eL_28 : decode code 28 = .ok (.iload_n 3, 1) := by decide +kernel
theorem eL_29 : decode code 29 = .ok (.iaload, 1) := by decide +kernel
theorem eL_30 : decode code 30 = .ok (.bipush 31, 2) := by decide +kernel
theorem eL_32 : decode code 32 = .ok (.iand, 1) := by decide +kernel
theorem eL_33 : decode code 33 = .ok (.tableswitch 821 0 27 #[127, 190, 213, 226, 249, 282, 295, 328, 381, 394, 427, 440, 463, 496, 509, 522, 545, 558, 591, 614, 637, 660, 683, 706, 729, 752, 775, 798], 127) := by decide +kernel
theorem eL_160 : decode code 160 = .ok (.aload_n 1, 1) := by decide +kernel
theorem eL_161 : decode code 161 = .ok (.aload_n 0, 1) := by decide +kernel
theorem eL_162 : decode code 162 = .ok (.iload_n 3, 1) := by decide +kernel
theorem eL_163 : decode code 163 = .ok (.iconst 1, 1) := by decide +kernel
theorem eL_164 : decode code 164 = .ok (.iadd, 1) := by decide +kernel
theorem eL_165 : decode code 165 = .ok (.iaload, 1) := by decide +kernel
theorem eL_166 : decode code 166 = .ok (.aload_n 0, 1) := by decide +kernel
theorem eL_167 : decode code 167 = .ok (.iload_n 3, 1) := by decide +kernel
theorem eL_168 : decode code 168 = .ok (.iconst 2, 1) := by decide +kernel
theorem eL_169 : decode code 169 = .ok (.iadd, 1) := by decide +kernel
theorem eL_170 : decode code 170 = .ok (.iaload, 1) := by decide +kernel
theorem eL_171 : decode code 171 = .ok (.aload_n 0, 1) := by decide +kernel
theorem eL_172 : decode code 172 = .ok (.iload_n 3, 1) := by decide +kernel
theorem eL_173 : decode code 173 = .ok (.iconst 3, 1) := by decide +kernel
theorem eL_174 : decode code 174 = .ok (.iadd, 1) := by decide +kernel
theorem eL_175 : decode code 175 = .ok (.iaload, 1) := by decide +kernel
theorem eL_176 : decode code 176 = .ok (.aload_n 0, 1) := by decide +kernel
theorem eL_177 : decode code 177 = .ok (.iload_n 3, 1) := by decide +kernel
theorem eL_178 : decode code 178 = .ok (.iconst 4, 1) := by decide +kernel
theorem eL_179 : decode code 179 = .ok (.iadd, 1) := by decide +kernel
theorem eL_180 : decode code 180 = .ok (.iaload, 1) := by decide +kernel
theorem eL_181 : decode code 181 = .ok (.aload_n 0, 1) := by decide +kernel
theorem eL_182 : decode code 182 = .ok (.iload_n 3, 1) := by decide +kernel
theorem eL_183 : decode code 183 = .ok (.iconst 5, 1) := by decide +kernel
theorem eL_184 : decode code 184 = .ok (.iadd, 1) := by decide +kernel
theorem eL_185 : decode code 185 = .ok (.iaload, 1) := by decide +kernel
theorem eL_186 : decode code 186 = .ok (.invokevirtual 13, 3) := by decide +kernel
theorem eL_189 : decode code 189 = .ok (.pop, 1) := by decide +kernel
theorem eL_190 : decode code 190 = .ok (.aload_n 2, 1) := by decide +kernel
theorem eL_191 : decode code 191 = .ok (.aload_n 0, 1) := by decide +kernel
theorem eL_192 : decode code 192 = .ok (.iload_n 3, 1) := by decide +kernel
theorem eL_193 : decode code 193 = .ok (.iconst 1, 1) := by decide +kernel
theorem eL_194 : decode code 194 = .ok (.iadd, 1) := by decide +kernel
theorem eL_195 : decode code 195 = .ok (.iaload, 1) := by decide +kernel
theorem eL_196 : decode code 196 = .ok (.aload_n 0, 1) := by decide +kernel
theorem eL_197 : decode code 197 = .ok (.iload_n 3, 1) := by decide +kernel
theorem eL_198 : decode code 198 = .ok (.iconst 2, 1) := by decide +kernel
theorem eL_199 : decode code 199 = .ok (.iadd, 1) := by decide +kernel
theorem eL_200 : decode code 200 = .ok (.iaload, 1) := by decide +kernel
theorem eL_201 : decode code 201 = .ok (.aload_n 0, 1) := by decide +kernel
theorem eL_202 : decode code 202 = .ok (.iload_n 3, 1) := by decide +kernel
theorem eL_203 : decode code 203 = .ok (.iconst 3, 1) := by decide +kernel
theorem eL_204 : decode code 204 = .ok (.iadd, 1) := by decide +kernel
theorem eL_205 : decode code 205 = .ok (.iaload, 1) := by decide +kernel
theorem eL_206 : decode code 206 = .ok (.aload_n 0, 1) := by decide +kernel
theorem eL_207 : decode code 207 = .ok (.iload_n 3, 1) := by decide +kernel
theorem eL_208 : decode code 208 = .ok (.iconst 4, 1) := by decide +kernel
theorem eL_209 : decode code 209 = .ok (.iadd, 1) := by decide +kernel
theorem eL_210 : decode code 210 = .ok (.iaload, 1) := by decide +kernel
theorem eL_211 : decode code 211 = .ok (.aload_n 0, 1) := by decide +kernel
theorem eL_212 : decode code 212 = .ok (.iload_n 3, 1) := by decide +kernel
theorem eL_213 : decode code 213 = .ok (.iconst 5, 1) := by decide +kernel
theorem eL_214 : decode code 214 = .ok (.iadd, 1) := by decide +kernel
theorem eL_215 : decode code 215 = .ok (.iaload, 1) := by decide +kernel
theorem eL_216 : decode code 216 = .ok (.invokevirtual 17, 3) := by decide +kernel
theorem eL_219 : decode code 219 = .ok (.pop, 1) := by decide +kernel
theorem eL_220 : decode code 220 = .ok (.goto 634, 3) := by decide +kernel
theorem eL_223 : decode code 223 = .ok (.aload_n 1, 1) := by decide +kernel
theorem eL_224 : decode code 224 = .ok (.aload_n 0, 1) := by decide +kernel
theorem eL_225 : decode code 225 = .ok (.iload_n 3, 1) := by decide +kernel
theorem eL_226 : decode code 226 = .ok (.iconst 1, 1) := by decide +kernel
theorem eL_227 : decode code 227 = .ok (.iadd, 1) := by decide +kernel
theorem eL_228 : decode code 228 = .ok (.iaload, 1) := by decide +kernel
theorem eL_229 : decode code 229 = .ok (.invokevirtual 18, 3) := by decide +kernel
theorem eL_232 : decode code 232 = .ok (.pop, 1) := by decide +kernel
theorem eL_233 : decode code 233 = .ok (.aload_n 2, 1) := by decide +kernel
theorem eL_234 : decode code 234 = .ok (.aload_n 0, 1) := by decide +kernel
theorem eL_235 : decode code 235 = .ok (.iload_n 3, 1) := by decide +kernel
theorem eL_236 : decode code 236 = .ok (.iconst 1, 1) := by decide +kernel
theorem eL_237 : decode code 237 = .ok (.iadd, 1) := by decide +kernel
theorem eL_238 : decode code 238 = .ok (.iaload, 1) := by decide +kernel
theorem eL_239 : decode code 239 = .ok (.invokevirtual 22, 3) := by decide +kernel
theorem eL_242 : decode code 242 = .ok (.pop, 1) := by decide +kernel
theorem eL_243 : decode code 243 = .ok (.goto 611, 3) := by decide +kernel
theorem eL_246 : decode code 246 = .ok (.aload_n 1, 1) := by decide +kernel
theorem eL_247 : decode code 247 = .ok (.invokevirtual 23, 3) := by decide +kernel
theorem eL_250 : decode code 250 = .ok (.pop, 1) := by decide +kernel
theorem eL_251 : decode code 251 = .ok (.aload_n 2, 1) := by decide +kernel
theorem eL_252 : decode code 252 = .ok (.invokevirtual 27, 3) := by decide +kernel
theorem eL_255 : decode code 255 = .ok (.pop, 1) := by decide +kernel
theorem eL_256 : decode code 256 = .ok (.goto 598, 3) := by decide +kernel
theorem eL_259 : decode code 259 = .ok (.aload_n 1, 1) := by decide +kernel
theorem eL_260 : decode code 260 = .ok (.aload_n 0, 1) := by decide +kernel
theorem eL_261 : decode code 261 = .ok (.iload_n 3, 1) := by decide +kernel
theorem eL_262 : decode code 262 = .ok (.iconst 1, 1) := by decide +kernel
theorem eL_263 : decode code 263 = .ok (.iadd, 1) := by decide +kernel
theorem eL_264 : decode code 264 = .ok (.iaload, 1) := by decide +kernel
theorem eL_265 : decode code 265 = .ok (.invokevirtual 28, 3) := by decide +kernel
theorem eL_268 : decode code 268 = .ok (.aload_n 2, 1) := by decide +kernel
theorem eL_269 : decode code 269 = .ok (.aload_n 0, 1) := by decide +kernel
theorem eL_270 : decode code 270 = .ok (.iload_n 3, 1) := by decide +kernel
theorem eL_271 : decode code 271 = .ok (.iconst 1, 1) := by decide +kernel
theorem eL_272 : decode code 272 = .ok (.iadd, 1) := by decide +kernel
theorem eL_273 : decode code 273 = .ok (.iaload, 1) := by decide +kernel
theorem eL_274 : decode code 274 = .ok (.invokevirtual 31, 3) := by decide +kernel
theorem eL_277 : decode code 277 = .ok (.if_icmp .eq 577, 3) := by decide +kernel
theorem eL_280 : decode code 280 = .ok (.iconst 0, 1) := by decide +kernel
theorem eL_281 : decode code 281 = .ok (.ireturn, 1) := by decide +kernel
theorem eL_282 : decode code 282 = .ok (.aload_n 1, 1) := by decide +kernel
theorem eL_283 : decode code 283 = .ok (.aload_n 0, 1) := by decide +kernel
theorem eL_284 : decode code 284 = .ok (.iload_n 3, 1) := by decide +kernel
theorem eL_285 : decode code 285 = .ok (.iconst 1, 1) := by decide +kernel
theorem eL_286 : decode code 286 = .ok (.iadd, 1) := by decide +kernel
theorem eL_287 : decode code 287 = .ok (.iaload, 1) := by decide +kernel
theorem eL_288 : decode code 288 = .ok (.aload_n 0, 1) := by decide +kernel
theorem eL_289 : decode code 289 = .ok (.iload_n 3, 1) := by decide +kernel
theorem eL_290 : decode code 290 = .ok (.iconst 2, 1) := by decide +kernel
theorem eL_291 : decode code 291 = .ok (.iadd, 1) := by decide +kernel
theorem eL_292 : decode code 292 = .ok (.iaload, 1) := by decide +kernel
theorem eL_293 : decode code 293 = .ok (.invokevirtual 32, 3) := by decide +kernel
theorem eL_296 : decode code 296 = .ok (.pop, 1) := by decide +kernel
theorem eL_297 : decode code 297 = .ok (.aload_n 2, 1) := by decide +kernel
theorem eL_298 : decode code 298 = .ok (.aload_n 0, 1) := by decide +kernel
theorem eL_299 : decode code 299 = .ok (.iload_n 3, 1) := by decide +kernel
theorem eL_300 : decode code 300 = .ok (.iconst 1, 1) := by decide +kernel
theorem eL_301 : decode code 301 = .ok (.iadd, 1) := by decide +kernel
theorem eL_302 : decode code 302 = .ok (.iaload, 1) := by decide +kernel
theorem eL_303 : decode code 303 = .ok (.aload_n 0, 1) := by decide +kernel
theorem eL_304 : decode code 304 = .ok (.iload_n 3, 1) := by decide +kernel
theorem eL_305 : decode code 305 = .ok (.iconst 2, 1) := by decide +kernel
theorem eL_306 : decode code 306 = .ok (.iadd, 1) := by decide +kernel
theorem eL_307 : decode code 307 = .ok (.iaload, 1) := by decide +kernel
theorem eL_308 : decode code 308 = .ok (.invokevirtual 36, 3) := by decide +kernel
theorem eL_311 : decode code 311 = .ok (.pop, 1) := by decide +kernel
theorem eL_312 : decode code 312 = .ok (.goto 542, 3) := by decide +kernel
theorem eL_315 : decode code 315 = .ok (.aload_n 1, 1) := by decide +kernel
theorem eL_316 : decode code 316 = .ok (.invokevirtual 37, 3) := by decide +kernel
theorem eL_319 : decode code 319 = .ok (.pop, 1) := by decide +kernel
theorem eL_320 : decode code 320 = .ok (.aload_n 2, 1) := by decide +kernel
theorem eL_321 : decode code 321 = .ok (.invokevirtual 40, 3) := by decide +kernel
theorem eL_324 : decode code 324 = .ok (.pop, 1) := by decide +kernel
theorem eL_325 : decode code 325 = .ok (.goto 529, 3) := by decide +kernel
theorem eL_328 : decode code 328 = .ok (.aload_n 1, 1) := by decide +kernel
theorem eL_329 : decode code 329 = .ok (.aload_n 0, 1) := by decide +kernel
theorem eL_330 : decode code 330 = .ok (.iload_n 3, 1) := by decide +kernel
theorem eL_331 : decode code 331 = .ok (.iconst 1, 1) := by decide +kernel
theorem eL_332 : decode code 332 = .ok (.iadd, 1) := by decide +kernel
theorem eL_333 : decode code 333 = .ok (.iaload, 1) := by decide +kernel
theorem eL_334 : decode code 334 = .ok (.aload_n 0, 1) := by decide +kernel
theorem eL_335 : decode code 335 = .ok (.iload_n 3, 1) := by decide +kernel
theorem eL_336 : decode code 336 = .ok (.iconst 2, 1) := by decide +kernel
theorem eL_337 : decode code 337 = .ok (.iadd, 1) := by decide +kernel
theorem eL_338 : decode code 338 = .ok (.iaload, 1) := by decide +kernel
theorem eL_339 : decode code 339 = .ok (.invokevirtual 41, 3) := by decide +kernel
theorem eL_342 : decode code 342 = .ok (.pop, 1) := by decide +kernel
theorem eL_343 : decode code 343 = .ok (.aload_n 2, 1) := by decide +kernel
theorem eL_344 : decode code 344 = .ok (.aload_n 0, 1) := by decide +kernel
theorem eL_345 : decode code 345 = .ok (.iload_n 3, 1) := by decide +kernel
theorem eL_346 : decode code 346 = .ok (.iconst 1, 1) := by decide +kernel
theorem eL_347 : decode code 347 = .ok (.iadd, 1) := by decide +kernel
theorem eL_348 : decode code 348 = .ok (.iaload, 1) := by decide +kernel
theorem eL_349 : decode code 349 = .ok (.aload_n 0, 1) := by decide +kernel
theorem eL_350 : decode code 350 = .ok (.iload_n 3, 1) := by decide +kernel
theorem eL_351 : decode code 351 = .ok (.iconst 2, 1) := by decide +kernel
theorem eL_352 : decode code 352 = .ok (.iadd, 1) := by decide +kernel
theorem eL_353 : decode code 353 = .ok (.iaload, 1) := by decide +kernel
theorem eL_354 : decode code 354 = .ok (.invokevirtual 44, 3) := by decide +kernel
theorem eL_357 : decode code 357 = .ok (.pop, 1) := by decide +kernel
theorem eL_358 : decode code 358 = .ok (.goto 496, 3) := by decide +kernel
theorem eL_361 : decode code 361 = .ok (.aload_n 1, 1) := by decide +kernel
theorem eL_362 : decode code 362 = .ok (.aload_n 0, 1) := by decide +kernel
theorem eL_363 : decode code 363 = .ok (.iload_n 3, 1) := by decide +kernel
theorem eL_364 : decode code 364 = .ok (.iconst 1, 1) := by decide +kernel
theorem eL_365 : decode code 365 = .ok (.iadd, 1) := by decide +kernel
theorem eL_366 : decode code 366 = .ok (.iaload, 1) := by decide +kernel
theorem eL_367 : decode code 367 = .ok (.i2l, 1) := by decide +kernel
theorem eL_368 : decode code 368 = .ok (.bipush 32, 2) := by decide +kernel
theorem eL_370 : decode code 370 = .ok (.lshl, 1) := by decide +kernel
theorem eL_371 : decode code 371 = .ok (.aload_n 0, 1) := by decide +kernel
theorem eL_372 : decode code 372 = .ok (.iload_n 3, 1) := by decide +kernel
theorem eL_373 : decode code 373 = .ok (.iconst 2, 1) := by decide +kernel
theorem eL_374 : decode code 374 = .ok (.iadd, 1) := by decide +kernel
theorem eL_375 : decode code 375 = .ok (.iaload, 1) := by decide +kernel
theorem eL_376 : decode code 376 = .ok (.i2l, 1) := by decide +kernel
theorem eL_377 : decode code 377 = .ok (.ldc2_w 45, 3) := by decide +kernel
theorem eL_380 : decode code 380 = .ok (.land, 1) := by decide +kernel
theorem eL_381 : decode code 381 = .ok (.lor, 1) := by decide +kernel
theorem eL_382 : decode code 382 = .ok (.invokevirtual 47, 3) := by decide +kernel
theorem eL_385 : decode code 385 = .ok (.pop, 1) := by decide +kernel
theorem eL_386 : decode code 386 = .ok (.aload_n 2, 1) := by decide +kernel
theorem eL_387 : decode code 387 = .ok (.aload_n 0, 1) := by decide +kernel
theorem eL_388 : decode code 388 = .ok (.iload_n 3, 1) := by decide +kernel
theorem eL_389 : decode code 389 = .ok (.iconst 1, 1) := by decide +kernel
theorem eL_390 : decode code 390 = .ok (.iadd, 1) := by decide +kernel
theorem eL_391 : decode code 391 = .ok (.iaload, 1) := by decide +kernel
theorem eL_392 : decode code 392 = .ok (.i2l, 1) := by decide +kernel
theorem eL_393 : decode code 393 = .ok (.bipush 32, 2) := by decide +kernel
theorem eL_395 : decode code 395 = .ok (.lshl, 1) := by decide +kernel
theorem eL_396 : decode code 396 = .ok (.aload_n 0, 1) := by decide +kernel
theorem eL_397 : decode code 397 = .ok (.iload_n 3, 1) := by decide +kernel
theorem eL_398 : decode code 398 = .ok (.iconst 2, 1) := by decide +kernel
theorem eL_399 : decode code 399 = .ok (.iadd, 1) := by decide +kernel
theorem eL_400 : decode code 400 = .ok (.iaload, 1) := by decide +kernel
theorem eL_401 : decode code 401 = .ok (.i2l, 1) := by decide +kernel
theorem eL_402 : decode code 402 = .ok (.ldc2_w 45, 3) := by decide +kernel
theorem eL_405 : decode code 405 = .ok (.land, 1) := by decide +kernel
theorem eL_406 : decode code 406 = .ok (.lor, 1) := by decide +kernel
theorem eL_407 : decode code 407 = .ok (.invokevirtual 51, 3) := by decide +kernel
theorem eL_410 : decode code 410 = .ok (.pop, 1) := by decide +kernel
theorem eL_411 : decode code 411 = .ok (.goto 443, 3) := by decide +kernel
theorem eL_414 : decode code 414 = .ok (.aload_n 1, 1) := by decide +kernel
theorem eL_415 : decode code 415 = .ok (.invokevirtual 52, 3) := by decide +kernel
theorem eL_418 : decode code 418 = .ok (.pop2, 1) := by decide +kernel
theorem eL_419 : decode code 419 = .ok (.aload_n 2, 1) := by decide +kernel
theorem eL_420 : decode code 420 = .ok (.invokevirtual 56, 3) := by decide +kernel
theorem eL_423 : decode code 423 = .ok (.pop2, 1) := by decide +kernel
theorem eL_424 : decode code 424 = .ok (.goto 430, 3) := by decide +kernel
theorem eL_427 : decode code 427 = .ok (.aload_n 1, 1) := by decide +kernel
theorem eL_428 : decode code 428 = .ok (.aload_n 0, 1) := by decide +kernel
theorem eL_429 : decode code 429 = .ok (.iload_n 3, 1) := by decide +kernel
theorem eL_430 : decode code 430 = .ok (.iconst 1, 1) := by decide +kernel
theorem eL_431 : decode code 431 = .ok (.iadd, 1) := by decide +kernel
theorem eL_432 : decode code 432 = .ok (.iaload, 1) := by decide +kernel
theorem eL_433 : decode code 433 = .ok (.aload_n 0, 1) := by decide +kernel
theorem eL_434 : decode code 434 = .ok (.iload_n 3, 1) := by decide +kernel
theorem eL_435 : decode code 435 = .ok (.iconst 2, 1) := by decide +kernel
theorem eL_436 : decode code 436 = .ok (.iadd, 1) := by decide +kernel
theorem eL_437 : decode code 437 = .ok (.iaload, 1) := by decide +kernel
theorem eL_438 : decode code 438 = .ok (.invokevirtual 57, 3) := by decide +kernel
theorem eL_441 : decode code 441 = .ok (.pop, 1) := by decide +kernel
theorem eL_442 : decode code 442 = .ok (.aload_n 2, 1) := by decide +kernel
theorem eL_443 : decode code 443 = .ok (.aload_n 0, 1) := by decide +kernel
theorem eL_444 : decode code 444 = .ok (.iload_n 3, 1) := by decide +kernel
theorem eL_445 : decode code 445 = .ok (.iconst 1, 1) := by decide +kernel
theorem eL_446 : decode code 446 = .ok (.iadd, 1) := by decide +kernel
theorem eL_447 : decode code 447 = .ok (.iaload, 1) := by decide +kernel
theorem eL_448 : decode code 448 = .ok (.aload_n 0, 1) := by decide +kernel
theorem eL_449 : decode code 449 = .ok (.iload_n 3, 1) := by decide +kernel
theorem eL_450 : decode code 450 = .ok (.iconst 2, 1) := by decide +kernel
theorem eL_451 : decode code 451 = .ok (.iadd, 1) := by decide +kernel
theorem eL_452 : decode code 452 = .ok (.iaload, 1) := by decide +kernel
theorem eL_453 : decode code 453 = .ok (.invokevirtual 60, 3) := by decide +kernel
theorem eL_456 : decode code 456 = .ok (.pop, 1) := by decide +kernel
theorem eL_457 : decode code 457 = .ok (.goto 397, 3) := by decide +kernel
theorem eL_460 : decode code 460 = .ok (.aload_n 1, 1) := by decide +kernel
theorem eL_461 : decode code 461 = .ok (.invokevirtual 61, 3) := by decide +kernel
theorem eL_464 : decode code 464 = .ok (.pop, 1) := by decide +kernel
theorem eL_465 : decode code 465 = .ok (.aload_n 2, 1) := by decide +kernel
theorem eL_466 : decode code 466 = .ok (.invokevirtual 64, 3) := by decide +kernel
theorem eL_469 : decode code 469 = .ok (.pop, 1) := by decide +kernel
theorem eL_470 : decode code 470 = .ok (.goto 384, 3) := by decide +kernel
theorem eL_473 : decode code 473 = .ok (.aload_n 1, 1) := by decide +kernel
theorem eL_474 : decode code 474 = .ok (.aload_n 0, 1) := by decide +kernel
theorem eL_475 : decode code 475 = .ok (.iload_n 3, 1) := by decide +kernel
theorem eL_476 : decode code 476 = .ok (.iconst 1, 1) := by decide +kernel
theorem eL_477 : decode code 477 = .ok (.iadd, 1) := by decide +kernel
theorem eL_478 : decode code 478 = .ok (.iaload, 1) := by decide +kernel
theorem eL_479 : decode code 479 = .ok (.invokevirtual 65, 3) := by decide +kernel
theorem eL_482 : decode code 482 = .ok (.pop2, 1) := by decide +kernel
theorem eL_483 : decode code 483 = .ok (.aload_n 2, 1) := by decide +kernel
theorem eL_484 : decode code 484 = .ok (.aload_n 0, 1) := by decide +kernel
theorem eL_485 : decode code 485 = .ok (.iload_n 3, 1) := by decide +kernel
theorem eL_486 : decode code 486 = .ok (.iconst 1, 1) := by decide +kernel
theorem eL_487 : decode code 487 = .ok (.iadd, 1) := by decide +kernel
theorem eL_488 : decode code 488 = .ok (.iaload, 1) := by decide +kernel
theorem eL_489 : decode code 489 = .ok (.invokevirtual 69, 3) := by decide +kernel
theorem eL_492 : decode code 492 = .ok (.pop2, 1) := by decide +kernel
theorem eL_493 : decode code 493 = .ok (.goto 361, 3) := by decide +kernel
theorem eL_496 : decode code 496 = .ok (.aload_n 1, 1) := by decide +kernel
theorem eL_497 : decode code 497 = .ok (.aload_n 0, 1) := by decide +kernel
theorem eL_498 : decode code 498 = .ok (.iload_n 3, 1) := by decide +kernel
theorem eL_499 : decode code 499 = .ok (.iconst 1, 1) := by decide +kernel
theorem eL_500 : decode code 500 = .ok (.iadd, 1) := by decide +kernel
theorem eL_501 : decode code 501 = .ok (.iaload, 1) := by decide +kernel
theorem eL_502 : decode code 502 = .ok (.aload_n 0, 1) := by decide +kernel
theorem eL_503 : decode code 503 = .ok (.iload_n 3, 1) := by decide +kernel
theorem eL_504 : decode code 504 = .ok (.iconst 2, 1) := by decide +kernel
theorem eL_505 : decode code 505 = .ok (.iadd, 1) := by decide +kernel
theorem eL_506 : decode code 506 = .ok (.iaload, 1) := by decide +kernel
theorem eL_507 : decode code 507 = .ok (.invokevirtual 70, 3) := by decide +kernel
theorem eL_510 : decode code 510 = .ok (.pop, 1) := by decide +kernel
theorem eL_511 : decode code 511 = .ok (.aload_n 2, 1) := by decide +kernel
theorem eL_512 : decode code 512 = .ok (.aload_n 0, 1) := by decide +kernel
theorem eL_513 : decode code 513 = .ok (.iload_n 3, 1) := by decide +kernel
theorem eL_514 : decode code 514 = .ok (.iconst 1, 1) := by decide +kernel
theorem eL_515 : decode code 515 = .ok (.iadd, 1) := by decide +kernel
theorem eL_516 : decode code 516 = .ok (.iaload, 1) := by decide +kernel
theorem eL_517 : decode code 517 = .ok (.aload_n 0, 1) := by decide +kernel
theorem eL_518 : decode code 518 = .ok (.iload_n 3, 1) := by decide +kernel
theorem eL_519 : decode code 519 = .ok (.iconst 2, 1) := by decide +kernel
theorem eL_520 : decode code 520 = .ok (.iadd, 1) := by decide +kernel
theorem eL_521 : decode code 521 = .ok (.iaload, 1) := by decide +kernel
theorem eL_522 : decode code 522 = .ok (.invokevirtual 73, 3) := by decide +kernel
theorem eL_525 : decode code 525 = .ok (.pop, 1) := by decide +kernel
theorem eL_526 : decode code 526 = .ok (.goto 328, 3) := by decide +kernel
theorem eL_529 : decode code 529 = .ok (.aload_n 1, 1) := by decide +kernel
theorem eL_530 : decode code 530 = .ok (.invokevirtual 74, 3) := by decide +kernel
theorem eL_533 : decode code 533 = .ok (.pop2, 1) := by decide +kernel
theorem eL_534 : decode code 534 = .ok (.aload_n 2, 1) := by decide +kernel
theorem eL_535 : decode code 535 = .ok (.invokevirtual 77, 3) := by decide +kernel
theorem eL_538 : decode code 538 = .ok (.pop2, 1) := by decide +kernel
theorem eL_539 : decode code 539 = .ok (.goto 315, 3) := by decide +kernel
theorem eL_542 : decode code 542 = .ok (.aload_n 1, 1) := by decide +kernel
theorem eL_543 : decode code 543 = .ok (.invokevirtual 78, 3) := by decide +kernel
theorem eL_546 : decode code 546 = .ok (.pop, 1) := by decide +kernel
theorem eL_547 : decode code 547 = .ok (.aload_n 2, 1) := by decide +kernel
theorem eL_548 : decode code 548 = .ok (.invokevirtual 81, 3) := by decide +kernel
theorem eL_551 : decode code 551 = .ok (.pop, 1) := by decide +kernel
theorem eL_552 : decode code 552 = .ok (.goto 302, 3) := by decide +kernel
theorem eL_555 : decode code 555 = .ok (.aload_n 1, 1) := by decide +kernel
theorem eL_556 : decode code 556 = .ok (.aload_n 0, 1) := by decide +kernel
theorem eL_557 : decode code 557 = .ok (.iload_n 3, 1) := by decide +kernel
theorem eL_558 : decode code 558 = .ok (.iconst 1, 1) := by decide +kernel
theorem eL_559 : decode code 559 = .ok (.iadd, 1) := by decide +kernel
theorem eL_560 : decode code 560 = .ok (.iaload, 1) := by decide +kernel
theorem eL_561 : decode code 561 = .ok (.invokevirtual 82, 3) := by decide +kernel
theorem eL_564 : decode code 564 = .ok (.pop2, 1) := by decide +kernel
theorem eL_565 : decode code 565 = .ok (.aload_n 2, 1) := by decide +kernel
theorem eL_566 : decode code 566 = .ok (.aload_n 0, 1) := by decide +kernel
theorem eL_567 : decode code 567 = .ok (.iload_n 3, 1) := by decide +kernel
theorem eL_568 : decode code 568 = .ok (.iconst 1, 1) := by decide +kernel
theorem eL_569 : decode code 569 = .ok (.iadd, 1) := by decide +kernel
theorem eL_570 : decode code 570 = .ok (.iaload, 1) := by decide +kernel
theorem eL_571 : decode code 571 = .ok (.invokevirtual 85, 3) := by decide +kernel
theorem eL_574 : decode code 574 = .ok (.pop2, 1) := by decide +kernel
theorem eL_575 : decode code 575 = .ok (.goto 279, 3) := by decide +kernel
theorem eL_578 : decode code 578 = .ok (.aload_n 1, 1) := by decide +kernel
theorem eL_579 : decode code 579 = .ok (.invokevirtual 86, 3) := by decide +kernel
theorem eL_582 : decode code 582 = .ok (.pop, 1) := by decide +kernel
theorem eL_583 : decode code 583 = .ok (.aload_n 2, 1) := by decide +kernel
theorem eL_584 : decode code 584 = .ok (.invokevirtual 89, 3) := by decide +kernel
theorem eL_587 : decode code 587 = .ok (.pop, 1) := by decide +kernel
theorem eL_588 : decode code 588 = .ok (.goto 266, 3) := by decide +kernel
theorem eL_591 : decode code 591 = .ok (.aload_n 1, 1) := by decide +kernel
theorem eL_592 : decode code 592 = .ok (.aload_n 0, 1) := by decide +kernel
theorem eL_593 : decode code 593 = .ok (.iload_n 3, 1) := by decide +kernel
theorem eL_594 : decode code 594 = .ok (.iconst 1, 1) := by decide +kernel
theorem eL_595 : decode code 595 = .ok (.iadd, 1) := by decide +kernel
theorem eL_596 : decode code 596 = .ok (.iaload, 1) := by decide +kernel
theorem eL_597 : decode code 597 = .ok (.aload_n 0, 1) := by decide +kernel
theorem eL_598 : decode code 598 = .ok (.iload_n 3, 1) := by decide +kernel
theorem eL_599 : decode code 599 = .ok (.iconst 2, 1) := by decide +kernel
theorem eL_600 : decode code 600 = .ok (.iadd, 1) := by decide +kernel
theorem eL_601 : decode code 601 = .ok (.iaload, 1) := by decide +kernel
theorem eL_602 : decode code 602 = .ok (.invokevirtual 90, 3) := by decide +kernel
theorem eL_605 : decode code 605 = .ok (.pop, 1) := by decide +kernel
theorem eL_606 : decode code 606 = .ok (.aload_n 2, 1) := by decide +kernel
theorem eL_607 : decode code 607 = .ok (.aload_n 0, 1) := by decide +kernel
theorem eL_608 : decode code 608 = .ok (.iload_n 3, 1) := by decide +kernel
theorem eL_609 : decode code 609 = .ok (.iconst 1, 1) := by decide +kernel
theorem eL_610 : decode code 610 = .ok (.iadd, 1) := by decide +kernel
theorem eL_611 : decode code 611 = .ok (.iaload, 1) := by decide +kernel
theorem eL_612 : decode code 612 = .ok (.aload_n 0, 1) := by decide +kernel
theorem eL_613 : decode code 613 = .ok (.iload_n 3, 1) := by decide +kernel
theorem eL_614 : decode code 614 = .ok (.iconst 2, 1) := by decide +kernel
theorem eL_615 : decode code 615 = .ok (.iadd, 1) := by decide +kernel
theorem eL_616 : decode code 616 = .ok (.iaload, 1) := by decide +kernel
theorem eL_617 : decode code 617 = .ok (.invokevirtual 93, 3) := by decide +kernel
theorem eL_620 : decode code 620 = .ok (.pop, 1) := by decide +kernel
theorem eL_621 : decode code 621 = .ok (.goto 233, 3) := by decide +kernel
theorem eL_624 : decode code 624 = .ok (.aload_n 1, 1) := by decide +kernel
theorem eL_625 : decode code 625 = .ok (.aload_n 0, 1) := by decide +kernel
theorem eL_626 : decode code 626 = .ok (.iload_n 3, 1) := by decide +kernel
theorem eL_627 : decode code 627 = .ok (.iconst 1, 1) := by decide +kernel
theorem eL_628 : decode code 628 = .ok (.iadd, 1) := by decide +kernel
theorem eL_629 : decode code 629 = .ok (.iaload, 1) := by decide +kernel
theorem eL_630 : decode code 630 = .ok (.invokevirtual 94, 3) := by decide +kernel
theorem eL_633 : decode code 633 = .ok (.pop, 1) := by decide +kernel
theorem eL_634 : decode code 634 = .ok (.aload_n 2, 1) := by decide +kernel
theorem eL_635 : decode code 635 = .ok (.aload_n 0, 1) := by decide +kernel
theorem eL_636 : decode code 636 = .ok (.iload_n 3, 1) := by decide +kernel
theorem eL_637 : decode code 637 = .ok (.iconst 1, 1) := by decide +kernel
theorem eL_638 : decode code 638 = .ok (.iadd, 1) := by decide +kernel
theorem eL_639 : decode code 639 = .ok (.iaload, 1) := by decide +kernel
theorem eL_640 : decode code 640 = .ok (.invokevirtual 97, 3) := by decide +kernel
theorem eL_643 : decode code 643 = .ok (.pop, 1) := by decide +kernel
theorem eL_644 : decode code 644 = .ok (.goto 210, 3) := by decide +kernel
theorem eL_647 : decode code 647 = .ok (.aload_n 1, 1) := by decide +kernel
theorem eL_648 : decode code 648 = .ok (.aload_n 0, 1) := by decide +kernel
theorem eL_649 : decode code 649 = .ok (.iload_n 3, 1) := by decide +kernel
theorem eL_650 : decode code 650 = .ok (.iconst 1, 1) := by decide +kernel
theorem eL_651 : decode code 651 = .ok (.iadd, 1) := by decide +kernel
theorem eL_652 : decode code 652 = .ok (.iaload, 1) := by decide +kernel
theorem eL_653 : decode code 653 = .ok (.invokevirtual 98, 3) := by decide +kernel
theorem eL_656 : decode code 656 = .ok (.pop, 1) := by decide +kernel
theorem eL_657 : decode code 657 = .ok (.aload_n 2, 1) := by decide +kernel
theorem eL_658 : decode code 658 = .ok (.aload_n 0, 1) := by decide +kernel
theorem eL_659 : decode code 659 = .ok (.iload_n 3, 1) := by decide +kernel
theorem eL_660 : decode code 660 = .ok (.iconst 1, 1) := by decide +kernel
theorem eL_661 : decode code 661 = .ok (.iadd, 1) := by decide +kernel
theorem eL_662 : decode code 662 = .ok (.iaload, 1) := by decide +kernel
theorem eL_663 : decode code 663 = .ok (.invokevirtual 101, 3) := by decide +kernel
theorem eL_666 : decode code 666 = .ok (.pop, 1) := by decide +kernel
theorem eL_667 : decode code 667 = .ok (.goto 187, 3) := by decide +kernel
theorem eL_670 : decode code 670 = .ok (.aload_n 1, 1) := by decide +kernel
theorem eL_671 : decode code 671 = .ok (.aload_n 0, 1) := by decide +kernel
theorem eL_672 : decode code 672 = .ok (.iload_n 3, 1) := by decide +kernel
theorem eL_673 : decode code 673 = .ok (.iconst 1, 1) := by decide +kernel
theorem eL_674 : decode code 674 = .ok (.iadd, 1) := by decide +kernel
theorem eL_675 : decode code 675 = .ok (.iaload, 1) := by decide +kernel
theorem eL_676 : decode code 676 = .ok (.invokevirtual 102, 3) := by decide +kernel
theorem eL_679 : decode code 679 = .ok (.pop, 1) := by decide +kernel
theorem eL_680 : decode code 680 = .ok (.aload_n 2, 1) := by decide +kernel
theorem eL_681 : decode code 681 = .ok (.aload_n 0, 1) := by decide +kernel
theorem eL_682 : decode code 682 = .ok (.iload_n 3, 1) := by decide +kernel
theorem eL_683 : decode code 683 = .ok (.iconst 1, 1) := by decide +kernel
theorem eL_684 : decode code 684 = .ok (.iadd, 1) := by decide +kernel
theorem eL_685 : decode code 685 = .ok (.iaload, 1) := by decide +kernel
theorem eL_686 : decode code 686 = .ok (.invokevirtual 105, 3) := by decide +kernel
theorem eL_689 : decode code 689 = .ok (.pop, 1) := by decide +kernel
theorem eL_690 : decode code 690 = .ok (.goto 164, 3) := by decide +kernel
theorem eL_693 : decode code 693 = .ok (.aload_n 1, 1) := by decide +kernel
theorem eL_694 : decode code 694 = .ok (.aload_n 0, 1) := by decide +kernel
theorem eL_695 : decode code 695 = .ok (.iload_n 3, 1) := by decide +kernel
theorem eL_696 : decode code 696 = .ok (.iconst 1, 1) := by decide +kernel
theorem eL_697 : decode code 697 = .ok (.iadd, 1) := by decide +kernel
theorem eL_698 : decode code 698 = .ok (.iaload, 1) := by decide +kernel
theorem eL_699 : decode code 699 = .ok (.invokevirtual 106, 3) := by decide +kernel
theorem eL_702 : decode code 702 = .ok (.pop, 1) := by decide +kernel
theorem eL_703 : decode code 703 = .ok (.aload_n 2, 1) := by decide +kernel
theorem eL_704 : decode code 704 = .ok (.aload_n 0, 1) := by decide +kernel
theorem eL_705 : decode code 705 = .ok (.iload_n 3, 1) := by decide +kernel
theorem eL_706 : decode code 706 = .ok (.iconst 1, 1) := by decide +kernel
theorem eL_707 : decode code 707 = .ok (.iadd, 1) := by decide +kernel
theorem eL_708 : decode code 708 = .ok (.iaload, 1) := by decide +kernel
theorem eL_709 : decode code 709 = .ok (.invokevirtual 110, 3) := by decide +kernel
theorem eL_712 : decode code 712 = .ok (.pop, 1) := by decide +kernel
theorem eL_713 : decode code 713 = .ok (.goto 141, 3) := by decide +kernel
theorem eL_716 : decode code 716 = .ok (.aload_n 1, 1) := by decide +kernel
theorem eL_717 : decode code 717 = .ok (.aload_n 0, 1) := by decide +kernel
theorem eL_718 : decode code 718 = .ok (.iload_n 3, 1) := by decide +kernel
theorem eL_719 : decode code 719 = .ok (.iconst 1, 1) := by decide +kernel
theorem eL_720 : decode code 720 = .ok (.iadd, 1) := by decide +kernel
theorem eL_721 : decode code 721 = .ok (.iaload, 1) := by decide +kernel
theorem eL_722 : decode code 722 = .ok (.invokevirtual 111, 3) := by decide +kernel
theorem eL_725 : decode code 725 = .ok (.pop, 1) := by decide +kernel
theorem eL_726 : decode code 726 = .ok (.aload_n 2, 1) := by decide +kernel
theorem eL_727 : decode code 727 = .ok (.aload_n 0, 1) := by decide +kernel
theorem eL_728 : decode code 728 = .ok (.iload_n 3, 1) := by decide +kernel
theorem eL_729 : decode code 729 = .ok (.iconst 1, 1) := by decide +kernel
theorem eL_730 : decode code 730 = .ok (.iadd, 1) := by decide +kernel
theorem eL_731 : decode code 731 = .ok (.iaload, 1) := by decide +kernel
theorem eL_732 : decode code 732 = .ok (.invokevirtual 114, 3) := by decide +kernel
theorem eL_735 : decode code 735 = .ok (.pop, 1) := by decide +kernel
theorem eL_736 : decode code 736 = .ok (.goto 118, 3) := by decide +kernel
theorem eL_739 : decode code 739 = .ok (.aload_n 1, 1) := by decide +kernel
theorem eL_740 : decode code 740 = .ok (.aload_n 0, 1) := by decide +kernel
theorem eL_741 : decode code 741 = .ok (.iload_n 3, 1) := by decide +kernel
theorem eL_742 : decode code 742 = .ok (.iconst 1, 1) := by decide +kernel
theorem eL_743 : decode code 743 = .ok (.iadd, 1) := by decide +kernel
theorem eL_744 : decode code 744 = .ok (.iaload, 1) := by decide +kernel
theorem eL_745 : decode code 745 = .ok (.invokevirtual 115, 3) := by decide +kernel
theorem eL_748 : decode code 748 = .ok (.pop, 1) := by decide +kernel
theorem eL_749 : decode code 749 = .ok (.aload_n 2, 1) := by decide +kernel
theorem eL_750 : decode code 750 = .ok (.aload_n 0, 1) := by decide +kernel
theorem eL_751 : decode code 751 = .ok (.iload_n 3, 1) := by decide +kernel
theorem eL_752 : decode code 752 = .ok (.iconst 1, 1) := by decide +kernel
theorem eL_753 : decode code 753 = .ok (.iadd, 1) := by decide +kernel
theorem eL_754 : decode code 754 = .ok (.iaload, 1) := by decide +kernel
theorem eL_755 : decode code 755 = .ok (.invokevirtual 118, 3) := by decide +kernel
theorem eL_758 : decode code 758 = .ok (.pop, 1) := by decide +kernel
theorem eL_759 : decode code 759 = .ok (.goto 95, 3) := by decide +kernel
theorem eL_762 : decode code 762 = .ok (.aload_n 1, 1) := by decide +kernel
theorem eL_763 : decode code 763 = .ok (.aload_n 0, 1) := by decide +kernel
theorem eL_764 : decode code 764 = .ok (.iload_n 3, 1) := by decide +kernel
theorem eL_765 : decode code 765 = .ok (.iconst 1, 1) := by decide +kernel
theorem eL_766 : decode code 766 = .ok (.iadd, 1) := by decide +kernel
theorem eL_767 : decode code 767 = .ok (.iaload, 1) := by decide +kernel
theorem eL_768 : decode code 768 = .ok (.invokevirtual 119, 3) := by decide +kernel
theorem eL_771 : decode code 771 = .ok (.pop2, 1) := by decide +kernel
theorem eL_772 : decode code 772 = .ok (.aload_n 2, 1) := by decide +kernel
theorem eL_773 : decode code 773 = .ok (.aload_n 0, 1) := by decide +kernel
theorem eL_774 : decode code 774 = .ok (.iload_n 3, 1) := by decide +kernel
theorem eL_775 : decode code 775 = .ok (.iconst 1, 1) := by decide +kernel
theorem eL_776 : decode code 776 = .ok (.iadd, 1) := by decide +kernel
theorem eL_777 : decode code 777 = .ok (.iaload, 1) := by decide +kernel
theorem eL_778 : decode code 778 = .ok (.invokevirtual 122, 3) := by decide +kernel
theorem eL_781 : decode code 781 = .ok (.pop2, 1) := by decide +kernel
theorem eL_782 : decode code 782 = .ok (.goto 72, 3) := by decide +kernel
theorem eL_785 : decode code 785 = .ok (.aload_n 1, 1) := by decide +kernel
theorem eL_786 : decode code 786 = .ok (.aload_n 0, 1) := by decide +kernel
theorem eL_787 : decode code 787 = .ok (.iload_n 3, 1) := by decide +kernel
theorem eL_788 : decode code 788 = .ok (.iconst 1, 1) := by decide +kernel
theorem eL_789 : decode code 789 = .ok (.iadd, 1) := by decide +kernel
theorem eL_790 : decode code 790 = .ok (.iaload, 1) := by decide +kernel
theorem eL_791 : decode code 791 = .ok (.invokevirtual 123, 3) := by decide +kernel
theorem eL_794 : decode code 794 = .ok (.pop, 1) := by decide +kernel
theorem eL_795 : decode code 795 = .ok (.aload_n 2, 1) := by decide +kernel
theorem eL_796 : decode code 796 = .ok (.aload_n 0, 1) := by decide +kernel
theorem eL_797 : decode code 797 = .ok (.iload_n 3, 1) := by decide +kernel
theorem eL_798 : decode code 798 = .ok (.iconst 1, 1) := by decide +kernel
theorem eL_799 : decode code 799 = .ok (.iadd, 1) := by decide +kernel
theorem eL_800 : decode code 800 = .ok (.iaload, 1) := by decide +kernel
theorem eL_801 : decode code 801 = .ok (.invokevirtual 126, 3) := by decide +kernel
theorem eL_804 : decode code 804 = .ok (.pop, 1) := by decide +kernel
theorem eL_805 : decode code 805 = .ok (.goto 49, 3) := by decide +kernel
theorem eL_808 : decode code 808 = .ok (.aload_n 1, 1) := by decide +kernel
theorem eL_809 : decode code 809 = .ok (.aload_n 0, 1) := by decide +kernel
theorem eL_810 : decode code 810 = .ok (.iload_n 3, 1) := by decide +kernel
theorem eL_811 : decode code 811 = .ok (.iconst 1, 1) := by decide +kernel
theorem eL_812 : decode code 812 = .ok (.iadd, 1) := by decide +kernel
theorem eL_813 : decode code 813 = .ok (.iaload, 1) := by decide +kernel
theorem eL_814 : decode code 814 = .ok (.invokevirtual 127, 3) := by decide +kernel
theorem eL_817 : decode code 817 = .ok (.pop, 1) := by decide +kernel
theorem eL_818 : decode code 818 = .ok (.aload_n 2, 1) := by decide +kernel
theorem eL_819 : decode code 819 = .ok (.aload_n 0, 1) := by decide +kernel
theorem eL_820 : decode code 820 = .ok (.iload_n 3, 1) := by decide +kernel
theorem eL_821 : decode code 821 = .ok (.iconst 1, 1) := by decide +kernel
theorem eL_822 : decode code 822 = .ok (.iadd, 1) := by decide +kernel
theorem eL_823 : decode code 823 = .ok (.iaload, 1) := by decide +kernel
theorem eL_824 : decode code 824 = .ok (.invokevirtual 130, 3) := by decide +kernel
theorem eL_827 : decode code 827 = .ok (.pop, 1) := by decide +kernel
theorem eL_828 : decode code 828 = .ok (.goto 26, 3) := by decide +kernel
theorem eL_831 : decode code 831 = .ok (.aload_n 1, 1) := by decide +kernel
theorem eL_832 : decode code 832 = .ok (.aload_n 0, 1) := by decide +kernel
theorem eL_833 : decode code 833 = .ok (.iload_n 3, 1) := by decide +kernel
theorem eL_834 : decode code 834 = .ok (.iconst 1, 1) := by decide +kernel
theorem eL_835 : decode code 835 = .ok (.iadd, 1) := by decide +kernel
theorem eL_836 : decode code 836 = .ok (.iaload, 1) := by decide +kernel
theorem eL_837 : decode code 837 = .ok (.invokevirtual 131, 3) := by decide +kernel
theorem eL_840 : decode code 840 = .ok (.pop, 1) := by decide +kernel
theorem eL_841 : decode code 841 = .ok (.aload_n 2, 1) := by decide +kernel
theorem eL_842 : decode code 842 = .ok (.aload_n 0, 1) := by decide +kernel
theorem eL_843 : decode code 843 = .ok (.iload_n 3, 1) := by decide +kernel
theorem eL_844 : decode code 844 = .ok (.iconst 1, 1) := by decide +kernel
theorem eL_845 : decode code 845 = .ok (.iadd, 1) := by decide +kernel
theorem eL_846 : decode code 846 = .ok (.iaload, 1) := by decide +kernel
theorem eL_847 : decode code 847 = .ok (.invokevirtual 134, 3) := by decide +kernel
theorem eL_850 : decode code 850 = .ok (.pop, 1) := by decide +kernel
theorem eL_851 : decode code 851 = .ok (.goto 3, 3) := by decide +kernel
theorem eL_854 : decode code 854 = .ok (.iinc 3 6, 3) := by decide +kernel
theorem eL_857 : decode code 857 = .ok (.goto (-839), 3) := by decide +kernel
theorem eL_860 : decode code 860 = .ok (.iconst 1, 1) := by decide +kernel
theorem eL_861 : decode code 861 = .ok (.ireturn, 1) := by decide +kernel
theorem kL_7 : Cond.classLink "WhyNotLaw" 7 "WhyNot" ∈ q_gt := (q_m1 20 rfl rfl)
theorem lL_9 : Cond.methodLink "WhyNotLaw" 9 ({ cls := "WhyNot", name := "<init>", desc := "()V" } : MethodName) ∈ q_gt := (q_m1 22 rfl rfl)
theorem kL_10 : Cond.classLink "WhyNotLaw" 10 "WhyNotModel" ∈ q_gt := (q_m6 65 rfl rfl)
theorem lL_12 : Cond.methodLink "WhyNotLaw" 12 ({ cls := "WhyNotModel", name := "<init>", desc := "()V" } : MethodName) ∈ q_gt := (q_m6 67 rfl rfl)
theorem lL_13 : Cond.methodLink "WhyNotLaw" 13 ({ cls := "WhyNot", name := "feed", desc := "(IIIII)I" } : MethodName) ∈ q_gt := (q_m3 117 rfl rfl)
theorem lL_17 : Cond.methodLink "WhyNotLaw" 17 ({ cls := "WhyNotModel", name := "feed", desc := "(IIIII)I" } : MethodName) ∈ q_gt := (q_m9 99 rfl rfl)
theorem lL_18 : Cond.methodLink "WhyNotLaw" 18 ({ cls := "WhyNot", name := "end", desc := "(I)I" } : MethodName) ∈ q_gt := (q_m3 125 rfl rfl)
theorem lL_22 : Cond.methodLink "WhyNotLaw" 22 ({ cls := "WhyNotModel", name := "end", desc := "(I)I" } : MethodName) ∈ q_gt := (q_m9 103 rfl rfl)
theorem lL_23 : Cond.methodLink "WhyNotLaw" 23 ({ cls := "WhyNot", name := "program", desc := "()I" } : MethodName) ∈ q_gt := (q_m3 129 rfl rfl)
theorem lL_27 : Cond.methodLink "WhyNotLaw" 27 ({ cls := "WhyNotModel", name := "program", desc := "()I" } : MethodName) ∈ q_gt := (q_m7 134 rfl rfl)
theorem lL_28 : Cond.methodLink "WhyNotLaw" 28 ({ cls := "WhyNot", name := "fault", desc := "(I)I" } : MethodName) ∈ q_gt := (q_m4 105 rfl rfl)
theorem lL_31 : Cond.methodLink "WhyNotLaw" 31 ({ cls := "WhyNotModel", name := "fault", desc := "(I)I" } : MethodName) ∈ q_gt := (q_m8 11 rfl rfl)
theorem lL_32 : Cond.methodLink "WhyNotLaw" 32 ({ cls := "WhyNot", name := "place", desc := "(II)I" } : MethodName) ∈ q_gt := (q_m4 109 rfl rfl)
theorem lL_36 : Cond.methodLink "WhyNotLaw" 36 ({ cls := "WhyNotModel", name := "place", desc := "(II)I" } : MethodName) ∈ q_gt := (q_m8 15 rfl rfl)
theorem lL_37 : Cond.methodLink "WhyNotLaw" 37 ({ cls := "WhyNot", name := "fits", desc := "()I" } : MethodName) ∈ q_gt := (q_m4 114 rfl rfl)
theorem lL_40 : Cond.methodLink "WhyNotLaw" 40 ({ cls := "WhyNotModel", name := "fits", desc := "()I" } : MethodName) ∈ q_gt := (q_m8 26 rfl rfl)
theorem lL_41 : Cond.methodLink "WhyNotLaw" 41 ({ cls := "WhyNot", name := "kind", desc := "(II)I" } : MethodName) ∈ q_gt := (q_m4 179 rfl rfl)
theorem lL_44 : Cond.methodLink "WhyNotLaw" 44 ({ cls := "WhyNotModel", name := "kind", desc := "(II)I" } : MethodName) ∈ q_gt := (q_m8 117 rfl rfl)
theorem nL_45 : Cond.constantLong "WhyNotLaw" 45 (4294967295 : Int64) ∈ q_gt := (q_m9 107 rfl rfl)
theorem lL_47 : Cond.methodLink "WhyNotLaw" 47 ({ cls := "WhyNot", name := "clashes", desc := "(J)I" } : MethodName) ∈ q_gt := (q_m4 197 rfl rfl)
theorem lL_51 : Cond.methodLink "WhyNotLaw" 51 ({ cls := "WhyNotModel", name := "clashes", desc := "(J)I" } : MethodName) ∈ q_gt := (q_m8 113 rfl rfl)
theorem lL_52 : Cond.methodLink "WhyNotLaw" 52 ({ cls := "WhyNot", name := "core", desc := "()J" } : MethodName) ∈ q_gt := (q_m4 207 rfl rfl)
theorem lL_56 : Cond.methodLink "WhyNotLaw" 56 ({ cls := "WhyNotModel", name := "core", desc := "()J" } : MethodName) ∈ q_gt := (q_m8 129 rfl rfl)
theorem lL_57 : Cond.methodLink "WhyNotLaw" 57 ({ cls := "WhyNot", name := "meets", desc := "(II)I" } : MethodName) ∈ q_gt := (q_m4 221 rfl rfl)
theorem lL_60 : Cond.methodLink "WhyNotLaw" 60 ({ cls := "WhyNotModel", name := "meets", desc := "(II)I" } : MethodName) ∈ q_gt := (q_m8 125 rfl rfl)
theorem lL_61 : Cond.methodLink "WhyNotLaw" 61 ({ cls := "WhyNot", name := "cores", desc := "()I" } : MethodName) ∈ q_gt := (q_m4 230 rfl rfl)
theorem lL_64 : Cond.methodLink "WhyNotLaw" 64 ({ cls := "WhyNotModel", name := "cores", desc := "()I" } : MethodName) ∈ q_gt := (q_m8 138 rfl rfl)
theorem lL_65 : Cond.methodLink "WhyNotLaw" 65 ({ cls := "WhyNot", name := "coreAt", desc := "(I)J" } : MethodName) ∈ q_gt := (q_m5 15 rfl rfl)
theorem lL_69 : Cond.methodLink "WhyNotLaw" 69 ({ cls := "WhyNotModel", name := "coreAt", desc := "(I)J" } : MethodName) ∈ q_gt := (q_m8 158 rfl rfl)
theorem lL_70 : Cond.methodLink "WhyNotLaw" 70 ({ cls := "WhyNot", name := "trust", desc := "(II)I" } : MethodName) ∈ q_gt := (q_m5 25 rfl rfl)
theorem lL_73 : Cond.methodLink "WhyNotLaw" 73 ({ cls := "WhyNotModel", name := "trust", desc := "(II)I" } : MethodName) ∈ q_gt := (q_m8 170 rfl rfl)
theorem lL_74 : Cond.methodLink "WhyNotLaw" 74 ({ cls := "WhyNot", name := "cheapest", desc := "()J" } : MethodName) ∈ q_gt := (q_m5 29 rfl rfl)
theorem lL_77 : Cond.methodLink "WhyNotLaw" 77 ({ cls := "WhyNotModel", name := "cheapest", desc := "()J" } : MethodName) ∈ q_gt := (q_m8 174 rfl rfl)
theorem lL_78 : Cond.methodLink "WhyNotLaw" 78 ({ cls := "WhyNot", name := "mends", desc := "()I" } : MethodName) ∈ q_gt := (q_m5 69 rfl rfl)
theorem lL_81 : Cond.methodLink "WhyNotLaw" 81 ({ cls := "WhyNotModel", name := "mends", desc := "()I" } : MethodName) ∈ q_gt := (q_m8 162 rfl rfl)
theorem lL_82 : Cond.methodLink "WhyNotLaw" 82 ({ cls := "WhyNot", name := "mendAt", desc := "(I)J" } : MethodName) ∈ q_gt := (q_m5 73 rfl rfl)
theorem lL_85 : Cond.methodLink "WhyNotLaw" 85 ({ cls := "WhyNotModel", name := "mendAt", desc := "(I)J" } : MethodName) ∈ q_gt := (q_m8 166 rfl rfl)
theorem lL_86 : Cond.methodLink "WhyNotLaw" 86 ({ cls := "WhyNot", name := "hints", desc := "()I" } : MethodName) ∈ q_gt := (q_m5 84 rfl rfl)
theorem lL_89 : Cond.methodLink "WhyNotLaw" 89 ({ cls := "WhyNotModel", name := "hints", desc := "()I" } : MethodName) ∈ q_gt := (q_m8 191 rfl rfl)
theorem lL_90 : Cond.methodLink "WhyNotLaw" 90 ({ cls := "WhyNot", name := "hint", desc := "(II)I" } : MethodName) ∈ q_gt := (q_m5 143 rfl rfl)
theorem lL_93 : Cond.methodLink "WhyNotLaw" 93 ({ cls := "WhyNotModel", name := "hint", desc := "(II)I" } : MethodName) ∈ q_gt := (q_m9 2 rfl rfl)
theorem lL_94 : Cond.methodLink "WhyNotLaw" 94 ({ cls := "WhyNot", name := "apply", desc := "(I)I" } : MethodName) ∈ q_gt := (q_m5 151 rfl rfl)
theorem lL_97 : Cond.methodLink "WhyNotLaw" 97 ({ cls := "WhyNotModel", name := "apply", desc := "(I)I" } : MethodName) ∈ q_gt := (q_m9 6 rfl rfl)
theorem lL_98 : Cond.methodLink "WhyNotLaw" 98 ({ cls := "WhyNot", name := "run", desc := "(I)I" } : MethodName) ∈ q_gt := (q_m5 156 rfl rfl)
theorem lL_101 : Cond.methodLink "WhyNotLaw" 101 ({ cls := "WhyNotModel", name := "run", desc := "(I)I" } : MethodName) ∈ q_gt := (q_m9 18 rfl rfl)
theorem lL_102 : Cond.methodLink "WhyNotLaw" 102 ({ cls := "WhyNot", name := "right", desc := "(I)I" } : MethodName) ∈ q_gt := (q_m6 8 rfl rfl)
theorem lL_105 : Cond.methodLink "WhyNotLaw" 105 ({ cls := "WhyNotModel", name := "right", desc := "(I)I" } : MethodName) ∈ q_gt := (q_m9 62 rfl rfl)
theorem lL_106 : Cond.methodLink "WhyNotLaw" 106 ({ cls := "WhyNot", name := "untell", desc := "(I)Z" } : MethodName) ∈ q_gt := (q_m6 16 rfl rfl)
theorem lL_110 : Cond.methodLink "WhyNotLaw" 110 ({ cls := "WhyNotModel", name := "untell", desc := "(I)Z" } : MethodName) ∈ q_gt := (q_m9 66 rfl rfl)
theorem lL_111 : Cond.methodLink "WhyNotLaw" 111 ({ cls := "WhyNot", name := "later", desc := "(I)I" } : MethodName) ∈ q_gt := (q_m6 24 rfl rfl)
theorem lL_114 : Cond.methodLink "WhyNotLaw" 114 ({ cls := "WhyNotModel", name := "later", desc := "(I)I" } : MethodName) ∈ q_gt := (q_m9 70 rfl rfl)
theorem lL_115 : Cond.methodLink "WhyNotLaw" 115 ({ cls := "WhyNot", name := "left", desc := "(I)I" } : MethodName) ∈ q_gt := (q_m6 29 rfl rfl)
theorem lL_118 : Cond.methodLink "WhyNotLaw" 118 ({ cls := "WhyNotModel", name := "left", desc := "(I)I" } : MethodName) ∈ q_gt := (q_m9 75 rfl rfl)
theorem lL_119 : Cond.methodLink "WhyNotLaw" 119 ({ cls := "WhyNot", name := "sure", desc := "(I)J" } : MethodName) ∈ q_gt := (q_m6 41 rfl rfl)
theorem lL_122 : Cond.methodLink "WhyNotLaw" 122 ({ cls := "WhyNotModel", name := "sure", desc := "(I)J" } : MethodName) ∈ q_gt := (q_m9 83 rfl rfl)
theorem lL_123 : Cond.methodLink "WhyNotLaw" 123 ({ cls := "WhyNot", name := "image", desc := "(I)I" } : MethodName) ∈ q_gt := (q_m6 49 rfl rfl)
theorem lL_126 : Cond.methodLink "WhyNotLaw" 126 ({ cls := "WhyNotModel", name := "image", desc := "(I)I" } : MethodName) ∈ q_gt := (q_m9 87 rfl rfl)
theorem lL_127 : Cond.methodLink "WhyNotLaw" 127 ({ cls := "WhyNot", name := "back", desc := "(I)I" } : MethodName) ∈ q_gt := (q_m6 53 rfl rfl)
theorem lL_130 : Cond.methodLink "WhyNotLaw" 130 ({ cls := "WhyNotModel", name := "back", desc := "(I)I" } : MethodName) ∈ q_gt := (q_m9 91 rfl rfl)
theorem lL_131 : Cond.methodLink "WhyNotLaw" 131 ({ cls := "WhyNot", name := "about", desc := "(I)I" } : MethodName) ∈ q_gt := (q_m6 57 rfl rfl)
theorem lL_134 : Cond.methodLink "WhyNotLaw" 134 ({ cls := "WhyNotModel", name := "about", desc := "(I)I" } : MethodName) ∈ q_gt := (q_m9 95 rfl rfl)
def sx (xs : Nat → Int32) (z : Int) : Int := (xs z.toNat).toInt
theorem PI.sp {la : List (Nat × Nat)} {Q : ST → Int → Prop} : ∀ σ r, PI la Q σ r → ∃ s', σ = qs la s' ∧ ∃ v, RA s' ∧ R32 v ∧ r = some (.int (Int32.ofInt v)) ∧ Q s' v := fun _ _ ⟨s', v, h1, h2, h3, h4, h5⟩ => ⟨s', h1, v, h2, h3, h4, h5⟩
theorem PB.sp {la : List (Nat × Nat)} {Q : ST → Int → Prop} : ∀ σ r, PB la Q σ r → ∃ s', σ = qs la s' ∧ ∃ v, RA s' ∧ (v = 0 ∨ v = 1) ∧ r = some (.int (Int32.ofInt v)) ∧ Q s' v := fun _ _ ⟨s', v, h1, h2, h3, h4, h5⟩ => ⟨s', h1, v, h2, h3, h4, h5⟩
theorem PL.sp {la : List (Nat × Nat)} {Q : ST → Int64 → Prop} : ∀ σ r, PL la Q σ r → ∃ s', σ = qs la s' ∧ ∃ v, RA s' ∧ r = some (.long v) ∧ Q s' v := fun _ _ ⟨s', v, h1, h2, h4, h5⟩ => ⟨s', h1, v, h2, h4, h5⟩
theorem q_pop2 {M : q_M} {σ : q_S} {kc ks pc : Nat} {lv : List (Nat × Value)} {st : List Value} {Q : q_F} {v : Value} (hd : decode M.1.2.1 pc = .ok (.pop2, 1)) (hv : v.category = 2) (k : q_K M σ kc ks (pc + 1) lv st Q) : q_K M σ kc ks pc lv (v :: st) Q := by
  intro p l ε e s m args below meth c H locs ls A C hA hW hS hl
  exact lv_pop2_2 C.1 C.2.1 hd ((q_cat ε v).trans hv) (k p l ε e s m args below meth c H locs ls A C hA hW hS hl)
section ZL
variable {σ : q_S} {kc ks pc b L : Nat} {xs : Nat → Int32} {lv : List (Nat × Value)} {st : List Value}
theorem z_sld {x : Int32} {z : Int} (hd : decode code pc = .ok (.iaload, 1)) (hx : x.toInt = z) (hb : 0 ≤ z ∧ z < (L : Int)) (k : q_K mL σ kc ks (pc + 1) lv (.int (Int32.ofInt (sx xs z)) :: st) (q_FL b L xs)) : q_K mL σ kc ks pc lv (.int x :: .ref 1002 :: st) (q_FL b L xs) :=
  q_sld (j := z.toNat) hd (by omega) (by omega) (q_topI (Int32.ofInt_toInt _).symm k)
theorem z_slen (hd : decode code pc = .ok (.arraylength, 1)) (k : q_K mL σ kc ks (pc + 1) lv (.int (Int32.ofInt (L : Int)) :: st) (q_FL b L xs)) : q_K mL σ kc ks pc lv (.ref 1002 :: st) (q_FL b L xs) := q_slen hd (q_topI Int32.ofInt_eq_ofNat.symm k)
end ZL
theorem q_LV0 {M M2 : q_M} {σ : q_S} {kc ks pc : Nat} {lv : List (Nat × Value)} {rest : List Value} {Q : q_F} {Q2 : q_P} {i ci n idx : Nat} (hd : decode M.1.2.1 pc = .ok (.invokevirtual idx, 3)) (hM : q_DV M2 0) (hl : Cond.methodLink M.1.1.cls idx M2.1.1 ∈ q_gt) (hi : σ.2.2.2[i]? = some (ci, n)) (hc : ci < 12) (hR : q_R ci = M2.1.1.cls) (hz : M2.2.2.2 = (0, 0)) (hfit : (Nat.ble (M2.2.1 + 1) M.2.1 && Nat.ble (8 + (M2.1.2.2.1 + 11) + M2.2.2.1) M.2.2.1) = true) (hrest : Nat.ble (rest.map fun v => v.category).sum 8 = true) (hk : kc ≤ M.2.2.2.1 ∧ ks ≤ M.2.2.2.2) (hm : q_met M2 σ (.ref i :: []) Q2) (kk : ∀ s' r, Q2 s' r → q_K M s' kc ks (pc + 3) lv (r.toList ++ rest) Q) : q_K M σ kc ks pc lv (.ref i :: rest) Q := q_callV0 hd hM hl hi hc hR (q_fitb hfit) (q_r8 hrest) (by rw [hz]; exact hk) hm (by rw [hz]; exact kk)
theorem q_LV1 {M M2 : q_M} {σ : q_S} {kc ks pc : Nat} {lv : List (Nat × Value)} {rest : List Value} {Q : q_F} {Q2 : q_P} {u1 : Value} {i ci n idx : Nat} (hd : decode M.1.2.1 pc = .ok (.invokevirtual idx, 3)) (hM : q_DV M2 1) (hl : Cond.methodLink M.1.1.cls idx M2.1.1 ∈ q_gt) (hi : σ.2.2.2[i]? = some (ci, n)) (hc : ci < 12) (hR : q_R ci = M2.1.1.cls) (hz : M2.2.2.2 = (0, 0)) (hfit : (Nat.ble (M2.2.1 + 1) M.2.1 && Nat.ble (8 + (M2.1.2.2.1 + 11) + M2.2.2.1) M.2.2.1) = true) (hrest : Nat.ble (rest.map fun v => v.category).sum 8 = true) (hk : kc ≤ M.2.2.2.1 ∧ ks ≤ M.2.2.2.2) (hm : q_met M2 σ (.ref i :: [u1]) Q2) (kk : ∀ s' r, Q2 s' r → q_K M s' kc ks (pc + 3) lv (r.toList ++ rest) Q) : q_K M σ kc ks pc lv (u1 :: .ref i :: rest) Q := q_callV1 hd hM hl hi hc hR (q_fitb hfit) (q_r8 hrest) (by rw [hz]; exact hk) hm (by rw [hz]; exact kk)
theorem q_LV2 {M M2 : q_M} {σ : q_S} {kc ks pc : Nat} {lv : List (Nat × Value)} {rest : List Value} {Q : q_F} {Q2 : q_P} {u1 u2 : Value} {i ci n idx : Nat} (hd : decode M.1.2.1 pc = .ok (.invokevirtual idx, 3)) (hM : q_DV M2 2) (hl : Cond.methodLink M.1.1.cls idx M2.1.1 ∈ q_gt) (hi : σ.2.2.2[i]? = some (ci, n)) (hc : ci < 12) (hR : q_R ci = M2.1.1.cls) (hz : M2.2.2.2 = (0, 0)) (hfit : (Nat.ble (M2.2.1 + 1) M.2.1 && Nat.ble (8 + (M2.1.2.2.1 + 11) + M2.2.2.1) M.2.2.1) = true) (hrest : Nat.ble (rest.map fun v => v.category).sum 8 = true) (hk : kc ≤ M.2.2.2.1 ∧ ks ≤ M.2.2.2.2) (hm : q_met M2 σ (.ref i :: [u1, u2]) Q2) (kk : ∀ s' r, Q2 s' r → q_K M s' kc ks (pc + 3) lv (r.toList ++ rest) Q) : q_K M σ kc ks pc lv (u2 :: u1 :: .ref i :: rest) Q := q_callV2 hd hM hl hi hc hR (q_fitb hfit) (q_r8 hrest) (by rw [hz]; exact hk) hm (by rw [hz]; exact kk)
theorem q_LV3 {M M2 : q_M} {σ : q_S} {kc ks pc : Nat} {lv : List (Nat × Value)} {rest : List Value} {Q : q_F} {Q2 : q_P} {u1 u2 u3 : Value} {i ci n idx : Nat} (hd : decode M.1.2.1 pc = .ok (.invokevirtual idx, 3)) (hM : q_DV M2 3) (hl : Cond.methodLink M.1.1.cls idx M2.1.1 ∈ q_gt) (hi : σ.2.2.2[i]? = some (ci, n)) (hc : ci < 12) (hR : q_R ci = M2.1.1.cls) (hz : M2.2.2.2 = (0, 0)) (hfit : (Nat.ble (M2.2.1 + 1) M.2.1 && Nat.ble (8 + (M2.1.2.2.1 + 11) + M2.2.2.1) M.2.2.1) = true) (hrest : Nat.ble (rest.map fun v => v.category).sum 8 = true) (hk : kc ≤ M.2.2.2.1 ∧ ks ≤ M.2.2.2.2) (hm : q_met M2 σ (.ref i :: [u1, u2, u3]) Q2) (kk : ∀ s' r, Q2 s' r → q_K M s' kc ks (pc + 3) lv (r.toList ++ rest) Q) : q_K M σ kc ks pc lv (u3 :: u2 :: u1 :: .ref i :: rest) Q := q_callV3 hd hM hl hi hc hR (q_fitb hfit) (q_r8 hrest) (by rw [hz]; exact hk) hm (by rw [hz]; exact kk)
theorem q_LV4 {M M2 : q_M} {σ : q_S} {kc ks pc : Nat} {lv : List (Nat × Value)} {rest : List Value} {Q : q_F} {Q2 : q_P} {u1 u2 u3 u4 : Value} {i ci n idx : Nat} (hd : decode M.1.2.1 pc = .ok (.invokevirtual idx, 3)) (hM : q_DV M2 4) (hl : Cond.methodLink M.1.1.cls idx M2.1.1 ∈ q_gt) (hi : σ.2.2.2[i]? = some (ci, n)) (hc : ci < 12) (hR : q_R ci = M2.1.1.cls) (hz : M2.2.2.2 = (0, 0)) (hfit : (Nat.ble (M2.2.1 + 1) M.2.1 && Nat.ble (8 + (M2.1.2.2.1 + 11) + M2.2.2.1) M.2.2.1) = true) (hrest : Nat.ble (rest.map fun v => v.category).sum 8 = true) (hk : kc ≤ M.2.2.2.1 ∧ ks ≤ M.2.2.2.2) (hm : q_met M2 σ (.ref i :: [u1, u2, u3, u4]) Q2) (kk : ∀ s' r, Q2 s' r → q_K M s' kc ks (pc + 3) lv (r.toList ++ rest) Q) : q_K M σ kc ks pc lv (u4 :: u3 :: u2 :: u1 :: .ref i :: rest) Q := q_callV4 hd hM hl hi hc hR (q_fitb hfit) (q_r8 hrest) (by rw [hz]; exact hk) hm (by rw [hz]; exact kk)
theorem q_LV5 {M M2 : q_M} {σ : q_S} {kc ks pc : Nat} {lv : List (Nat × Value)} {rest : List Value} {Q : q_F} {Q2 : q_P} {u1 u2 u3 u4 u5 : Value} {i ci n idx : Nat} (hd : decode M.1.2.1 pc = .ok (.invokevirtual idx, 3)) (hM : q_DV M2 5) (hl : Cond.methodLink M.1.1.cls idx M2.1.1 ∈ q_gt) (hi : σ.2.2.2[i]? = some (ci, n)) (hc : ci < 12) (hR : q_R ci = M2.1.1.cls) (hz : M2.2.2.2 = (0, 0)) (hfit : (Nat.ble (M2.2.1 + 1) M.2.1 && Nat.ble (8 + (M2.1.2.2.1 + 11) + M2.2.2.1) M.2.2.1) = true) (hrest : Nat.ble (rest.map fun v => v.category).sum 8 = true) (hk : kc ≤ M.2.2.2.1 ∧ ks ≤ M.2.2.2.2) (hm : q_met M2 σ (.ref i :: [u1, u2, u3, u4, u5]) Q2) (kk : ∀ s' r, Q2 s' r → q_K M s' kc ks (pc + 3) lv (r.toList ++ rest) Q) : q_K M σ kc ks pc lv (u5 :: u4 :: u3 :: u2 :: u1 :: .ref i :: rest) Q := q_callV5 hd hM hl hi hc hR (q_fitb hfit) (q_r8 hrest) (by rw [hz]; exact hk) hm (by rw [hz]; exact kk)
theorem q_tab28 {M : q_M} {σ : q_S} {kc ks pc : Nat} {lv : List (Nat × Value)} {st : List Value} {Q : q_F} {dflt lo hi z : Int} {offs : Array Int} {len : Nat} {x : Int32} (t0 t1 t2 t3 t4 t5 t6 t7 t8 t9 t10 t11 t12 t13 t14 t15 t16 t17 t18 t19 t20 t21 t22 t23 t24 t25 t26 t27 td : Nat) (hd : decode M.1.2.1 pc = .ok (.tableswitch dflt lo hi offs, len)) (hn : hi = lo + 28 - 1) (ho : offs.toList.map (fun o => (pc : Int) + o) = [(t0 : Int), (t1 : Int), (t2 : Int), (t3 : Int), (t4 : Int), (t5 : Int), (t6 : Int), (t7 : Int), (t8 : Int), (t9 : Int), (t10 : Int), (t11 : Int), (t12 : Int), (t13 : Int), (t14 : Int), (t15 : Int), (t16 : Int), (t17 : Int), (t18 : Int), (t19 : Int), (t20 : Int), (t21 : Int), (t22 : Int), (t23 : Int), (t24 : Int), (t25 : Int), (t26 : Int), (t27 : Int)]) (ht : (pc : Int) + dflt = (td : Int)) (hx : x.toInt = z) (k0 : z = lo + 0 → q_K M σ kc ks t0 lv st Q) (k1 : z = lo + 1 → q_K M σ kc ks t1 lv st Q) (k2 : z = lo + 2 → q_K M σ kc ks t2 lv st Q) (k3 : z = lo + 3 → q_K M σ kc ks t3 lv st Q) (k4 : z = lo + 4 → q_K M σ kc ks t4 lv st Q) (k5 : z = lo + 5 → q_K M σ kc ks t5 lv st Q) (k6 : z = lo + 6 → q_K M σ kc ks t6 lv st Q) (k7 : z = lo + 7 → q_K M σ kc ks t7 lv st Q) (k8 : z = lo + 8 → q_K M σ kc ks t8 lv st Q) (k9 : z = lo + 9 → q_K M σ kc ks t9 lv st Q) (k10 : z = lo + 10 → q_K M σ kc ks t10 lv st Q) (k11 : z = lo + 11 → q_K M σ kc ks t11 lv st Q) (k12 : z = lo + 12 → q_K M σ kc ks t12 lv st Q) (k13 : z = lo + 13 → q_K M σ kc ks t13 lv st Q) (k14 : z = lo + 14 → q_K M σ kc ks t14 lv st Q) (k15 : z = lo + 15 → q_K M σ kc ks t15 lv st Q) (k16 : z = lo + 16 → q_K M σ kc ks t16 lv st Q) (k17 : z = lo + 17 → q_K M σ kc ks t17 lv st Q) (k18 : z = lo + 18 → q_K M σ kc ks t18 lv st Q) (k19 : z = lo + 19 → q_K M σ kc ks t19 lv st Q) (k20 : z = lo + 20 → q_K M σ kc ks t20 lv st Q) (k21 : z = lo + 21 → q_K M σ kc ks t21 lv st Q) (k22 : z = lo + 22 → q_K M σ kc ks t22 lv st Q) (k23 : z = lo + 23 → q_K M σ kc ks t23 lv st Q) (k24 : z = lo + 24 → q_K M σ kc ks t24 lv st Q) (k25 : z = lo + 25 → q_K M σ kc ks t25 lv st Q) (k26 : z = lo + 26 → q_K M σ kc ks t26 lv st Q) (k27 : z = lo + 27 → q_K M σ kc ks t27 lv st Q)
    (kd : (z < lo ∨ hi < z) → q_K M σ kc ks td lv st Q) : q_K M σ kc ks pc lv (.int x :: st) Q := by
  subst hx
  refine q_table [t0, t1, t2, t3, t4, t5, t6, t7, t8, t9, t10, t11, t12, t13, t14, t15, t16, t17, t18, t19, t20, t21, t22, t23, t24, t25, t26, t27] td hd (by simpa using hn) (fun j t hj => ?_) ht (fun j t hj hx => ?_) kd
  · have h1 : (offs.toList.map (fun o => (pc : Int) + o))[j]? = some (t : Int) := by
      rw [ho]
      have h2 : (([t0, t1, t2, t3, t4, t5, t6, t7, t8, t9, t10, t11, t12, t13, t14, t15, t16, t17, t18, t19, t20, t21, t22, t23, t24, t25, t26, t27] : List Nat).map (fun (q : Nat) => (q : Int)))[j]? = some (t : Int) := by rw [List.getElem?_map, hj]; rfl
      exact h2
    rw [List.getElem?_map] at h1
    cases h3 : offs.toList[j]? with
    | none => rw [h3] at h1; cases h1
    | some o =>
      rw [h3] at h1
      exact ⟨o, by rw [← Array.getElem?_toList]; exact h3, Option.some.inj h1⟩
  · match j, hj, hx with
    | 0, hj, hx => simp at hj; subst hj; exact k0 hx
    | 1, hj, hx => simp at hj; subst hj; exact k1 hx
    | 2, hj, hx => simp at hj; subst hj; exact k2 hx
    | 3, hj, hx => simp at hj; subst hj; exact k3 hx
    | 4, hj, hx => simp at hj; subst hj; exact k4 hx
    | 5, hj, hx => simp at hj; subst hj; exact k5 hx
    | 6, hj, hx => simp at hj; subst hj; exact k6 hx
    | 7, hj, hx => simp at hj; subst hj; exact k7 hx
    | 8, hj, hx => simp at hj; subst hj; exact k8 hx
    | 9, hj, hx => simp at hj; subst hj; exact k9 hx
    | 10, hj, hx => simp at hj; subst hj; exact k10 hx
    | 11, hj, hx => simp at hj; subst hj; exact k11 hx
    | 12, hj, hx => simp at hj; subst hj; exact k12 hx
    | 13, hj, hx => simp at hj; subst hj; exact k13 hx
    | 14, hj, hx => simp at hj; subst hj; exact k14 hx
    | 15, hj, hx => simp at hj; subst hj; exact k15 hx
    | 16, hj, hx => simp at hj; subst hj; exact k16 hx
    | 17, hj, hx => simp at hj; subst hj; exact k17 hx
    | 18, hj, hx => simp at hj; subst hj; exact k18 hx
    | 19, hj, hx => simp at hj; subst hj; exact k19 hx
    | 20, hj, hx => simp at hj; subst hj; exact k20 hx
    | 21, hj, hx => simp at hj; subst hj; exact k21 hx
    | 22, hj, hx => simp at hj; subst hj; exact k22 hx
    | 23, hj, hx => simp at hj; subst hj; exact k23 hx
    | 24, hj, hx => simp at hj; subst hj; exact k24 hx
    | 25, hj, hx => simp at hj; subst hj; exact k25 hx
    | 26, hj, hx => simp at hj; subst hj; exact k26 hx
    | 27, hj, hx => simp at hj; subst hj; exact k27 hx
    | k + 28, hj, hx => simp at hj
/-- what one round of the law asks: N is what is asked of both objects behind it -/
def lw0 (xs : Nat → Int32) (x m : ST) (i : Int) (N : ST → ST → Prop) : Prop := C_X10_feed x (sx xs (i + 1)) (sx xs (i + 2)) (sx xs (i + 3)) (sx xs (i + 4)) (sx xs (i + 5)) (fun x1 v1 => C_X11_feed m (sx xs (i + 1)) (sx xs (i + 2)) (sx xs (i + 3)) (sx xs (i + 4)) (sx xs (i + 5)) (fun m2 v2 => N x1 m2))
def lw1 (xs : Nat → Int32) (x m : ST) (i : Int) (N : ST → ST → Prop) : Prop := C_X10_end x (sx xs (i + 1)) (fun x1 v1 => C_X11_end m (sx xs (i + 1)) (fun m2 v2 => N x1 m2))
def lw2 (xs : Nat → Int32) (x m : ST) (i : Int) (N : ST → ST → Prop) : Prop := C_X10_program x (fun x1 v1 => C_X11_program m (fun m2 v2 => N x1 m2))
def lw3 (xs : Nat → Int32) (x m : ST) (i : Int) (N : ST → ST → Prop) : Prop := C_X10_fault x (sx xs (i + 1)) (fun x1 v1 => C_X11_fault m (sx xs (i + 1)) (fun m2 v2 => v1 = v2 ∧ N x1 m2))
def lw4 (xs : Nat → Int32) (x m : ST) (i : Int) (N : ST → ST → Prop) : Prop := C_X10_place x (sx xs (i + 1)) (sx xs (i + 2)) (fun x1 v1 => C_X11_place m (sx xs (i + 1)) (sx xs (i + 2)) (fun m2 v2 => N x1 m2))
def lw5 (xs : Nat → Int32) (x m : ST) (i : Int) (N : ST → ST → Prop) : Prop := C_X10_fits x (fun x1 v1 => C_X11_fits m (fun m2 v2 => N x1 m2))
def lw6 (xs : Nat → Int32) (x m : ST) (i : Int) (N : ST → ST → Prop) : Prop := C_X10_kind x (sx xs (i + 1)) (sx xs (i + 2)) (fun x1 v1 => C_X11_kind m (sx xs (i + 1)) (sx xs (i + 2)) (fun m2 v2 => N x1 m2))
def lw7 (xs : Nat → Int32) (x m : ST) (i : Int) (N : ST → ST → Prop) : Prop := C_X10_clashes x ((lshl (Int64.ofInt (sx xs (i + 1))) 32) ||| ((Int64.ofInt (sx xs (i + 2))) &&& 4294967295)) (fun x1 v1 => C_X11_clashes m ((lshl (Int64.ofInt (sx xs (i + 1))) 32) ||| ((Int64.ofInt (sx xs (i + 2))) &&& 4294967295)) (fun m2 v2 => N x1 m2))
def lw8 (xs : Nat → Int32) (x m : ST) (i : Int) (N : ST → ST → Prop) : Prop := C_X10_core x (fun x1 v1 => C_X11_core m (fun m2 v2 => N x1 m2))
def lw9 (xs : Nat → Int32) (x m : ST) (i : Int) (N : ST → ST → Prop) : Prop := C_X10_meets x (sx xs (i + 1)) (sx xs (i + 2)) (fun x1 v1 => C_X11_meets m (sx xs (i + 1)) (sx xs (i + 2)) (fun m2 v2 => N x1 m2))
def lw10 (xs : Nat → Int32) (x m : ST) (i : Int) (N : ST → ST → Prop) : Prop := C_X10_cores x (fun x1 v1 => C_X11_cores m (fun m2 v2 => N x1 m2))
def lw11 (xs : Nat → Int32) (x m : ST) (i : Int) (N : ST → ST → Prop) : Prop := C_X10_coreAt x (sx xs (i + 1)) (fun x1 v1 => C_X11_coreAt m (sx xs (i + 1)) (fun m2 v2 => N x1 m2))
def lw12 (xs : Nat → Int32) (x m : ST) (i : Int) (N : ST → ST → Prop) : Prop := C_X10_trust x (sx xs (i + 1)) (sx xs (i + 2)) (fun x1 v1 => C_X11_trust m (sx xs (i + 1)) (sx xs (i + 2)) (fun m2 v2 => N x1 m2))
def lw13 (xs : Nat → Int32) (x m : ST) (i : Int) (N : ST → ST → Prop) : Prop := C_X10_cheapest x (fun x1 v1 => C_X11_cheapest m (fun m2 v2 => N x1 m2))
def lw14 (xs : Nat → Int32) (x m : ST) (i : Int) (N : ST → ST → Prop) : Prop := C_X10_mends x (fun x1 v1 => C_X11_mends m (fun m2 v2 => N x1 m2))
def lw15 (xs : Nat → Int32) (x m : ST) (i : Int) (N : ST → ST → Prop) : Prop := C_X10_mendAt x (sx xs (i + 1)) (fun x1 v1 => C_X11_mendAt m (sx xs (i + 1)) (fun m2 v2 => N x1 m2))
def lw16 (xs : Nat → Int32) (x m : ST) (i : Int) (N : ST → ST → Prop) : Prop := C_X10_hints x (fun x1 v1 => C_X11_hints m (fun m2 v2 => N x1 m2))
def lw17 (xs : Nat → Int32) (x m : ST) (i : Int) (N : ST → ST → Prop) : Prop := C_X10_hint x (sx xs (i + 1)) (sx xs (i + 2)) (fun x1 v1 => C_X11_hint m (sx xs (i + 1)) (sx xs (i + 2)) (fun m2 v2 => N x1 m2))
def lw18 (xs : Nat → Int32) (x m : ST) (i : Int) (N : ST → ST → Prop) : Prop := C_X10_apply x (sx xs (i + 1)) (fun x1 v1 => C_X11_apply m (sx xs (i + 1)) (fun m2 v2 => N x1 m2))
def lw19 (xs : Nat → Int32) (x m : ST) (i : Int) (N : ST → ST → Prop) : Prop := C_X10_run x (sx xs (i + 1)) (fun x1 v1 => C_X11_run m (sx xs (i + 1)) (fun m2 v2 => N x1 m2))
def lw20 (xs : Nat → Int32) (x m : ST) (i : Int) (N : ST → ST → Prop) : Prop := C_X10_right x (sx xs (i + 1)) (fun x1 v1 => C_X11_right m (sx xs (i + 1)) (fun m2 v2 => N x1 m2))
def lw21 (xs : Nat → Int32) (x m : ST) (i : Int) (N : ST → ST → Prop) : Prop := C_X10_untell x (sx xs (i + 1)) (fun x1 v1 => C_X11_untell m (sx xs (i + 1)) (fun m2 v2 => N x1 m2))
def lw22 (xs : Nat → Int32) (x m : ST) (i : Int) (N : ST → ST → Prop) : Prop := C_X10_later x (sx xs (i + 1)) (fun x1 v1 => C_X11_later m (sx xs (i + 1)) (fun m2 v2 => N x1 m2))
def lw23 (xs : Nat → Int32) (x m : ST) (i : Int) (N : ST → ST → Prop) : Prop := C_X10_left x (sx xs (i + 1)) (fun x1 v1 => C_X11_left m (sx xs (i + 1)) (fun m2 v2 => N x1 m2))
def lw24 (xs : Nat → Int32) (x m : ST) (i : Int) (N : ST → ST → Prop) : Prop := C_X10_sure x (sx xs (i + 1)) (fun x1 v1 => C_X11_sure m (sx xs (i + 1)) (fun m2 v2 => N x1 m2))
def lw25 (xs : Nat → Int32) (x m : ST) (i : Int) (N : ST → ST → Prop) : Prop := C_X10_image x (sx xs (i + 1)) (fun x1 v1 => C_X11_image m (sx xs (i + 1)) (fun m2 v2 => N x1 m2))
def lw26 (xs : Nat → Int32) (x m : ST) (i : Int) (N : ST → ST → Prop) : Prop := C_X10_back x (sx xs (i + 1)) (fun x1 v1 => C_X11_back m (sx xs (i + 1)) (fun m2 v2 => N x1 m2))
def lw27 (xs : Nat → Int32) (x m : ST) (i : Int) (N : ST → ST → Prop) : Prop := C_X10_about x (sx xs (i + 1)) (fun x1 v1 => C_X11_about m (sx xs (i + 1)) (fun m2 v2 => N x1 m2))
def lawStep (xs : Nat → Int32) (x m : ST) (i : Int) (N : ST → ST → Prop) : Prop := (iand (sx xs i) 31 = 0 → lw0 xs x m i N) ∧ (iand (sx xs i) 31 = 1 → lw1 xs x m i N) ∧ (iand (sx xs i) 31 = 2 → lw2 xs x m i N) ∧ (iand (sx xs i) 31 = 3 → lw3 xs x m i N) ∧ (iand (sx xs i) 31 = 4 → lw4 xs x m i N) ∧ (iand (sx xs i) 31 = 5 → lw5 xs x m i N) ∧ (iand (sx xs i) 31 = 6 → lw6 xs x m i N) ∧ (iand (sx xs i) 31 = 7 → lw7 xs x m i N) ∧ (iand (sx xs i) 31 = 8 → lw8 xs x m i N) ∧ (iand (sx xs i) 31 = 9 → lw9 xs x m i N) ∧ (iand (sx xs i) 31 = 10 → lw10 xs x m i N) ∧ (iand (sx xs i) 31 = 11 → lw11 xs x m i N) ∧ (iand (sx xs i) 31 = 12 → lw12 xs x m i N) ∧ (iand (sx xs i) 31 = 13 → lw13 xs x m i N) ∧ (iand (sx xs i) 31 = 14 → lw14 xs x m i N) ∧ (iand (sx xs i) 31 = 15 → lw15 xs x m i N) ∧ (iand (sx xs i) 31 = 16 → lw16 xs x m i N) ∧ (iand (sx xs i) 31 = 17 → lw17 xs x m i N) ∧ (iand (sx xs i) 31 = 18 → lw18 xs x m i N) ∧ (iand (sx xs i) 31 = 19 → lw19 xs x m i N) ∧ (iand (sx xs i) 31 = 20 → lw20 xs x m i N) ∧ (iand (sx xs i) 31 = 21 → lw21 xs x m i N) ∧ (iand (sx xs i) 31 = 22 → lw22 xs x m i N) ∧ (iand (sx xs i) 31 = 23 → lw23 xs x m i N) ∧ (iand (sx xs i) 31 = 24 → lw24 xs x m i N) ∧ (iand (sx xs i) 31 = 25 → lw25 xs x m i N) ∧ (iand (sx xs i) 31 = 26 → lw26 xs x m i N) ∧ (iand (sx xs i) 31 = 27 → lw27 xs x m i N) ∧ ((iand (sx xs i) 31 < 0 ∨ 27 < iand (sx xs i) 31) → N x m)
def KL (b L : Nat) (xs : Nat → Int32) (kc ks : Nat) (x m : ST) (i : Int) (pc : Nat) : Prop := q_K mL (qs q_lay0 (jn x m)) kc ks pc [(0, .ref 1002), (1, .ref 0), (2, .ref 139), (3, .int (Int32.ofInt i))] [] (q_FL b L xs)
set_option maxRecDepth 20000 in
theorem law_0 {kc ks : Nat} (hk : kc ≤ 600000 ∧ ks ≤ 7302250) {b L : Nat} {xs : Nat → Int32} {x m : ST} {i : Int} {N : ST → ST → Prop} (hx : RA x) (hm : RA m) (hi : R32 i) (h0 : 0 ≤ i ∧ i < (L : Int)) (hl : ∀ k : Int, 0 < k → k < 6 → R32 (i + k) ∧ (0 ≤ i + k ∧ i + k < (L : Int))) (h : lw0 xs x m i N) (k : ∀ x1 m1, RA x1 → RA m1 → N x1 m1 → KL b L xs kc ks x1 m1 i 854) : KL b L xs kc ks x m i 160 := by
  unfold lw0 at h
  refine q_aload_n eL_160 rfl ?_
  refine q_aload_n eL_161 rfl ?_
  refine q_iload_n eL_162 rfl ?_
  refine q_ic (v := Int32.ofInt 1) eL_163 rfl ?_
  refine z_iadd eL_164 ?_
  refine z_sld eL_165 (ofz (hl 1 (by decide) (by decide)).1) (hl 1 (by decide) (by decide)).2 ?_
  refine q_aload_n eL_166 rfl ?_
  refine q_iload_n eL_167 rfl ?_
  refine q_ic (v := Int32.ofInt 2) eL_168 rfl ?_
  refine z_iadd eL_169 ?_
  refine z_sld eL_170 (ofz (hl 2 (by decide) (by decide)).1) (hl 2 (by decide) (by decide)).2 ?_
  refine q_aload_n eL_171 rfl ?_
  refine q_iload_n eL_172 rfl ?_
  refine q_ic (v := Int32.ofInt 3) eL_173 rfl ?_
  refine z_iadd eL_174 ?_
  refine z_sld eL_175 (ofz (hl 3 (by decide) (by decide)).1) (hl 3 (by decide) (by decide)).2 ?_
  refine q_aload_n eL_176 rfl ?_
  refine q_iload_n eL_177 rfl ?_
  refine q_ic (v := Int32.ofInt 4) eL_178 rfl ?_
  refine z_iadd eL_179 ?_
  refine z_sld eL_180 (ofz (hl 4 (by decide) (by decide)).1) (hl 4 (by decide) (by decide)).2 ?_
  refine q_aload_n eL_181 rfl ?_
  refine q_iload_n eL_182 rfl ?_
  refine q_ic (v := Int32.ofInt 5) eL_183 rfl ?_
  refine z_iadd eL_184 ?_
  refine z_sld eL_185 (ofz (hl 5 (by decide) (by decide)).1) (hl 5 (by decide) (by decide)).2 ?_
  refine q_LV5 (ci := 10) (n := 0) eL_186 DX10_feed lL_13 rfl (by decide) rfl rfl rfl rfl hk (jx (h.1 hx (zr _) (zr _) (zr _) (zr _) (zr _)) PI.sp) ?_
  rintro _ _ ⟨x1, rfl, v1, hx1, r1, rfl, h⟩
  refine q_pop eL_189 rfl ?_
  refine q_aload_n eL_190 rfl ?_
  refine q_aload_n eL_191 rfl ?_
  refine q_iload_n eL_192 rfl ?_
  refine q_ic (v := Int32.ofInt 1) eL_193 rfl ?_
  refine z_iadd eL_194 ?_
  refine z_sld eL_195 (ofz (hl 1 (by decide) (by decide)).1) (hl 1 (by decide) (by decide)).2 ?_
  refine q_aload_n eL_196 rfl ?_
  refine q_iload_n eL_197 rfl ?_
  refine q_ic (v := Int32.ofInt 2) eL_198 rfl ?_
  refine z_iadd eL_199 ?_
  refine z_sld eL_200 (ofz (hl 2 (by decide) (by decide)).1) (hl 2 (by decide) (by decide)).2 ?_
  refine q_aload_n eL_201 rfl ?_
  refine q_iload_n eL_202 rfl ?_
  refine q_ic (v := Int32.ofInt 3) eL_203 rfl ?_
  refine z_iadd eL_204 ?_
  refine z_sld eL_205 (ofz (hl 3 (by decide) (by decide)).1) (hl 3 (by decide) (by decide)).2 ?_
  refine q_aload_n eL_206 rfl ?_
  refine q_iload_n eL_207 rfl ?_
  refine q_ic (v := Int32.ofInt 4) eL_208 rfl ?_
  refine z_iadd eL_209 ?_
  refine z_sld eL_210 (ofz (hl 4 (by decide) (by decide)).1) (hl 4 (by decide) (by decide)).2 ?_
  refine q_aload_n eL_211 rfl ?_
  refine q_iload_n eL_212 rfl ?_
  refine q_ic (v := Int32.ofInt 5) eL_213 rfl ?_
  refine z_iadd eL_214 ?_
  refine z_sld eL_215 (ofz (hl 5 (by decide) (by decide)).1) (hl 5 (by decide) (by decide)).2 ?_
  refine q_LV5 (ci := 11) (n := 0) eL_216 DX11_feed lL_17 rfl (by decide) rfl rfl rfl rfl hk (jm (h.1 hm (zr _) (zr _) (zr _) (zr _) (zr _)) PI.sp) ?_
  rintro _ _ ⟨m2, rfl, v2, hm2, r2, rfl, h⟩
  refine q_pop eL_219 rfl ?_
  refine q_goto (tgt := 854) eL_220 (by decide) ?_
  exact k x1 m2 hx1 hm2 h
set_option maxRecDepth 20000 in
theorem law_1 {kc ks : Nat} (hk : kc ≤ 600000 ∧ ks ≤ 7302250) {b L : Nat} {xs : Nat → Int32} {x m : ST} {i : Int} {N : ST → ST → Prop} (hx : RA x) (hm : RA m) (hi : R32 i) (h0 : 0 ≤ i ∧ i < (L : Int)) (hl : ∀ k : Int, 0 < k → k < 6 → R32 (i + k) ∧ (0 ≤ i + k ∧ i + k < (L : Int))) (h : lw1 xs x m i N) (k : ∀ x1 m1, RA x1 → RA m1 → N x1 m1 → KL b L xs kc ks x1 m1 i 854) : KL b L xs kc ks x m i 223 := by
  unfold lw1 at h
  refine q_aload_n eL_223 rfl ?_
  refine q_aload_n eL_224 rfl ?_
  refine q_iload_n eL_225 rfl ?_
  refine q_ic (v := Int32.ofInt 1) eL_226 rfl ?_
  refine z_iadd eL_227 ?_
  refine z_sld eL_228 (ofz (hl 1 (by decide) (by decide)).1) (hl 1 (by decide) (by decide)).2 ?_
  refine q_LV1 (ci := 10) (n := 0) eL_229 DX10_end lL_18 rfl (by decide) rfl rfl rfl rfl hk (jx (h.1 hx (zr _)) PI.sp) ?_
  rintro _ _ ⟨x1, rfl, v1, hx1, r1, rfl, h⟩
  refine q_pop eL_232 rfl ?_
  refine q_aload_n eL_233 rfl ?_
  refine q_aload_n eL_234 rfl ?_
  refine q_iload_n eL_235 rfl ?_
  refine q_ic (v := Int32.ofInt 1) eL_236 rfl ?_
  refine z_iadd eL_237 ?_
  refine z_sld eL_238 (ofz (hl 1 (by decide) (by decide)).1) (hl 1 (by decide) (by decide)).2 ?_
  refine q_LV1 (ci := 11) (n := 0) eL_239 DX11_end lL_22 rfl (by decide) rfl rfl rfl rfl hk (jm (h.1 hm (zr _)) PI.sp) ?_
  rintro _ _ ⟨m2, rfl, v2, hm2, r2, rfl, h⟩
  refine q_pop eL_242 rfl ?_
  refine q_goto (tgt := 854) eL_243 (by decide) ?_
  exact k x1 m2 hx1 hm2 h
set_option maxRecDepth 20000 in
theorem law_2 {kc ks : Nat} (hk : kc ≤ 600000 ∧ ks ≤ 7302250) {b L : Nat} {xs : Nat → Int32} {x m : ST} {i : Int} {N : ST → ST → Prop} (hx : RA x) (hm : RA m) (hi : R32 i) (h0 : 0 ≤ i ∧ i < (L : Int)) (hl : ∀ k : Int, 0 < k → k < 6 → R32 (i + k) ∧ (0 ≤ i + k ∧ i + k < (L : Int))) (h : lw2 xs x m i N) (k : ∀ x1 m1, RA x1 → RA m1 → N x1 m1 → KL b L xs kc ks x1 m1 i 854) : KL b L xs kc ks x m i 246 := by
  unfold lw2 at h
  refine q_aload_n eL_246 rfl ?_
  refine q_LV0 (ci := 10) (n := 0) eL_247 DX10_program lL_23 rfl (by decide) rfl rfl rfl rfl hk (jx (h.1 hx) PI.sp) ?_
  rintro _ _ ⟨x1, rfl, v1, hx1, r1, rfl, h⟩
  refine q_pop eL_250 rfl ?_
  refine q_aload_n eL_251 rfl ?_
  refine q_LV0 (ci := 11) (n := 0) eL_252 DX11_program lL_27 rfl (by decide) rfl rfl rfl rfl hk (jm (h.1 hm) PI.sp) ?_
  rintro _ _ ⟨m2, rfl, v2, hm2, r2, rfl, h⟩
  refine q_pop eL_255 rfl ?_
  refine q_goto (tgt := 854) eL_256 (by decide) ?_
  exact k x1 m2 hx1 hm2 h
set_option maxRecDepth 20000 in
theorem law_3 {kc ks : Nat} (hk : kc ≤ 600000 ∧ ks ≤ 7302250) {b L : Nat} {xs : Nat → Int32} {x m : ST} {i : Int} {N : ST → ST → Prop} (hx : RA x) (hm : RA m) (hi : R32 i) (h0 : 0 ≤ i ∧ i < (L : Int)) (hl : ∀ k : Int, 0 < k → k < 6 → R32 (i + k) ∧ (0 ≤ i + k ∧ i + k < (L : Int))) (h : lw3 xs x m i N) (k : ∀ x1 m1, RA x1 → RA m1 → N x1 m1 → KL b L xs kc ks x1 m1 i 854) : KL b L xs kc ks x m i 259 := by
  unfold lw3 at h
  refine q_aload_n eL_259 rfl ?_
  refine q_aload_n eL_260 rfl ?_
  refine q_iload_n eL_261 rfl ?_
  refine q_ic (v := Int32.ofInt 1) eL_262 rfl ?_
  refine z_iadd eL_263 ?_
  refine z_sld eL_264 (ofz (hl 1 (by decide) (by decide)).1) (hl 1 (by decide) (by decide)).2 ?_
  refine q_LV1 (ci := 10) (n := 0) eL_265 DX10_fault lL_28 rfl (by decide) rfl rfl rfl rfl hk (jx (h.1 hx (zr _)) PI.sp) ?_
  rintro _ _ ⟨x1, rfl, v1, hx1, r1, rfl, h⟩
  refine q_aload_n eL_268 rfl ?_
  refine q_aload_n eL_269 rfl ?_
  refine q_iload_n eL_270 rfl ?_
  refine q_ic (v := Int32.ofInt 1) eL_271 rfl ?_
  refine z_iadd eL_272 ?_
  refine z_sld eL_273 (ofz (hl 1 (by decide) (by decide)).1) (hl 1 (by decide) (by decide)).2 ?_
  refine q_LV1 (ci := 11) (n := 0) eL_274 DX11_fault lL_31 rfl (by decide) rfl rfl rfl rfl hk (jm (h.1 hm (zr _)) PI.sp) ?_
  rintro _ _ ⟨m2, rfl, v2, hm2, r2, rfl, h⟩
  refine q_cz_eq (tgt := 854) eL_277 (by decide) (ofz r1) (ofz r2) (fun _ => ?_) (fun q => absurd h.1 q)
  have h := h.2
  exact k x1 m2 hx1 hm2 h
set_option maxRecDepth 20000 in
theorem law_4 {kc ks : Nat} (hk : kc ≤ 600000 ∧ ks ≤ 7302250) {b L : Nat} {xs : Nat → Int32} {x m : ST} {i : Int} {N : ST → ST → Prop} (hx : RA x) (hm : RA m) (hi : R32 i) (h0 : 0 ≤ i ∧ i < (L : Int)) (hl : ∀ k : Int, 0 < k → k < 6 → R32 (i + k) ∧ (0 ≤ i + k ∧ i + k < (L : Int))) (h : lw4 xs x m i N) (k : ∀ x1 m1, RA x1 → RA m1 → N x1 m1 → KL b L xs kc ks x1 m1 i 854) : KL b L xs kc ks x m i 282 := by
  unfold lw4 at h
  refine q_aload_n eL_282 rfl ?_
  refine q_aload_n eL_283 rfl ?_
  refine q_iload_n eL_284 rfl ?_
  refine q_ic (v := Int32.ofInt 1) eL_285 rfl ?_
  refine z_iadd eL_286 ?_
  refine z_sld eL_287 (ofz (hl 1 (by decide) (by decide)).1) (hl 1 (by decide) (by decide)).2 ?_
  refine q_aload_n eL_288 rfl ?_
  refine q_iload_n eL_289 rfl ?_
  refine q_ic (v := Int32.ofInt 2) eL_290 rfl ?_
  refine z_iadd eL_291 ?_
  refine z_sld eL_292 (ofz (hl 2 (by decide) (by decide)).1) (hl 2 (by decide) (by decide)).2 ?_
  refine q_LV2 (ci := 10) (n := 0) eL_293 DX10_place lL_32 rfl (by decide) rfl rfl rfl rfl hk (jx (h.1 hx (zr _) (zr _)) PI.sp) ?_
  rintro _ _ ⟨x1, rfl, v1, hx1, r1, rfl, h⟩
  refine q_pop eL_296 rfl ?_
  refine q_aload_n eL_297 rfl ?_
  refine q_aload_n eL_298 rfl ?_
  refine q_iload_n eL_299 rfl ?_
  refine q_ic (v := Int32.ofInt 1) eL_300 rfl ?_
  refine z_iadd eL_301 ?_
  refine z_sld eL_302 (ofz (hl 1 (by decide) (by decide)).1) (hl 1 (by decide) (by decide)).2 ?_
  refine q_aload_n eL_303 rfl ?_
  refine q_iload_n eL_304 rfl ?_
  refine q_ic (v := Int32.ofInt 2) eL_305 rfl ?_
  refine z_iadd eL_306 ?_
  refine z_sld eL_307 (ofz (hl 2 (by decide) (by decide)).1) (hl 2 (by decide) (by decide)).2 ?_
  refine q_LV2 (ci := 11) (n := 0) eL_308 DX11_place lL_36 rfl (by decide) rfl rfl rfl rfl hk (jm (h.1 hm (zr _) (zr _)) PI.sp) ?_
  rintro _ _ ⟨m2, rfl, v2, hm2, r2, rfl, h⟩
  refine q_pop eL_311 rfl ?_
  refine q_goto (tgt := 854) eL_312 (by decide) ?_
  exact k x1 m2 hx1 hm2 h
set_option maxRecDepth 20000 in
theorem law_5 {kc ks : Nat} (hk : kc ≤ 600000 ∧ ks ≤ 7302250) {b L : Nat} {xs : Nat → Int32} {x m : ST} {i : Int} {N : ST → ST → Prop} (hx : RA x) (hm : RA m) (hi : R32 i) (h0 : 0 ≤ i ∧ i < (L : Int)) (hl : ∀ k : Int, 0 < k → k < 6 → R32 (i + k) ∧ (0 ≤ i + k ∧ i + k < (L : Int))) (h : lw5 xs x m i N) (k : ∀ x1 m1, RA x1 → RA m1 → N x1 m1 → KL b L xs kc ks x1 m1 i 854) : KL b L xs kc ks x m i 315 := by
  unfold lw5 at h
  refine q_aload_n eL_315 rfl ?_
  refine q_LV0 (ci := 10) (n := 0) eL_316 DX10_fits lL_37 rfl (by decide) rfl rfl rfl rfl hk (jx (h.1 hx) PI.sp) ?_
  rintro _ _ ⟨x1, rfl, v1, hx1, r1, rfl, h⟩
  refine q_pop eL_319 rfl ?_
  refine q_aload_n eL_320 rfl ?_
  refine q_LV0 (ci := 11) (n := 0) eL_321 DX11_fits lL_40 rfl (by decide) rfl rfl rfl rfl hk (jm (h.1 hm) PI.sp) ?_
  rintro _ _ ⟨m2, rfl, v2, hm2, r2, rfl, h⟩
  refine q_pop eL_324 rfl ?_
  refine q_goto (tgt := 854) eL_325 (by decide) ?_
  exact k x1 m2 hx1 hm2 h
set_option maxRecDepth 20000 in
theorem law_6 {kc ks : Nat} (hk : kc ≤ 600000 ∧ ks ≤ 7302250) {b L : Nat} {xs : Nat → Int32} {x m : ST} {i : Int} {N : ST → ST → Prop} (hx : RA x) (hm : RA m) (hi : R32 i) (h0 : 0 ≤ i ∧ i < (L : Int)) (hl : ∀ k : Int, 0 < k → k < 6 → R32 (i + k) ∧ (0 ≤ i + k ∧ i + k < (L : Int))) (h : lw6 xs x m i N) (k : ∀ x1 m1, RA x1 → RA m1 → N x1 m1 → KL b L xs kc ks x1 m1 i 854) : KL b L xs kc ks x m i 328 := by
  unfold lw6 at h
  refine q_aload_n eL_328 rfl ?_
  refine q_aload_n eL_329 rfl ?_
  refine q_iload_n eL_330 rfl ?_
  refine q_ic (v := Int32.ofInt 1) eL_331 rfl ?_
  refine z_iadd eL_332 ?_
  refine z_sld eL_333 (ofz (hl 1 (by decide) (by decide)).1) (hl 1 (by decide) (by decide)).2 ?_
  refine q_aload_n eL_334 rfl ?_
  refine q_iload_n eL_335 rfl ?_
  refine q_ic (v := Int32.ofInt 2) eL_336 rfl ?_
  refine z_iadd eL_337 ?_
  refine z_sld eL_338 (ofz (hl 2 (by decide) (by decide)).1) (hl 2 (by decide) (by decide)).2 ?_
  refine q_LV2 (ci := 10) (n := 0) eL_339 DX10_kind lL_41 rfl (by decide) rfl rfl rfl rfl hk (jx (h.1 hx (zr _) (zr _)) PI.sp) ?_
  rintro _ _ ⟨x1, rfl, v1, hx1, r1, rfl, h⟩
  refine q_pop eL_342 rfl ?_
  refine q_aload_n eL_343 rfl ?_
  refine q_aload_n eL_344 rfl ?_
  refine q_iload_n eL_345 rfl ?_
  refine q_ic (v := Int32.ofInt 1) eL_346 rfl ?_
  refine z_iadd eL_347 ?_
  refine z_sld eL_348 (ofz (hl 1 (by decide) (by decide)).1) (hl 1 (by decide) (by decide)).2 ?_
  refine q_aload_n eL_349 rfl ?_
  refine q_iload_n eL_350 rfl ?_
  refine q_ic (v := Int32.ofInt 2) eL_351 rfl ?_
  refine z_iadd eL_352 ?_
  refine z_sld eL_353 (ofz (hl 2 (by decide) (by decide)).1) (hl 2 (by decide) (by decide)).2 ?_
  refine q_LV2 (ci := 11) (n := 0) eL_354 DX11_kind lL_44 rfl (by decide) rfl rfl rfl rfl hk (jm (h.1 hm (zr _) (zr _)) PI.sp) ?_
  rintro _ _ ⟨m2, rfl, v2, hm2, r2, rfl, h⟩
  refine q_pop eL_357 rfl ?_
  refine q_goto (tgt := 854) eL_358 (by decide) ?_
  exact k x1 m2 hx1 hm2 h
set_option maxRecDepth 20000 in
theorem law_7 {kc ks : Nat} (hk : kc ≤ 600000 ∧ ks ≤ 7302250) {b L : Nat} {xs : Nat → Int32} {x m : ST} {i : Int} {N : ST → ST → Prop} (hx : RA x) (hm : RA m) (hi : R32 i) (h0 : 0 ≤ i ∧ i < (L : Int)) (hl : ∀ k : Int, 0 < k → k < 6 → R32 (i + k) ∧ (0 ≤ i + k ∧ i + k < (L : Int))) (h : lw7 xs x m i N) (k : ∀ x1 m1, RA x1 → RA m1 → N x1 m1 → KL b L xs kc ks x1 m1 i 854) : KL b L xs kc ks x m i 361 := by
  unfold lw7 at h
  refine q_aload_n eL_361 rfl ?_
  refine q_aload_n eL_362 rfl ?_
  refine q_iload_n eL_363 rfl ?_
  refine q_ic (v := Int32.ofInt 1) eL_364 rfl ?_
  refine z_iadd eL_365 ?_
  refine z_sld eL_366 (ofz (hl 1 (by decide) (by decide)).1) (hl 1 (by decide) (by decide)).2 ?_
  refine z_i2l eL_367 (zr _) ?_
  refine q_bi (v := Int32.ofInt 32) eL_368 rfl ?_
  refine z_lshl eL_370 ?_
  refine q_aload_n eL_371 rfl ?_
  refine q_iload_n eL_372 rfl ?_
  refine q_ic (v := Int32.ofInt 2) eL_373 rfl ?_
  refine z_iadd eL_374 ?_
  refine z_sld eL_375 (ofz (hl 2 (by decide) (by decide)).1) (hl 2 (by decide) (by decide)).2 ?_
  refine z_i2l eL_376 (zr _) ?_
  refine q_ldc2 (v := 4294967295) eL_377 nL_45 ?_
  refine q_land eL_380 ?_
  refine q_lor eL_381 ?_
  refine q_LV1 (ci := 10) (n := 0) eL_382 DX10_clashes lL_47 rfl (by decide) rfl rfl rfl rfl hk (jx (h.1 hx) PI.sp) ?_
  rintro _ _ ⟨x1, rfl, v1, hx1, r1, rfl, h⟩
  refine q_pop eL_385 rfl ?_
  refine q_aload_n eL_386 rfl ?_
  refine q_aload_n eL_387 rfl ?_
  refine q_iload_n eL_388 rfl ?_
  refine q_ic (v := Int32.ofInt 1) eL_389 rfl ?_
  refine z_iadd eL_390 ?_
  refine z_sld eL_391 (ofz (hl 1 (by decide) (by decide)).1) (hl 1 (by decide) (by decide)).2 ?_
  refine z_i2l eL_392 (zr _) ?_
  refine q_bi (v := Int32.ofInt 32) eL_393 rfl ?_
  refine z_lshl eL_395 ?_
  refine q_aload_n eL_396 rfl ?_
  refine q_iload_n eL_397 rfl ?_
  refine q_ic (v := Int32.ofInt 2) eL_398 rfl ?_
  refine z_iadd eL_399 ?_
  refine z_sld eL_400 (ofz (hl 2 (by decide) (by decide)).1) (hl 2 (by decide) (by decide)).2 ?_
  refine z_i2l eL_401 (zr _) ?_
  refine q_ldc2 (v := 4294967295) eL_402 nL_45 ?_
  refine q_land eL_405 ?_
  refine q_lor eL_406 ?_
  refine q_LV1 (ci := 11) (n := 0) eL_407 DX11_clashes lL_51 rfl (by decide) rfl rfl rfl rfl hk (jm (h.1 hm) PI.sp) ?_
  rintro _ _ ⟨m2, rfl, v2, hm2, r2, rfl, h⟩
  refine q_pop eL_410 rfl ?_
  refine q_goto (tgt := 854) eL_411 (by decide) ?_
  exact k x1 m2 hx1 hm2 h
set_option maxRecDepth 20000 in
theorem law_8 {kc ks : Nat} (hk : kc ≤ 600000 ∧ ks ≤ 7302250) {b L : Nat} {xs : Nat → Int32} {x m : ST} {i : Int} {N : ST → ST → Prop} (hx : RA x) (hm : RA m) (hi : R32 i) (h0 : 0 ≤ i ∧ i < (L : Int)) (hl : ∀ k : Int, 0 < k → k < 6 → R32 (i + k) ∧ (0 ≤ i + k ∧ i + k < (L : Int))) (h : lw8 xs x m i N) (k : ∀ x1 m1, RA x1 → RA m1 → N x1 m1 → KL b L xs kc ks x1 m1 i 854) : KL b L xs kc ks x m i 414 := by
  unfold lw8 at h
  refine q_aload_n eL_414 rfl ?_
  refine q_LV0 (ci := 10) (n := 0) eL_415 DX10_core lL_52 rfl (by decide) rfl rfl rfl rfl hk (jx (h.1 hx) PL.sp) ?_
  rintro _ _ ⟨x1, rfl, v1, hx1, rfl, h⟩
  refine q_pop2 eL_418 rfl ?_
  refine q_aload_n eL_419 rfl ?_
  refine q_LV0 (ci := 11) (n := 0) eL_420 DX11_core lL_56 rfl (by decide) rfl rfl rfl rfl hk (jm (h.1 hm) PL.sp) ?_
  rintro _ _ ⟨m2, rfl, v2, hm2, rfl, h⟩
  refine q_pop2 eL_423 rfl ?_
  refine q_goto (tgt := 854) eL_424 (by decide) ?_
  exact k x1 m2 hx1 hm2 h
set_option maxRecDepth 20000 in
theorem law_9 {kc ks : Nat} (hk : kc ≤ 600000 ∧ ks ≤ 7302250) {b L : Nat} {xs : Nat → Int32} {x m : ST} {i : Int} {N : ST → ST → Prop} (hx : RA x) (hm : RA m) (hi : R32 i) (h0 : 0 ≤ i ∧ i < (L : Int)) (hl : ∀ k : Int, 0 < k → k < 6 → R32 (i + k) ∧ (0 ≤ i + k ∧ i + k < (L : Int))) (h : lw9 xs x m i N) (k : ∀ x1 m1, RA x1 → RA m1 → N x1 m1 → KL b L xs kc ks x1 m1 i 854) : KL b L xs kc ks x m i 427 := by
  unfold lw9 at h
  refine q_aload_n eL_427 rfl ?_
  refine q_aload_n eL_428 rfl ?_
  refine q_iload_n eL_429 rfl ?_
  refine q_ic (v := Int32.ofInt 1) eL_430 rfl ?_
  refine z_iadd eL_431 ?_
  refine z_sld eL_432 (ofz (hl 1 (by decide) (by decide)).1) (hl 1 (by decide) (by decide)).2 ?_
  refine q_aload_n eL_433 rfl ?_
  refine q_iload_n eL_434 rfl ?_
  refine q_ic (v := Int32.ofInt 2) eL_435 rfl ?_
  refine z_iadd eL_436 ?_
  refine z_sld eL_437 (ofz (hl 2 (by decide) (by decide)).1) (hl 2 (by decide) (by decide)).2 ?_
  refine q_LV2 (ci := 10) (n := 0) eL_438 DX10_meets lL_57 rfl (by decide) rfl rfl rfl rfl hk (jx (h.1 hx (zr _) (zr _)) PI.sp) ?_
  rintro _ _ ⟨x1, rfl, v1, hx1, r1, rfl, h⟩
  refine q_pop eL_441 rfl ?_
  refine q_aload_n eL_442 rfl ?_
  refine q_aload_n eL_443 rfl ?_
  refine q_iload_n eL_444 rfl ?_
  refine q_ic (v := Int32.ofInt 1) eL_445 rfl ?_
  refine z_iadd eL_446 ?_
  refine z_sld eL_447 (ofz (hl 1 (by decide) (by decide)).1) (hl 1 (by decide) (by decide)).2 ?_
  refine q_aload_n eL_448 rfl ?_
  refine q_iload_n eL_449 rfl ?_
  refine q_ic (v := Int32.ofInt 2) eL_450 rfl ?_
  refine z_iadd eL_451 ?_
  refine z_sld eL_452 (ofz (hl 2 (by decide) (by decide)).1) (hl 2 (by decide) (by decide)).2 ?_
  refine q_LV2 (ci := 11) (n := 0) eL_453 DX11_meets lL_60 rfl (by decide) rfl rfl rfl rfl hk (jm (h.1 hm (zr _) (zr _)) PI.sp) ?_
  rintro _ _ ⟨m2, rfl, v2, hm2, r2, rfl, h⟩
  refine q_pop eL_456 rfl ?_
  refine q_goto (tgt := 854) eL_457 (by decide) ?_
  exact k x1 m2 hx1 hm2 h
set_option maxRecDepth 20000 in
theorem law_10 {kc ks : Nat} (hk : kc ≤ 600000 ∧ ks ≤ 7302250) {b L : Nat} {xs : Nat → Int32} {x m : ST} {i : Int} {N : ST → ST → Prop} (hx : RA x) (hm : RA m) (hi : R32 i) (h0 : 0 ≤ i ∧ i < (L : Int)) (hl : ∀ k : Int, 0 < k → k < 6 → R32 (i + k) ∧ (0 ≤ i + k ∧ i + k < (L : Int))) (h : lw10 xs x m i N) (k : ∀ x1 m1, RA x1 → RA m1 → N x1 m1 → KL b L xs kc ks x1 m1 i 854) : KL b L xs kc ks x m i 460 := by
  unfold lw10 at h
  refine q_aload_n eL_460 rfl ?_
  refine q_LV0 (ci := 10) (n := 0) eL_461 DX10_cores lL_61 rfl (by decide) rfl rfl rfl rfl hk (jx (h.1 hx) PI.sp) ?_
  rintro _ _ ⟨x1, rfl, v1, hx1, r1, rfl, h⟩
  refine q_pop eL_464 rfl ?_
  refine q_aload_n eL_465 rfl ?_
  refine q_LV0 (ci := 11) (n := 0) eL_466 DX11_cores lL_64 rfl (by decide) rfl rfl rfl rfl hk (jm (h.1 hm) PI.sp) ?_
  rintro _ _ ⟨m2, rfl, v2, hm2, r2, rfl, h⟩
  refine q_pop eL_469 rfl ?_
  refine q_goto (tgt := 854) eL_470 (by decide) ?_
  exact k x1 m2 hx1 hm2 h
set_option maxRecDepth 20000 in
theorem law_11 {kc ks : Nat} (hk : kc ≤ 600000 ∧ ks ≤ 7302250) {b L : Nat} {xs : Nat → Int32} {x m : ST} {i : Int} {N : ST → ST → Prop} (hx : RA x) (hm : RA m) (hi : R32 i) (h0 : 0 ≤ i ∧ i < (L : Int)) (hl : ∀ k : Int, 0 < k → k < 6 → R32 (i + k) ∧ (0 ≤ i + k ∧ i + k < (L : Int))) (h : lw11 xs x m i N) (k : ∀ x1 m1, RA x1 → RA m1 → N x1 m1 → KL b L xs kc ks x1 m1 i 854) : KL b L xs kc ks x m i 473 := by
  unfold lw11 at h
  refine q_aload_n eL_473 rfl ?_
  refine q_aload_n eL_474 rfl ?_
  refine q_iload_n eL_475 rfl ?_
  refine q_ic (v := Int32.ofInt 1) eL_476 rfl ?_
  refine z_iadd eL_477 ?_
  refine z_sld eL_478 (ofz (hl 1 (by decide) (by decide)).1) (hl 1 (by decide) (by decide)).2 ?_
  refine q_LV1 (ci := 10) (n := 0) eL_479 DX10_coreAt lL_65 rfl (by decide) rfl rfl rfl rfl hk (jx (h.1 hx (zr _)) PL.sp) ?_
  rintro _ _ ⟨x1, rfl, v1, hx1, rfl, h⟩
  refine q_pop2 eL_482 rfl ?_
  refine q_aload_n eL_483 rfl ?_
  refine q_aload_n eL_484 rfl ?_
  refine q_iload_n eL_485 rfl ?_
  refine q_ic (v := Int32.ofInt 1) eL_486 rfl ?_
  refine z_iadd eL_487 ?_
  refine z_sld eL_488 (ofz (hl 1 (by decide) (by decide)).1) (hl 1 (by decide) (by decide)).2 ?_
  refine q_LV1 (ci := 11) (n := 0) eL_489 DX11_coreAt lL_69 rfl (by decide) rfl rfl rfl rfl hk (jm (h.1 hm (zr _)) PL.sp) ?_
  rintro _ _ ⟨m2, rfl, v2, hm2, rfl, h⟩
  refine q_pop2 eL_492 rfl ?_
  refine q_goto (tgt := 854) eL_493 (by decide) ?_
  exact k x1 m2 hx1 hm2 h
set_option maxRecDepth 20000 in
theorem law_12 {kc ks : Nat} (hk : kc ≤ 600000 ∧ ks ≤ 7302250) {b L : Nat} {xs : Nat → Int32} {x m : ST} {i : Int} {N : ST → ST → Prop} (hx : RA x) (hm : RA m) (hi : R32 i) (h0 : 0 ≤ i ∧ i < (L : Int)) (hl : ∀ k : Int, 0 < k → k < 6 → R32 (i + k) ∧ (0 ≤ i + k ∧ i + k < (L : Int))) (h : lw12 xs x m i N) (k : ∀ x1 m1, RA x1 → RA m1 → N x1 m1 → KL b L xs kc ks x1 m1 i 854) : KL b L xs kc ks x m i 496 := by
  unfold lw12 at h
  refine q_aload_n eL_496 rfl ?_
  refine q_aload_n eL_497 rfl ?_
  refine q_iload_n eL_498 rfl ?_
  refine q_ic (v := Int32.ofInt 1) eL_499 rfl ?_
  refine z_iadd eL_500 ?_
  refine z_sld eL_501 (ofz (hl 1 (by decide) (by decide)).1) (hl 1 (by decide) (by decide)).2 ?_
  refine q_aload_n eL_502 rfl ?_
  refine q_iload_n eL_503 rfl ?_
  refine q_ic (v := Int32.ofInt 2) eL_504 rfl ?_
  refine z_iadd eL_505 ?_
  refine z_sld eL_506 (ofz (hl 2 (by decide) (by decide)).1) (hl 2 (by decide) (by decide)).2 ?_
  refine q_LV2 (ci := 10) (n := 0) eL_507 DX10_trust lL_70 rfl (by decide) rfl rfl rfl rfl hk (jx (h.1 hx (zr _) (zr _)) PI.sp) ?_
  rintro _ _ ⟨x1, rfl, v1, hx1, r1, rfl, h⟩
  refine q_pop eL_510 rfl ?_
  refine q_aload_n eL_511 rfl ?_
  refine q_aload_n eL_512 rfl ?_
  refine q_iload_n eL_513 rfl ?_
  refine q_ic (v := Int32.ofInt 1) eL_514 rfl ?_
  refine z_iadd eL_515 ?_
  refine z_sld eL_516 (ofz (hl 1 (by decide) (by decide)).1) (hl 1 (by decide) (by decide)).2 ?_
  refine q_aload_n eL_517 rfl ?_
  refine q_iload_n eL_518 rfl ?_
  refine q_ic (v := Int32.ofInt 2) eL_519 rfl ?_
  refine z_iadd eL_520 ?_
  refine z_sld eL_521 (ofz (hl 2 (by decide) (by decide)).1) (hl 2 (by decide) (by decide)).2 ?_
  refine q_LV2 (ci := 11) (n := 0) eL_522 DX11_trust lL_73 rfl (by decide) rfl rfl rfl rfl hk (jm (h.1 hm (zr _) (zr _)) PI.sp) ?_
  rintro _ _ ⟨m2, rfl, v2, hm2, r2, rfl, h⟩
  refine q_pop eL_525 rfl ?_
  refine q_goto (tgt := 854) eL_526 (by decide) ?_
  exact k x1 m2 hx1 hm2 h
set_option maxRecDepth 20000 in
theorem law_13 {kc ks : Nat} (hk : kc ≤ 600000 ∧ ks ≤ 7302250) {b L : Nat} {xs : Nat → Int32} {x m : ST} {i : Int} {N : ST → ST → Prop} (hx : RA x) (hm : RA m) (hi : R32 i) (h0 : 0 ≤ i ∧ i < (L : Int)) (hl : ∀ k : Int, 0 < k → k < 6 → R32 (i + k) ∧ (0 ≤ i + k ∧ i + k < (L : Int))) (h : lw13 xs x m i N) (k : ∀ x1 m1, RA x1 → RA m1 → N x1 m1 → KL b L xs kc ks x1 m1 i 854) : KL b L xs kc ks x m i 529 := by
  unfold lw13 at h
  refine q_aload_n eL_529 rfl ?_
  refine q_LV0 (ci := 10) (n := 0) eL_530 DX10_cheapest lL_74 rfl (by decide) rfl rfl rfl rfl hk (jx (h.1 hx) PL.sp) ?_
  rintro _ _ ⟨x1, rfl, v1, hx1, rfl, h⟩
  refine q_pop2 eL_533 rfl ?_
  refine q_aload_n eL_534 rfl ?_
  refine q_LV0 (ci := 11) (n := 0) eL_535 DX11_cheapest lL_77 rfl (by decide) rfl rfl rfl rfl hk (jm (h.1 hm) PL.sp) ?_
  rintro _ _ ⟨m2, rfl, v2, hm2, rfl, h⟩
  refine q_pop2 eL_538 rfl ?_
  refine q_goto (tgt := 854) eL_539 (by decide) ?_
  exact k x1 m2 hx1 hm2 h
set_option maxRecDepth 20000 in
theorem law_14 {kc ks : Nat} (hk : kc ≤ 600000 ∧ ks ≤ 7302250) {b L : Nat} {xs : Nat → Int32} {x m : ST} {i : Int} {N : ST → ST → Prop} (hx : RA x) (hm : RA m) (hi : R32 i) (h0 : 0 ≤ i ∧ i < (L : Int)) (hl : ∀ k : Int, 0 < k → k < 6 → R32 (i + k) ∧ (0 ≤ i + k ∧ i + k < (L : Int))) (h : lw14 xs x m i N) (k : ∀ x1 m1, RA x1 → RA m1 → N x1 m1 → KL b L xs kc ks x1 m1 i 854) : KL b L xs kc ks x m i 542 := by
  unfold lw14 at h
  refine q_aload_n eL_542 rfl ?_
  refine q_LV0 (ci := 10) (n := 0) eL_543 DX10_mends lL_78 rfl (by decide) rfl rfl rfl rfl hk (jx (h.1 hx) PI.sp) ?_
  rintro _ _ ⟨x1, rfl, v1, hx1, r1, rfl, h⟩
  refine q_pop eL_546 rfl ?_
  refine q_aload_n eL_547 rfl ?_
  refine q_LV0 (ci := 11) (n := 0) eL_548 DX11_mends lL_81 rfl (by decide) rfl rfl rfl rfl hk (jm (h.1 hm) PI.sp) ?_
  rintro _ _ ⟨m2, rfl, v2, hm2, r2, rfl, h⟩
  refine q_pop eL_551 rfl ?_
  refine q_goto (tgt := 854) eL_552 (by decide) ?_
  exact k x1 m2 hx1 hm2 h
set_option maxRecDepth 20000 in
theorem law_15 {kc ks : Nat} (hk : kc ≤ 600000 ∧ ks ≤ 7302250) {b L : Nat} {xs : Nat → Int32} {x m : ST} {i : Int} {N : ST → ST → Prop} (hx : RA x) (hm : RA m) (hi : R32 i) (h0 : 0 ≤ i ∧ i < (L : Int)) (hl : ∀ k : Int, 0 < k → k < 6 → R32 (i + k) ∧ (0 ≤ i + k ∧ i + k < (L : Int))) (h : lw15 xs x m i N) (k : ∀ x1 m1, RA x1 → RA m1 → N x1 m1 → KL b L xs kc ks x1 m1 i 854) : KL b L xs kc ks x m i 555 := by
  unfold lw15 at h
  refine q_aload_n eL_555 rfl ?_
  refine q_aload_n eL_556 rfl ?_
  refine q_iload_n eL_557 rfl ?_
  refine q_ic (v := Int32.ofInt 1) eL_558 rfl ?_
  refine z_iadd eL_559 ?_
  refine z_sld eL_560 (ofz (hl 1 (by decide) (by decide)).1) (hl 1 (by decide) (by decide)).2 ?_
  refine q_LV1 (ci := 10) (n := 0) eL_561 DX10_mendAt lL_82 rfl (by decide) rfl rfl rfl rfl hk (jx (h.1 hx (zr _)) PL.sp) ?_
  rintro _ _ ⟨x1, rfl, v1, hx1, rfl, h⟩
  refine q_pop2 eL_564 rfl ?_
  refine q_aload_n eL_565 rfl ?_
  refine q_aload_n eL_566 rfl ?_
  refine q_iload_n eL_567 rfl ?_
  refine q_ic (v := Int32.ofInt 1) eL_568 rfl ?_
  refine z_iadd eL_569 ?_
  refine z_sld eL_570 (ofz (hl 1 (by decide) (by decide)).1) (hl 1 (by decide) (by decide)).2 ?_
  refine q_LV1 (ci := 11) (n := 0) eL_571 DX11_mendAt lL_85 rfl (by decide) rfl rfl rfl rfl hk (jm (h.1 hm (zr _)) PL.sp) ?_
  rintro _ _ ⟨m2, rfl, v2, hm2, rfl, h⟩
  refine q_pop2 eL_574 rfl ?_
  refine q_goto (tgt := 854) eL_575 (by decide) ?_
  exact k x1 m2 hx1 hm2 h
set_option maxRecDepth 20000 in
theorem law_16 {kc ks : Nat} (hk : kc ≤ 600000 ∧ ks ≤ 7302250) {b L : Nat} {xs : Nat → Int32} {x m : ST} {i : Int} {N : ST → ST → Prop} (hx : RA x) (hm : RA m) (hi : R32 i) (h0 : 0 ≤ i ∧ i < (L : Int)) (hl : ∀ k : Int, 0 < k → k < 6 → R32 (i + k) ∧ (0 ≤ i + k ∧ i + k < (L : Int))) (h : lw16 xs x m i N) (k : ∀ x1 m1, RA x1 → RA m1 → N x1 m1 → KL b L xs kc ks x1 m1 i 854) : KL b L xs kc ks x m i 578 := by
  unfold lw16 at h
  refine q_aload_n eL_578 rfl ?_
  refine q_LV0 (ci := 10) (n := 0) eL_579 DX10_hints lL_86 rfl (by decide) rfl rfl rfl rfl hk (jx (h.1 hx) PI.sp) ?_
  rintro _ _ ⟨x1, rfl, v1, hx1, r1, rfl, h⟩
  refine q_pop eL_582 rfl ?_
  refine q_aload_n eL_583 rfl ?_
  refine q_LV0 (ci := 11) (n := 0) eL_584 DX11_hints lL_89 rfl (by decide) rfl rfl rfl rfl hk (jm (h.1 hm) PI.sp) ?_
  rintro _ _ ⟨m2, rfl, v2, hm2, r2, rfl, h⟩
  refine q_pop eL_587 rfl ?_
  refine q_goto (tgt := 854) eL_588 (by decide) ?_
  exact k x1 m2 hx1 hm2 h
set_option maxRecDepth 20000 in
theorem law_17 {kc ks : Nat} (hk : kc ≤ 600000 ∧ ks ≤ 7302250) {b L : Nat} {xs : Nat → Int32} {x m : ST} {i : Int} {N : ST → ST → Prop} (hx : RA x) (hm : RA m) (hi : R32 i) (h0 : 0 ≤ i ∧ i < (L : Int)) (hl : ∀ k : Int, 0 < k → k < 6 → R32 (i + k) ∧ (0 ≤ i + k ∧ i + k < (L : Int))) (h : lw17 xs x m i N) (k : ∀ x1 m1, RA x1 → RA m1 → N x1 m1 → KL b L xs kc ks x1 m1 i 854) : KL b L xs kc ks x m i 591 := by
  unfold lw17 at h
  refine q_aload_n eL_591 rfl ?_
  refine q_aload_n eL_592 rfl ?_
  refine q_iload_n eL_593 rfl ?_
  refine q_ic (v := Int32.ofInt 1) eL_594 rfl ?_
  refine z_iadd eL_595 ?_
  refine z_sld eL_596 (ofz (hl 1 (by decide) (by decide)).1) (hl 1 (by decide) (by decide)).2 ?_
  refine q_aload_n eL_597 rfl ?_
  refine q_iload_n eL_598 rfl ?_
  refine q_ic (v := Int32.ofInt 2) eL_599 rfl ?_
  refine z_iadd eL_600 ?_
  refine z_sld eL_601 (ofz (hl 2 (by decide) (by decide)).1) (hl 2 (by decide) (by decide)).2 ?_
  refine q_LV2 (ci := 10) (n := 0) eL_602 DX10_hint lL_90 rfl (by decide) rfl rfl rfl rfl hk (jx (h.1 hx (zr _) (zr _)) PI.sp) ?_
  rintro _ _ ⟨x1, rfl, v1, hx1, r1, rfl, h⟩
  refine q_pop eL_605 rfl ?_
  refine q_aload_n eL_606 rfl ?_
  refine q_aload_n eL_607 rfl ?_
  refine q_iload_n eL_608 rfl ?_
  refine q_ic (v := Int32.ofInt 1) eL_609 rfl ?_
  refine z_iadd eL_610 ?_
  refine z_sld eL_611 (ofz (hl 1 (by decide) (by decide)).1) (hl 1 (by decide) (by decide)).2 ?_
  refine q_aload_n eL_612 rfl ?_
  refine q_iload_n eL_613 rfl ?_
  refine q_ic (v := Int32.ofInt 2) eL_614 rfl ?_
  refine z_iadd eL_615 ?_
  refine z_sld eL_616 (ofz (hl 2 (by decide) (by decide)).1) (hl 2 (by decide) (by decide)).2 ?_
  refine q_LV2 (ci := 11) (n := 0) eL_617 DX11_hint lL_93 rfl (by decide) rfl rfl rfl rfl hk (jm (h.1 hm (zr _) (zr _)) PI.sp) ?_
  rintro _ _ ⟨m2, rfl, v2, hm2, r2, rfl, h⟩
  refine q_pop eL_620 rfl ?_
  refine q_goto (tgt := 854) eL_621 (by decide) ?_
  exact k x1 m2 hx1 hm2 h
set_option maxRecDepth 20000 in
theorem law_18 {kc ks : Nat} (hk : kc ≤ 600000 ∧ ks ≤ 7302250) {b L : Nat} {xs : Nat → Int32} {x m : ST} {i : Int} {N : ST → ST → Prop} (hx : RA x) (hm : RA m) (hi : R32 i) (h0 : 0 ≤ i ∧ i < (L : Int)) (hl : ∀ k : Int, 0 < k → k < 6 → R32 (i + k) ∧ (0 ≤ i + k ∧ i + k < (L : Int))) (h : lw18 xs x m i N) (k : ∀ x1 m1, RA x1 → RA m1 → N x1 m1 → KL b L xs kc ks x1 m1 i 854) : KL b L xs kc ks x m i 624 := by
  unfold lw18 at h
  refine q_aload_n eL_624 rfl ?_
  refine q_aload_n eL_625 rfl ?_
  refine q_iload_n eL_626 rfl ?_
  refine q_ic (v := Int32.ofInt 1) eL_627 rfl ?_
  refine z_iadd eL_628 ?_
  refine z_sld eL_629 (ofz (hl 1 (by decide) (by decide)).1) (hl 1 (by decide) (by decide)).2 ?_
  refine q_LV1 (ci := 10) (n := 0) eL_630 DX10_apply lL_94 rfl (by decide) rfl rfl rfl rfl hk (jx (h.1 hx (zr _)) PI.sp) ?_
  rintro _ _ ⟨x1, rfl, v1, hx1, r1, rfl, h⟩
  refine q_pop eL_633 rfl ?_
  refine q_aload_n eL_634 rfl ?_
  refine q_aload_n eL_635 rfl ?_
  refine q_iload_n eL_636 rfl ?_
  refine q_ic (v := Int32.ofInt 1) eL_637 rfl ?_
  refine z_iadd eL_638 ?_
  refine z_sld eL_639 (ofz (hl 1 (by decide) (by decide)).1) (hl 1 (by decide) (by decide)).2 ?_
  refine q_LV1 (ci := 11) (n := 0) eL_640 DX11_apply lL_97 rfl (by decide) rfl rfl rfl rfl hk (jm (h.1 hm (zr _)) PI.sp) ?_
  rintro _ _ ⟨m2, rfl, v2, hm2, r2, rfl, h⟩
  refine q_pop eL_643 rfl ?_
  refine q_goto (tgt := 854) eL_644 (by decide) ?_
  exact k x1 m2 hx1 hm2 h
set_option maxRecDepth 20000 in
theorem law_19 {kc ks : Nat} (hk : kc ≤ 600000 ∧ ks ≤ 7302250) {b L : Nat} {xs : Nat → Int32} {x m : ST} {i : Int} {N : ST → ST → Prop} (hx : RA x) (hm : RA m) (hi : R32 i) (h0 : 0 ≤ i ∧ i < (L : Int)) (hl : ∀ k : Int, 0 < k → k < 6 → R32 (i + k) ∧ (0 ≤ i + k ∧ i + k < (L : Int))) (h : lw19 xs x m i N) (k : ∀ x1 m1, RA x1 → RA m1 → N x1 m1 → KL b L xs kc ks x1 m1 i 854) : KL b L xs kc ks x m i 647 := by
  unfold lw19 at h
  refine q_aload_n eL_647 rfl ?_
  refine q_aload_n eL_648 rfl ?_
  refine q_iload_n eL_649 rfl ?_
  refine q_ic (v := Int32.ofInt 1) eL_650 rfl ?_
  refine z_iadd eL_651 ?_
  refine z_sld eL_652 (ofz (hl 1 (by decide) (by decide)).1) (hl 1 (by decide) (by decide)).2 ?_
  refine q_LV1 (ci := 10) (n := 0) eL_653 DX10_run lL_98 rfl (by decide) rfl rfl rfl rfl hk (jx (h.1 hx (zr _)) PI.sp) ?_
  rintro _ _ ⟨x1, rfl, v1, hx1, r1, rfl, h⟩
  refine q_pop eL_656 rfl ?_
  refine q_aload_n eL_657 rfl ?_
  refine q_aload_n eL_658 rfl ?_
  refine q_iload_n eL_659 rfl ?_
  refine q_ic (v := Int32.ofInt 1) eL_660 rfl ?_
  refine z_iadd eL_661 ?_
  refine z_sld eL_662 (ofz (hl 1 (by decide) (by decide)).1) (hl 1 (by decide) (by decide)).2 ?_
  refine q_LV1 (ci := 11) (n := 0) eL_663 DX11_run lL_101 rfl (by decide) rfl rfl rfl rfl hk (jm (h.1 hm (zr _)) PI.sp) ?_
  rintro _ _ ⟨m2, rfl, v2, hm2, r2, rfl, h⟩
  refine q_pop eL_666 rfl ?_
  refine q_goto (tgt := 854) eL_667 (by decide) ?_
  exact k x1 m2 hx1 hm2 h
set_option maxRecDepth 20000 in
theorem law_20 {kc ks : Nat} (hk : kc ≤ 600000 ∧ ks ≤ 7302250) {b L : Nat} {xs : Nat → Int32} {x m : ST} {i : Int} {N : ST → ST → Prop} (hx : RA x) (hm : RA m) (hi : R32 i) (h0 : 0 ≤ i ∧ i < (L : Int)) (hl : ∀ k : Int, 0 < k → k < 6 → R32 (i + k) ∧ (0 ≤ i + k ∧ i + k < (L : Int))) (h : lw20 xs x m i N) (k : ∀ x1 m1, RA x1 → RA m1 → N x1 m1 → KL b L xs kc ks x1 m1 i 854) : KL b L xs kc ks x m i 670 := by
  unfold lw20 at h
  refine q_aload_n eL_670 rfl ?_
  refine q_aload_n eL_671 rfl ?_
  refine q_iload_n eL_672 rfl ?_
  refine q_ic (v := Int32.ofInt 1) eL_673 rfl ?_
  refine z_iadd eL_674 ?_
  refine z_sld eL_675 (ofz (hl 1 (by decide) (by decide)).1) (hl 1 (by decide) (by decide)).2 ?_
  refine q_LV1 (ci := 10) (n := 0) eL_676 DX10_right lL_102 rfl (by decide) rfl rfl rfl rfl hk (jx (h.1 hx (zr _)) PI.sp) ?_
  rintro _ _ ⟨x1, rfl, v1, hx1, r1, rfl, h⟩
  refine q_pop eL_679 rfl ?_
  refine q_aload_n eL_680 rfl ?_
  refine q_aload_n eL_681 rfl ?_
  refine q_iload_n eL_682 rfl ?_
  refine q_ic (v := Int32.ofInt 1) eL_683 rfl ?_
  refine z_iadd eL_684 ?_
  refine z_sld eL_685 (ofz (hl 1 (by decide) (by decide)).1) (hl 1 (by decide) (by decide)).2 ?_
  refine q_LV1 (ci := 11) (n := 0) eL_686 DX11_right lL_105 rfl (by decide) rfl rfl rfl rfl hk (jm (h.1 hm (zr _)) PI.sp) ?_
  rintro _ _ ⟨m2, rfl, v2, hm2, r2, rfl, h⟩
  refine q_pop eL_689 rfl ?_
  refine q_goto (tgt := 854) eL_690 (by decide) ?_
  exact k x1 m2 hx1 hm2 h
set_option maxRecDepth 20000 in
theorem law_21 {kc ks : Nat} (hk : kc ≤ 600000 ∧ ks ≤ 7302250) {b L : Nat} {xs : Nat → Int32} {x m : ST} {i : Int} {N : ST → ST → Prop} (hx : RA x) (hm : RA m) (hi : R32 i) (h0 : 0 ≤ i ∧ i < (L : Int)) (hl : ∀ k : Int, 0 < k → k < 6 → R32 (i + k) ∧ (0 ≤ i + k ∧ i + k < (L : Int))) (h : lw21 xs x m i N) (k : ∀ x1 m1, RA x1 → RA m1 → N x1 m1 → KL b L xs kc ks x1 m1 i 854) : KL b L xs kc ks x m i 693 := by
  unfold lw21 at h
  refine q_aload_n eL_693 rfl ?_
  refine q_aload_n eL_694 rfl ?_
  refine q_iload_n eL_695 rfl ?_
  refine q_ic (v := Int32.ofInt 1) eL_696 rfl ?_
  refine z_iadd eL_697 ?_
  refine z_sld eL_698 (ofz (hl 1 (by decide) (by decide)).1) (hl 1 (by decide) (by decide)).2 ?_
  refine q_LV1 (ci := 10) (n := 0) eL_699 DX10_untell lL_106 rfl (by decide) rfl rfl rfl rfl hk (jx (h.1 hx (zr _)) PB.sp) ?_
  rintro _ _ ⟨x1, rfl, v1, hx1, b1, rfl, h⟩
  refine q_pop eL_702 rfl ?_
  refine q_aload_n eL_703 rfl ?_
  refine q_aload_n eL_704 rfl ?_
  refine q_iload_n eL_705 rfl ?_
  refine q_ic (v := Int32.ofInt 1) eL_706 rfl ?_
  refine z_iadd eL_707 ?_
  refine z_sld eL_708 (ofz (hl 1 (by decide) (by decide)).1) (hl 1 (by decide) (by decide)).2 ?_
  refine q_LV1 (ci := 11) (n := 0) eL_709 DX11_untell lL_110 rfl (by decide) rfl rfl rfl rfl hk (jm (h.1 hm (zr _)) PB.sp) ?_
  rintro _ _ ⟨m2, rfl, v2, hm2, b2, rfl, h⟩
  refine q_pop eL_712 rfl ?_
  refine q_goto (tgt := 854) eL_713 (by decide) ?_
  exact k x1 m2 hx1 hm2 h
set_option maxRecDepth 20000 in
theorem law_22 {kc ks : Nat} (hk : kc ≤ 600000 ∧ ks ≤ 7302250) {b L : Nat} {xs : Nat → Int32} {x m : ST} {i : Int} {N : ST → ST → Prop} (hx : RA x) (hm : RA m) (hi : R32 i) (h0 : 0 ≤ i ∧ i < (L : Int)) (hl : ∀ k : Int, 0 < k → k < 6 → R32 (i + k) ∧ (0 ≤ i + k ∧ i + k < (L : Int))) (h : lw22 xs x m i N) (k : ∀ x1 m1, RA x1 → RA m1 → N x1 m1 → KL b L xs kc ks x1 m1 i 854) : KL b L xs kc ks x m i 716 := by
  unfold lw22 at h
  refine q_aload_n eL_716 rfl ?_
  refine q_aload_n eL_717 rfl ?_
  refine q_iload_n eL_718 rfl ?_
  refine q_ic (v := Int32.ofInt 1) eL_719 rfl ?_
  refine z_iadd eL_720 ?_
  refine z_sld eL_721 (ofz (hl 1 (by decide) (by decide)).1) (hl 1 (by decide) (by decide)).2 ?_
  refine q_LV1 (ci := 10) (n := 0) eL_722 DX10_later lL_111 rfl (by decide) rfl rfl rfl rfl hk (jx (h.1 hx (zr _)) PI.sp) ?_
  rintro _ _ ⟨x1, rfl, v1, hx1, r1, rfl, h⟩
  refine q_pop eL_725 rfl ?_
  refine q_aload_n eL_726 rfl ?_
  refine q_aload_n eL_727 rfl ?_
  refine q_iload_n eL_728 rfl ?_
  refine q_ic (v := Int32.ofInt 1) eL_729 rfl ?_
  refine z_iadd eL_730 ?_
  refine z_sld eL_731 (ofz (hl 1 (by decide) (by decide)).1) (hl 1 (by decide) (by decide)).2 ?_
  refine q_LV1 (ci := 11) (n := 0) eL_732 DX11_later lL_114 rfl (by decide) rfl rfl rfl rfl hk (jm (h.1 hm (zr _)) PI.sp) ?_
  rintro _ _ ⟨m2, rfl, v2, hm2, r2, rfl, h⟩
  refine q_pop eL_735 rfl ?_
  refine q_goto (tgt := 854) eL_736 (by decide) ?_
  exact k x1 m2 hx1 hm2 h
set_option maxRecDepth 20000 in
theorem law_23 {kc ks : Nat} (hk : kc ≤ 600000 ∧ ks ≤ 7302250) {b L : Nat} {xs : Nat → Int32} {x m : ST} {i : Int} {N : ST → ST → Prop} (hx : RA x) (hm : RA m) (hi : R32 i) (h0 : 0 ≤ i ∧ i < (L : Int)) (hl : ∀ k : Int, 0 < k → k < 6 → R32 (i + k) ∧ (0 ≤ i + k ∧ i + k < (L : Int))) (h : lw23 xs x m i N) (k : ∀ x1 m1, RA x1 → RA m1 → N x1 m1 → KL b L xs kc ks x1 m1 i 854) : KL b L xs kc ks x m i 739 := by
  unfold lw23 at h
  refine q_aload_n eL_739 rfl ?_
  refine q_aload_n eL_740 rfl ?_
  refine q_iload_n eL_741 rfl ?_
  refine q_ic (v := Int32.ofInt 1) eL_742 rfl ?_
  refine z_iadd eL_743 ?_
  refine z_sld eL_744 (ofz (hl 1 (by decide) (by decide)).1) (hl 1 (by decide) (by decide)).2 ?_
  refine q_LV1 (ci := 10) (n := 0) eL_745 DX10_left lL_115 rfl (by decide) rfl rfl rfl rfl hk (jx (h.1 hx (zr _)) PI.sp) ?_
  rintro _ _ ⟨x1, rfl, v1, hx1, r1, rfl, h⟩
  refine q_pop eL_748 rfl ?_
  refine q_aload_n eL_749 rfl ?_
  refine q_aload_n eL_750 rfl ?_
  refine q_iload_n eL_751 rfl ?_
  refine q_ic (v := Int32.ofInt 1) eL_752 rfl ?_
  refine z_iadd eL_753 ?_
  refine z_sld eL_754 (ofz (hl 1 (by decide) (by decide)).1) (hl 1 (by decide) (by decide)).2 ?_
  refine q_LV1 (ci := 11) (n := 0) eL_755 DX11_left lL_118 rfl (by decide) rfl rfl rfl rfl hk (jm (h.1 hm (zr _)) PI.sp) ?_
  rintro _ _ ⟨m2, rfl, v2, hm2, r2, rfl, h⟩
  refine q_pop eL_758 rfl ?_
  refine q_goto (tgt := 854) eL_759 (by decide) ?_
  exact k x1 m2 hx1 hm2 h
set_option maxRecDepth 20000 in
theorem law_24 {kc ks : Nat} (hk : kc ≤ 600000 ∧ ks ≤ 7302250) {b L : Nat} {xs : Nat → Int32} {x m : ST} {i : Int} {N : ST → ST → Prop} (hx : RA x) (hm : RA m) (hi : R32 i) (h0 : 0 ≤ i ∧ i < (L : Int)) (hl : ∀ k : Int, 0 < k → k < 6 → R32 (i + k) ∧ (0 ≤ i + k ∧ i + k < (L : Int))) (h : lw24 xs x m i N) (k : ∀ x1 m1, RA x1 → RA m1 → N x1 m1 → KL b L xs kc ks x1 m1 i 854) : KL b L xs kc ks x m i 762 := by
  unfold lw24 at h
  refine q_aload_n eL_762 rfl ?_
  refine q_aload_n eL_763 rfl ?_
  refine q_iload_n eL_764 rfl ?_
  refine q_ic (v := Int32.ofInt 1) eL_765 rfl ?_
  refine z_iadd eL_766 ?_
  refine z_sld eL_767 (ofz (hl 1 (by decide) (by decide)).1) (hl 1 (by decide) (by decide)).2 ?_
  refine q_LV1 (ci := 10) (n := 0) eL_768 DX10_sure lL_119 rfl (by decide) rfl rfl rfl rfl hk (jx (h.1 hx (zr _)) PL.sp) ?_
  rintro _ _ ⟨x1, rfl, v1, hx1, rfl, h⟩
  refine q_pop2 eL_771 rfl ?_
  refine q_aload_n eL_772 rfl ?_
  refine q_aload_n eL_773 rfl ?_
  refine q_iload_n eL_774 rfl ?_
  refine q_ic (v := Int32.ofInt 1) eL_775 rfl ?_
  refine z_iadd eL_776 ?_
  refine z_sld eL_777 (ofz (hl 1 (by decide) (by decide)).1) (hl 1 (by decide) (by decide)).2 ?_
  refine q_LV1 (ci := 11) (n := 0) eL_778 DX11_sure lL_122 rfl (by decide) rfl rfl rfl rfl hk (jm (h.1 hm (zr _)) PL.sp) ?_
  rintro _ _ ⟨m2, rfl, v2, hm2, rfl, h⟩
  refine q_pop2 eL_781 rfl ?_
  refine q_goto (tgt := 854) eL_782 (by decide) ?_
  exact k x1 m2 hx1 hm2 h
set_option maxRecDepth 20000 in
theorem law_25 {kc ks : Nat} (hk : kc ≤ 600000 ∧ ks ≤ 7302250) {b L : Nat} {xs : Nat → Int32} {x m : ST} {i : Int} {N : ST → ST → Prop} (hx : RA x) (hm : RA m) (hi : R32 i) (h0 : 0 ≤ i ∧ i < (L : Int)) (hl : ∀ k : Int, 0 < k → k < 6 → R32 (i + k) ∧ (0 ≤ i + k ∧ i + k < (L : Int))) (h : lw25 xs x m i N) (k : ∀ x1 m1, RA x1 → RA m1 → N x1 m1 → KL b L xs kc ks x1 m1 i 854) : KL b L xs kc ks x m i 785 := by
  unfold lw25 at h
  refine q_aload_n eL_785 rfl ?_
  refine q_aload_n eL_786 rfl ?_
  refine q_iload_n eL_787 rfl ?_
  refine q_ic (v := Int32.ofInt 1) eL_788 rfl ?_
  refine z_iadd eL_789 ?_
  refine z_sld eL_790 (ofz (hl 1 (by decide) (by decide)).1) (hl 1 (by decide) (by decide)).2 ?_
  refine q_LV1 (ci := 10) (n := 0) eL_791 DX10_image lL_123 rfl (by decide) rfl rfl rfl rfl hk (jx (h.1 hx (zr _)) PI.sp) ?_
  rintro _ _ ⟨x1, rfl, v1, hx1, r1, rfl, h⟩
  refine q_pop eL_794 rfl ?_
  refine q_aload_n eL_795 rfl ?_
  refine q_aload_n eL_796 rfl ?_
  refine q_iload_n eL_797 rfl ?_
  refine q_ic (v := Int32.ofInt 1) eL_798 rfl ?_
  refine z_iadd eL_799 ?_
  refine z_sld eL_800 (ofz (hl 1 (by decide) (by decide)).1) (hl 1 (by decide) (by decide)).2 ?_
  refine q_LV1 (ci := 11) (n := 0) eL_801 DX11_image lL_126 rfl (by decide) rfl rfl rfl rfl hk (jm (h.1 hm (zr _)) PI.sp) ?_
  rintro _ _ ⟨m2, rfl, v2, hm2, r2, rfl, h⟩
  refine q_pop eL_804 rfl ?_
  refine q_goto (tgt := 854) eL_805 (by decide) ?_
  exact k x1 m2 hx1 hm2 h
set_option maxRecDepth 20000 in
theorem law_26 {kc ks : Nat} (hk : kc ≤ 600000 ∧ ks ≤ 7302250) {b L : Nat} {xs : Nat → Int32} {x m : ST} {i : Int} {N : ST → ST → Prop} (hx : RA x) (hm : RA m) (hi : R32 i) (h0 : 0 ≤ i ∧ i < (L : Int)) (hl : ∀ k : Int, 0 < k → k < 6 → R32 (i + k) ∧ (0 ≤ i + k ∧ i + k < (L : Int))) (h : lw26 xs x m i N) (k : ∀ x1 m1, RA x1 → RA m1 → N x1 m1 → KL b L xs kc ks x1 m1 i 854) : KL b L xs kc ks x m i 808 := by
  unfold lw26 at h
  refine q_aload_n eL_808 rfl ?_
  refine q_aload_n eL_809 rfl ?_
  refine q_iload_n eL_810 rfl ?_
  refine q_ic (v := Int32.ofInt 1) eL_811 rfl ?_
  refine z_iadd eL_812 ?_
  refine z_sld eL_813 (ofz (hl 1 (by decide) (by decide)).1) (hl 1 (by decide) (by decide)).2 ?_
  refine q_LV1 (ci := 10) (n := 0) eL_814 DX10_back lL_127 rfl (by decide) rfl rfl rfl rfl hk (jx (h.1 hx (zr _)) PI.sp) ?_
  rintro _ _ ⟨x1, rfl, v1, hx1, r1, rfl, h⟩
  refine q_pop eL_817 rfl ?_
  refine q_aload_n eL_818 rfl ?_
  refine q_aload_n eL_819 rfl ?_
  refine q_iload_n eL_820 rfl ?_
  refine q_ic (v := Int32.ofInt 1) eL_821 rfl ?_
  refine z_iadd eL_822 ?_
  refine z_sld eL_823 (ofz (hl 1 (by decide) (by decide)).1) (hl 1 (by decide) (by decide)).2 ?_
  refine q_LV1 (ci := 11) (n := 0) eL_824 DX11_back lL_130 rfl (by decide) rfl rfl rfl rfl hk (jm (h.1 hm (zr _)) PI.sp) ?_
  rintro _ _ ⟨m2, rfl, v2, hm2, r2, rfl, h⟩
  refine q_pop eL_827 rfl ?_
  refine q_goto (tgt := 854) eL_828 (by decide) ?_
  exact k x1 m2 hx1 hm2 h
set_option maxRecDepth 20000 in
theorem law_27 {kc ks : Nat} (hk : kc ≤ 600000 ∧ ks ≤ 7302250) {b L : Nat} {xs : Nat → Int32} {x m : ST} {i : Int} {N : ST → ST → Prop} (hx : RA x) (hm : RA m) (hi : R32 i) (h0 : 0 ≤ i ∧ i < (L : Int)) (hl : ∀ k : Int, 0 < k → k < 6 → R32 (i + k) ∧ (0 ≤ i + k ∧ i + k < (L : Int))) (h : lw27 xs x m i N) (k : ∀ x1 m1, RA x1 → RA m1 → N x1 m1 → KL b L xs kc ks x1 m1 i 854) : KL b L xs kc ks x m i 831 := by
  unfold lw27 at h
  refine q_aload_n eL_831 rfl ?_
  refine q_aload_n eL_832 rfl ?_
  refine q_iload_n eL_833 rfl ?_
  refine q_ic (v := Int32.ofInt 1) eL_834 rfl ?_
  refine z_iadd eL_835 ?_
  refine z_sld eL_836 (ofz (hl 1 (by decide) (by decide)).1) (hl 1 (by decide) (by decide)).2 ?_
  refine q_LV1 (ci := 10) (n := 0) eL_837 DX10_about lL_131 rfl (by decide) rfl rfl rfl rfl hk (jx (h.1 hx (zr _)) PI.sp) ?_
  rintro _ _ ⟨x1, rfl, v1, hx1, r1, rfl, h⟩
  refine q_pop eL_840 rfl ?_
  refine q_aload_n eL_841 rfl ?_
  refine q_aload_n eL_842 rfl ?_
  refine q_iload_n eL_843 rfl ?_
  refine q_ic (v := Int32.ofInt 1) eL_844 rfl ?_
  refine z_iadd eL_845 ?_
  refine z_sld eL_846 (ofz (hl 1 (by decide) (by decide)).1) (hl 1 (by decide) (by decide)).2 ?_
  refine q_LV1 (ci := 11) (n := 0) eL_847 DX11_about lL_134 rfl (by decide) rfl rfl rfl rfl hk (jm (h.1 hm (zr _)) PI.sp) ?_
  rintro _ _ ⟨m2, rfl, v2, hm2, r2, rfl, h⟩
  refine q_pop eL_850 rfl ?_
  refine q_goto (tgt := 854) eL_851 (by decide) ?_
  exact k x1 m2 hx1 hm2 h
theorem law_d {kc ks : Nat} (hk : kc ≤ 600000 ∧ ks ≤ 7302250) {b L : Nat} {xs : Nat → Int32} {x m : ST} {i : Int} {N : ST → ST → Prop} (hx : RA x) (hm : RA m) (hi : R32 i) (h0 : 0 ≤ i ∧ i < (L : Int)) (hl : ∀ k : Int, 0 < k → k < 6 → R32 (i + k) ∧ (0 ≤ i + k ∧ i + k < (L : Int))) (h : N x m) (k : ∀ x1 m1, RA x1 → RA m1 → N x1 m1 → KL b L xs kc ks x1 m1 i 854) : KL b L xs kc ks x m i 854 := by
  exact k x m hx hm h
set_option maxRecDepth 20000 in
theorem law_body {kc ks : Nat} (hk : kc ≤ 600000 ∧ ks ≤ 7302250) {b L : Nat} {xs : Nat → Int32} {x m : ST} {i : Int} {N : ST → ST → Prop} (hx : RA x) (hm : RA m) (hi : R32 i) (h0 : 0 ≤ i ∧ i < (L : Int)) (hl : ∀ k : Int, 0 < k → k < 6 → R32 (i + k) ∧ (0 ≤ i + k ∧ i + k < (L : Int))) (h : lawStep xs x m i N) (k : ∀ x1 m1, RA x1 → RA m1 → N x1 m1 → KL b L xs kc ks x1 m1 i 854) : KL b L xs kc ks x m i 27 := by
  unfold lawStep at h
  unfold KL
  refine q_aload_n eL_27 rfl ?_
  refine q_iload_n eL_28 rfl ?_
  refine z_sld eL_29 (ofz hi) h0 ?_
  refine q_bi (v := Int32.ofInt 31) eL_30 rfl ?_
  refine z_iand eL_32 ?_
  exact q_tab28 160 223 246 259 282 315 328 361 414 427 460 473 496 529 542 555 578 591 624 647 670 693 716 739 762 785 808 831 854 eL_33 rfl rfl (by decide) (z := iand (sx xs i) 31) (ofz (iand_r _ _)) (fun c => law_0 hk hx hm hi h0 hl (h.1 c) k) (fun c => law_1 hk hx hm hi h0 hl (h.2.1 c) k) (fun c => law_2 hk hx hm hi h0 hl (h.2.2.1 c) k) (fun c => law_3 hk hx hm hi h0 hl (h.2.2.2.1 c) k) (fun c => law_4 hk hx hm hi h0 hl (h.2.2.2.2.1 c) k) (fun c => law_5 hk hx hm hi h0 hl (h.2.2.2.2.2.1 c) k) (fun c => law_6 hk hx hm hi h0 hl (h.2.2.2.2.2.2.1 c) k) (fun c => law_7 hk hx hm hi h0 hl (h.2.2.2.2.2.2.2.1 c) k) (fun c => law_8 hk hx hm hi h0 hl (h.2.2.2.2.2.2.2.2.1 c) k) (fun c => law_9 hk hx hm hi h0 hl (h.2.2.2.2.2.2.2.2.2.1 c) k) (fun c => law_10 hk hx hm hi h0 hl (h.2.2.2.2.2.2.2.2.2.2.1 c) k) (fun c => law_11 hk hx hm hi h0 hl (h.2.2.2.2.2.2.2.2.2.2.2.1 c) k) (fun c => law_12 hk hx hm hi h0 hl (h.2.2.2.2.2.2.2.2.2.2.2.2.1 c) k) (fun c => law_13 hk hx hm hi h0 hl (h.2.2.2.2.2.2.2.2.2.2.2.2.2.1 c) k) (fun c => law_14 hk hx hm hi h0 hl (h.2.2.2.2.2.2.2.2.2.2.2.2.2.2.1 c) k) (fun c => law_15 hk hx hm hi h0 hl (h.2.2.2.2.2.2.2.2.2.2.2.2.2.2.2.1 c) k) (fun c => law_16 hk hx hm hi h0 hl (h.2.2.2.2.2.2.2.2.2.2.2.2.2.2.2.2.1 c) k) (fun c => law_17 hk hx hm hi h0 hl (h.2.2.2.2.2.2.2.2.2.2.2.2.2.2.2.2.2.1 c) k) (fun c => law_18 hk hx hm hi h0 hl (h.2.2.2.2.2.2.2.2.2.2.2.2.2.2.2.2.2.2.1 c) k) (fun c => law_19 hk hx hm hi h0 hl (h.2.2.2.2.2.2.2.2.2.2.2.2.2.2.2.2.2.2.2.1 c) k) (fun c => law_20 hk hx hm hi h0 hl (h.2.2.2.2.2.2.2.2.2.2.2.2.2.2.2.2.2.2.2.2.1 c) k) (fun c => law_21 hk hx hm hi h0 hl (h.2.2.2.2.2.2.2.2.2.2.2.2.2.2.2.2.2.2.2.2.2.1 c) k) (fun c => law_22 hk hx hm hi h0 hl (h.2.2.2.2.2.2.2.2.2.2.2.2.2.2.2.2.2.2.2.2.2.2.1 c) k) (fun c => law_23 hk hx hm hi h0 hl (h.2.2.2.2.2.2.2.2.2.2.2.2.2.2.2.2.2.2.2.2.2.2.2.1 c) k) (fun c => law_24 hk hx hm hi h0 hl (h.2.2.2.2.2.2.2.2.2.2.2.2.2.2.2.2.2.2.2.2.2.2.2.2.1 c) k) (fun c => law_25 hk hx hm hi h0 hl (h.2.2.2.2.2.2.2.2.2.2.2.2.2.2.2.2.2.2.2.2.2.2.2.2.2.1 c) k) (fun c => law_26 hk hx hm hi h0 hl (h.2.2.2.2.2.2.2.2.2.2.2.2.2.2.2.2.2.2.2.2.2.2.2.2.2.2.1 c) k) (fun c => law_27 hk hx hm hi h0 hl (h.2.2.2.2.2.2.2.2.2.2.2.2.2.2.2.2.2.2.2.2.2.2.2.2.2.2.2.1 c) k) (fun c => law_d hk hx hm hi h0 hl (h.2.2.2.2.2.2.2.2.2.2.2.2.2.2.2.2.2.2.2.2.2.2.2.2.2.2.2.2 c) k)
theorem law_loop {b L : Nat} {xs : Nat → Int32} {kc ks : Nat} (hk : Nat.ble kc 600000 = true ∧ Nat.ble ks 7302250 = true) (hL : L ≤ 3072) (INV : Nat → ST → ST → Prop) (hs : ∀ (k : Nat) (x m : ST), INV k x m → RA x → RA m → 6 * k + 6 ≤ L → lawStep xs x m (6 * (k : Int)) (INV (k + 1))) :
    ∀ (n k : Nat) (x m : ST), L ≤ 6 * k + n → 6 * k ≤ 3078 → RA x → RA m → INV k x m → KL b L xs kc ks x m (6 * (k : Int)) 18 := by
  intro n
  induction n using Nat.strongRecOn with
  | ind n ih =>
    intro k x m hn h6 hx hm hI
    have hkk : kc ≤ 600000 ∧ ks ≤ 7302250 := ⟨Nat.le_of_ble_eq_true hk.1, Nat.le_of_ble_eq_true hk.2⟩
    unfold KL
    refine q_iload_n eL_18 rfl ?_
    refine q_aload_n eL_19 rfl ?_
    refine z_slen eL_20 ?_
    refine q_bi (v := Int32.ofInt 6) eL_21 rfl ?_
    refine z_isub eL_23 ?_
    by_cases hb : 6 * k + 6 ≤ L
    · refine q_cz_gt (tgt := 860) (a := 6 * (k : Int)) (b := (L : Int) - 6) eL_24 (by decide) (ofz ⟨by omega, by omega⟩) (ofz ⟨by omega, by omega⟩) (fun c => absurd c (by omega)) (fun c => ?_)
      refine law_body hkk hx hm ⟨by omega, by omega⟩ ⟨by omega, by omega⟩ (fun j h1 h2 => ⟨⟨by omega, by omega⟩, by omega, by omega⟩) (hs k x m hI hx hm hb) (fun x1 m1 hx1 hm1 hN => ?_)
      unfold KL
      refine z_inc (m := 6) eL_854 rfl (Nat.le_of_ble_eq_true rfl) rfl ?_
      refine q_goto (tgt := 18) eL_857 (by decide) ?_
      have := ih (n - 6) (by omega) (k + 1) x1 m1 (by omega) (by omega) hx1 hm1 hN
      rw [show (6 * ((k + 1 : Nat) : Int)) = 6 * (k : Int) + 6 by omega] at this
      exact q_subL rfl this
    · by_cases hb2 : 6 ≤ L
      · refine q_cz_gt (tgt := 860) (a := 6 * (k : Int)) (b := (L : Int) - 6) eL_24 (by decide) (ofz ⟨by omega, by omega⟩) (ofz ⟨by omega, by omega⟩) (fun c => ?_) (fun c => absurd c (by omega))
        refine q_ic (v := 1) eL_860 rfl ?_
        exact q_lawret eL_861 hk
      · refine q_cz_gt (tgt := 860) (a := 6 * (k : Int)) (b := (L : Int) - 6) eL_24 (by decide) (ofz ⟨by omega, by omega⟩) (ofz ⟨by omega, by omega⟩) (fun c => ?_) (fun c => absurd c (by omega))
        refine q_ic (v := 1) eL_860 rfl ?_
        exact q_lawret eL_861 hk
set_option maxRecDepth 20000 in
theorem z_R31 : ∀ (i : Nat) (t : Nat × Nat), q_lay0[i]? = some t → ∀ k, k < q_rows t → zR31 i k = q_R0 i k := by
  have h : ((List.range 204).all fun i => match q_lay0[i]? with | some t => (List.range (q_rows t)).all (fun k => decide (zR31 i k = q_R0 i k)) | none => true) = true := by decide +kernel
  intro i t hi k hk
  have := List.all_eq_true.mp h i (List.mem_range.mpr (lt_of_some lay_len.1 hi))
  rw [hi] at this
  exact of_decide_eq_true (List.all_eq_true.mp this k (List.mem_range.mpr hk))
def law_kc : Nat := 204
def law_ks : Nat := 186417
set_option maxRecDepth 20000 in
theorem law_entry {b L : Nat} {xs : Nat → Int32} (k : q_K mL (q_s zI6 zJ1) 204 186417 18 [(0, .ref 1002), (1, .ref 0), (2, .ref 139), (3, .int (Int32.ofInt 0))] [] (q_FL b L xs)) : q_K mL (q_z (fun _ _ => 0) (fun _ _ => 0) (fun _ _ => none) 0) 0 0 0 [(0, .ref 1002)] [] (q_FL b L xs) := by
  refine q_mko (ci := 10) eL_0 (by decide) (Nat.le_of_ble_eq_true rfl) rfl kL_7 iX10 zX10 (fun _ => rfl) (fun _ => rfl) (fun _ => rfl) (kc' := 1) (ks' := 16) rfl rfl ⟨rfl, rfl⟩ ?_
  refine q_dup eL_3 rfl ?_
  refine q_callI0 (M2 := mX10_init) rfl eL_4 DX10_init lL_9 (q_fitb rfl) (q_r8 rfl) ⟨Nat.le_of_ble_eq_true rfl, Nat.le_of_ble_eq_true rfl⟩ y_WhyNot ?_
  rintro _ _ ⟨rfl, rfl⟩
  refine q_astore_n eL_7 (Nat.le_of_ble_eq_true rfl) ?_
  refine q_mko (ci := 11) eL_8 (by decide) (Nat.le_of_ble_eq_true rfl) rfl kL_10 iX11 zX11 (fun _ => rfl) (fun _ => rfl) (fun _ => rfl) (kc' := 140) (ks' := 67610) rfl rfl ⟨rfl, rfl⟩ ?_
  refine q_dup eL_11 rfl ?_
  refine q_callI0 (M2 := mX11_init) rfl eL_12 DX11_init lL_12 (q_fitb rfl) (q_r8 rfl) ⟨Nat.le_of_ble_eq_true rfl, Nat.le_of_ble_eq_true rfl⟩ y_Model ?_
  rintro _ _ ⟨rfl, rfl⟩
  refine q_astore_n eL_15 (Nat.le_of_ble_eq_true rfl) ?_
  refine q_Kz z_R31 ?_
  refine q_ic (v := Int32.ofInt 0) eL_16 rfl ?_
  refine q_istore_n eL_17 (Nat.le_of_ble_eq_true rfl) ?_
  exact q_subL rfl k
