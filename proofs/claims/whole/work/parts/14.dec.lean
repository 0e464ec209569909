theorem d_X12_doStep_159 : decode prog_14_method_59_code 159 = .ok (.iload 7, 2) := by decide +kernel
theorem d_X12_doStep_161 : decode prog_14_method_59_code 161 = .ok (.iaload, 1) := by decide +kernel
theorem d_X12_doStep_162 : decode prog_14_method_59_code 162 = .ok (.iaload, 1) := by decide +kernel
theorem d_X12_doStep_163 : decode prog_14_method_59_code 163 = .ok (.istore 9, 2) := by decide +kernel
theorem d_X12_doStep_165 : decode prog_14_method_59_code 165 = .ok (.aload_n 0, 1) := by decide +kernel
theorem d_X12_doStep_166 : decode prog_14_method_59_code 166 = .ok (.getfield 49, 3) := by decide +kernel
theorem d_X12_doStep_169 : decode prog_14_method_59_code 169 = .ok (.iload 6, 2) := by decide +kernel
theorem d_X12_doStep_171 : decode prog_14_method_59_code 171 = .ok (.iconst (-1), 1) := by decide +kernel
theorem d_X12_doStep_172 : decode prog_14_method_59_code 172 = .ok (.iastore, 1) := by decide +kernel
theorem d_X12_doStep_173 : decode prog_14_method_59_code 173 = .ok (.aload_n 0, 1) := by decide +kernel
theorem d_X12_doStep_174 : decode prog_14_method_59_code 174 = .ok (.getfield 49, 3) := by decide +kernel
theorem d_X12_doStep_177 : decode prog_14_method_59_code 177 = .ok (.iload 7, 2) := by decide +kernel
theorem d_X12_doStep_179 : decode prog_14_method_59_code 179 = .ok (.iconst (-1), 1) := by decide +kernel
theorem d_X12_doStep_180 : decode prog_14_method_59_code 180 = .ok (.iastore, 1) := by decide +kernel
theorem d_X12_doStep_181 : decode prog_14_method_59_code 181 = .ok (.iconst 0, 1) := by decide +kernel
theorem d_X12_doStep_182 : decode prog_14_method_59_code 182 = .ok (.istore 10, 2) := by decide +kernel
theorem d_X12_doStep_184 : decode prog_14_method_59_code 184 = .ok (.iload 10, 2) := by decide +kernel
theorem d_X12_doStep_186 : decode prog_14_method_59_code 186 = .ok (.aload_n 0, 1) := by decide +kernel
theorem d_X12_doStep_187 : decode prog_14_method_59_code 187 = .ok (.getfield 37, 3) := by decide +kernel
theorem d_X12_doStep_190 : decode prog_14_method_59_code 190 = .ok (.iload_n 3, 1) := by decide +kernel
theorem d_X12_doStep_191 : decode prog_14_method_59_code 191 = .ok (.iaload, 1) := by decide +kernel
theorem d_X12_doStep_192 : decode prog_14_method_59_code 192 = .ok (.if_icmp .ge 56, 3) := by decide +kernel
theorem d_X12_doStep_195 : decode prog_14_method_59_code 195 = .ok (.iconst 0, 1) := by decide +kernel
theorem d_X12_doStep_196 : decode prog_14_method_59_code 196 = .ok (.istore 11, 2) := by decide +kernel
theorem d_X12_doStep_198 : decode prog_14_method_59_code 198 = .ok (.aload_n 0, 1) := by decide +kernel
theorem d_X12_doStep_199 : decode prog_14_method_59_code 199 = .ok (.getfield 49, 3) := by decide +kernel
theorem d_X12_doStep_202 : decode prog_14_method_59_code 202 = .ok (.iload 11, 2) := by decide +kernel
theorem d_X12_doStep_204 : decode prog_14_method_59_code 204 = .ok (.iaload, 1) := by decide +kernel
theorem d_X12_doStep_205 : decode prog_14_method_59_code 205 = .ok (.ifCond .lt 9, 3) := by decide +kernel
theorem d_X12_doStep_208 : decode prog_14_method_59_code 208 = .ok (.iinc 11 1, 3) := by decide +kernel
theorem d_X12_doStep_211 : decode prog_14_method_59_code 211 = .ok (.goto (-13), 3) := by decide +kernel
theorem d_X12_doStep_214 : decode prog_14_method_59_code 214 = .ok (.aload_n 0, 1) := by decide +kernel
theorem d_X12_doStep_215 : decode prog_14_method_59_code 215 = .ok (.getfield 143, 3) := by decide +kernel
theorem d_X12_doStep_218 : decode prog_14_method_59_code 218 = .ok (.iload 10, 2) := by decide +kernel
theorem d_X12_doStep_220 : decode prog_14_method_59_code 220 = .ok (.iload 11, 2) := by decide +kernel
theorem d_X12_doStep_222 : decode prog_14_method_59_code 222 = .ok (.iastore, 1) := by decide +kernel
theorem d_X12_doStep_223 : decode prog_14_method_59_code 223 = .ok (.aload_n 0, 1) := by decide +kernel
theorem d_X12_doStep_224 : decode prog_14_method_59_code 224 = .ok (.getfield 49, 3) := by decide +kernel
theorem d_X12_doStep_227 : decode prog_14_method_59_code 227 = .ok (.iload 11, 2) := by decide +kernel
theorem d_X12_doStep_229 : decode prog_14_method_59_code 229 = .ok (.aload_n 0, 1) := by decide +kernel
theorem d_X12_doStep_230 : decode prog_14_method_59_code 230 = .ok (.getfield 40, 3) := by decide +kernel
theorem d_X12_doStep_233 : decode prog_14_method_59_code 233 = .ok (.bipush 12, 2) := by decide +kernel
theorem d_X12_doStep_235 : decode prog_14_method_59_code 235 = .ok (.iload_n 3, 1) := by decide +kernel
theorem d_X12_doStep_236 : decode prog_14_method_59_code 236 = .ok (.imul, 1) := by decide +kernel
theorem d_X12_doStep_237 : decode prog_14_method_59_code 237 = .ok (.iload 10, 2) := by decide +kernel
theorem d_X12_doStep_239 : decode prog_14_method_59_code 239 = .ok (.iadd, 1) := by decide +kernel
theorem d_X12_doStep_240 : decode prog_14_method_59_code 240 = .ok (.iaload, 1) := by decide +kernel
theorem d_X12_doStep_241 : decode prog_14_method_59_code 241 = .ok (.iastore, 1) := by decide +kernel
theorem d_X12_doStep_242 : decode prog_14_method_59_code 242 = .ok (.iinc 10 1, 3) := by decide +kernel
theorem d_X12_doStep_245 : decode prog_14_method_59_code 245 = .ok (.goto (-61), 3) := by decide +kernel
theorem d_X12_doStep_248 : decode prog_14_method_59_code 248 = .ok (.iconst 0, 1) := by decide +kernel
theorem d_X12_doStep_249 : decode prog_14_method_59_code 249 = .ok (.istore 10, 2) := by decide +kernel
theorem d_X12_doStep_251 : decode prog_14_method_59_code 251 = .ok (.iload 10, 2) := by decide +kernel
theorem d_X12_doStep_253 : decode prog_14_method_59_code 253 = .ok (.aload_n 0, 1) := by decide +kernel
theorem d_X12_doStep_254 : decode prog_14_method_59_code 254 = .ok (.getfield 37, 3) := by decide +kernel
theorem d_X12_doStep_257 : decode prog_14_method_59_code 257 = .ok (.iload_n 3, 1) := by decide +kernel
theorem d_X12_doStep_258 : decode prog_14_method_59_code 258 = .ok (.iaload, 1) := by decide +kernel
theorem d_X12_doStep_259 : decode prog_14_method_59_code 259 = .ok (.if_icmp .ge 117, 3) := by decide +kernel
theorem d_X12_doStep_262 : decode prog_14_method_59_code 262 = .ok (.iconst 0, 1) := by decide +kernel
theorem d_X12_doStep_263 : decode prog_14_method_59_code 263 = .ok (.istore 11, 2) := by decide +kernel
theorem d_X12_doStep_265 : decode prog_14_method_59_code 265 = .ok (.iload 11, 2) := by decide +kernel
theorem d_X12_doStep_267 : decode prog_14_method_59_code 267 = .ok (.aload_n 0, 1) := by decide +kernel
theorem d_X12_doStep_268 : decode prog_14_method_59_code 268 = .ok (.getfield 21, 3) := by decide +kernel
theorem d_X12_doStep_271 : decode prog_14_method_59_code 271 = .ok (.aload_n 0, 1) := by decide +kernel
theorem d_X12_doStep_272 : decode prog_14_method_59_code 272 = .ok (.getfield 40, 3) := by decide +kernel
theorem d_X12_doStep_275 : decode prog_14_method_59_code 275 = .ok (.bipush 12, 2) := by decide +kernel
theorem d_X12_doStep_277 : decode prog_14_method_59_code 277 = .ok (.iload_n 3, 1) := by decide +kernel
theorem d_X12_doStep_278 : decode prog_14_method_59_code 278 = .ok (.imul, 1) := by decide +kernel
theorem d_X12_doStep_279 : decode prog_14_method_59_code 279 = .ok (.iload 10, 2) := by decide +kernel
theorem d_X12_doStep_281 : decode prog_14_method_59_code 281 = .ok (.iadd, 1) := by decide +kernel
theorem d_X12_doStep_282 : decode prog_14_method_59_code 282 = .ok (.iaload, 1) := by decide +kernel
theorem d_X12_doStep_283 : decode prog_14_method_59_code 283 = .ok (.iaload, 1) := by decide +kernel
theorem d_X12_doStep_284 : decode prog_14_method_59_code 284 = .ok (.if_icmp .ge 86, 3) := by decide +kernel
theorem d_X12_doStep_287 : decode prog_14_method_59_code 287 = .ok (.aload_n 0, 1) := by decide +kernel
theorem d_X12_doStep_288 : decode prog_14_method_59_code 288 = .ok (.getfield 43, 3) := by decide +kernel
theorem d_X12_doStep_291 : decode prog_14_method_59_code 291 = .ok (.bipush 70, 2) := by decide +kernel
theorem d_X12_doStep_293 : decode prog_14_method_59_code 293 = .ok (.iload_n 3, 1) := by decide +kernel
theorem d_X12_doStep_294 : decode prog_14_method_59_code 294 = .ok (.imul, 1) := by decide +kernel
theorem d_X12_doStep_295 : decode prog_14_method_59_code 295 = .ok (.iconst 5, 1) := by decide +kernel
theorem d_X12_doStep_296 : decode prog_14_method_59_code 296 = .ok (.iload 10, 2) := by decide +kernel
theorem d_X12_doStep_298 : decode prog_14_method_59_code 298 = .ok (.imul, 1) := by decide +kernel
theorem d_X12_doStep_299 : decode prog_14_method_59_code 299 = .ok (.iadd, 1) := by decide +kernel
theorem d_X12_doStep_300 : decode prog_14_method_59_code 300 = .ok (.iload 11, 2) := by decide +kernel
theorem d_X12_doStep_302 : decode prog_14_method_59_code 302 = .ok (.iadd, 1) := by decide +kernel
theorem d_X12_doStep_303 : decode prog_14_method_59_code 303 = .ok (.iaload, 1) := by decide +kernel
theorem d_X12_doStep_304 : decode prog_14_method_59_code 304 = .ok (.istore 12, 2) := by decide +kernel
theorem d_X12_doStep_306 : decode prog_14_method_59_code 306 = .ok (.aload_n 0, 1) := by decide +kernel
theorem d_X12_doStep_307 : decode prog_14_method_59_code 307 = .ok (.iconst 5, 1) := by decide +kernel
theorem d_X12_doStep_308 : decode prog_14_method_59_code 308 = .ok (.iload 10, 2) := by decide +kernel
theorem d_X12_doStep_310 : decode prog_14_method_59_code 310 = .ok (.imul, 1) := by decide +kernel
theorem d_X12_doStep_311 : decode prog_14_method_59_code 311 = .ok (.iload 11, 2) := by decide +kernel
theorem d_X12_doStep_313 : decode prog_14_method_59_code 313 = .ok (.iadd, 1) := by decide +kernel
theorem d_X12_doStep_314 : decode prog_14_method_59_code 314 = .ok (.invokevirtual 412, 3) := by decide +kernel
theorem d_X12_doStep_317 : decode prog_14_method_59_code 317 = .ok (.istore 13, 2) := by decide +kernel
theorem d_X12_doStep_319 : decode prog_14_method_59_code 319 = .ok (.iload 12, 2) := by decide +kernel
theorem d_X12_doStep_321 : decode prog_14_method_59_code 321 = .ok (.bipush 60, 2) := by decide +kernel
theorem d_X12_doStep_323 : decode prog_14_method_59_code 323 = .ok (.if_icmp .ge 12, 3) := by decide +kernel
theorem d_X12_doStep_326 : decode prog_14_method_59_code 326 = .ok (.aload_n 0, 1) := by decide +kernel
theorem d_X12_doStep_327 : decode prog_14_method_59_code 327 = .ok (.iload 12, 2) := by decide +kernel
theorem d_X12_doStep_329 : decode prog_14_method_59_code 329 = .ok (.invokevirtual 412, 3) := by decide +kernel
theorem d_X12_doStep_332 : decode prog_14_method_59_code 332 = .ok (.goto 13, 3) := by decide +kernel
theorem d_X12_doStep_335 : decode prog_14_method_59_code 335 = .ok (.aload_n 0, 1) := by decide +kernel
theorem d_X12_doStep_336 : decode prog_14_method_59_code 336 = .ok (.iload_n 3, 1) := by decide +kernel
theorem d_X12_doStep_337 : decode prog_14_method_59_code 337 = .ok (.iload 12, 2) := by decide +kernel
theorem d_X12_doStep_339 : decode prog_14_method_59_code 339 = .ok (.bipush 60, 2) := by decide +kernel
theorem d_X12_doStep_341 : decode prog_14_method_59_code 341 = .ok (.isub, 1) := by decide +kernel
theorem d_X12_doStep_342 : decode prog_14_method_59_code 342 = .ok (.invokevirtual 418, 3) := by decide +kernel
theorem d_X12_doStep_345 : decode prog_14_method_59_code 345 = .ok (.istore 14, 2) := by decide +kernel
theorem d_X12_doStep_347 : decode prog_14_method_59_code 347 = .ok (.aload_n 0, 1) := by decide +kernel
theorem d_X12_doStep_348 : decode prog_14_method_59_code 348 = .ok (.getfield 52, 3) := by decide +kernel
theorem d_X12_doStep_351 : decode prog_14_method_59_code 351 = .ok (.iload 13, 2) := by decide +kernel
theorem d_X12_doStep_353 : decode prog_14_method_59_code 353 = .ok (.iload 14, 2) := by decide +kernel
theorem d_X12_doStep_355 : decode prog_14_method_59_code 355 = .ok (.iastore, 1) := by decide +kernel
theorem d_X12_doStep_356 : decode prog_14_method_59_code 356 = .ok (.aload_n 0, 1) := by decide +kernel
theorem d_X12_doStep_357 : decode prog_14_method_59_code 357 = .ok (.iload 14, 2) := by decide +kernel
theorem d_X12_doStep_359 : decode prog_14_method_59_code 359 = .ok (.iload 13, 2) := by decide +kernel
theorem d_X12_doStep_361 : decode prog_14_method_59_code 361 = .ok (.invokevirtual 421, 3) := by decide +kernel
theorem d_X12_doStep_364 : decode prog_14_method_59_code 364 = .ok (.iinc 11 1, 3) := by decide +kernel
theorem d_X12_doStep_367 : decode prog_14_method_59_code 367 = .ok (.goto (-102), 3) := by decide +kernel
theorem d_X12_doStep_370 : decode prog_14_method_59_code 370 = .ok (.iinc 10 1, 3) := by decide +kernel
theorem d_X12_doStep_373 : decode prog_14_method_59_code 373 = .ok (.goto (-122), 3) := by decide +kernel
theorem d_X12_doStep_376 : decode prog_14_method_59_code 376 = .ok (.iconst 0, 1) := by decide +kernel
theorem d_X12_doStep_377 : decode prog_14_method_59_code 377 = .ok (.istore 10, 2) := by decide +kernel
theorem d_X12_doStep_379 : decode prog_14_method_59_code 379 = .ok (.iload 10, 2) := by decide +kernel
theorem d_X12_doStep_381 : decode prog_14_method_59_code 381 = .ok (.bipush 10, 2) := by decide +kernel
theorem d_X12_doStep_383 : decode prog_14_method_59_code 383 = .ok (.if_icmp .ge 123, 3) := by decide +kernel
theorem d_X12_doStep_386 : decode prog_14_method_59_code 386 = .ok (.iload 10, 2) := by decide +kernel
theorem d_X12_doStep_388 : decode prog_14_method_59_code 388 = .ok (.iconst 5, 1) := by decide +kernel
theorem d_X12_doStep_389 : decode prog_14_method_59_code 389 = .ok (.irem, 1) := by decide +kernel
theorem d_X12_doStep_390 : decode prog_14_method_59_code 390 = .ok (.ifCond .le 27, 3) := by decide +kernel
theorem d_X12_doStep_393 : decode prog_14_method_59_code 393 = .ok (.iload 10, 2) := by decide +kernel
theorem d_X12_doStep_395 : decode prog_14_method_59_code 395 = .ok (.iconst 5, 1) := by decide +kernel
theorem d_X12_doStep_396 : decode prog_14_method_59_code 396 = .ok (.irem, 1) := by decide +kernel
theorem d_X12_doStep_397 : decode prog_14_method_59_code 397 = .ok (.iload 10, 2) := by decide +kernel
theorem d_X12_doStep_399 : decode prog_14_method_59_code 399 = .ok (.iconst 5, 1) := by decide +kernel
theorem d_X12_doStep_400 : decode prog_14_method_59_code 400 = .ok (.if_icmp .ge 8, 3) := by decide +kernel
theorem d_X12_doStep_403 : decode prog_14_method_59_code 403 = .ok (.iload 8, 2) := by decide +kernel
theorem d_X12_doStep_405 : decode prog_14_method_59_code 405 = .ok (.goto 5, 3) := by decide +kernel
theorem d_X12_doStep_408 : decode prog_14_method_59_code 408 = .ok (.iload 9, 2) := by decide +kernel
theorem d_X12_doStep_410 : decode prog_14_method_59_code 410 = .ok (.if_icmp .ge 7, 3) := by decide +kernel
theorem d_X12_doStep_413 : decode prog_14_method_59_code 413 = .ok (.iconst 1, 1) := by decide +kernel
theorem d_X12_doStep_414 : decode prog_14_method_59_code 414 = .ok (.goto 4, 3) := by decide +kernel
theorem d_X12_doStep_417 : decode prog_14_method_59_code 417 = .ok (.iconst 0, 1) := by decide +kernel
theorem d_X12_doStep_418 : decode prog_14_method_59_code 418 = .ok (.istore 11, 2) := by decide +kernel
theorem d_X12_doStep_420 : decode prog_14_method_59_code 420 = .ok (.iload 11, 2) := by decide +kernel
theorem d_X12_doStep_422 : decode prog_14_method_59_code 422 = .ok (.ifCond .eq 78, 3) := by decide +kernel
theorem d_X12_doStep_425 : decode prog_14_method_59_code 425 = .ok (.aload_n 0, 1) := by decide +kernel
theorem d_X12_doStep_426 : decode prog_14_method_59_code 426 = .ok (.getfield 137, 3) := by decide +kernel
theorem d_X12_doStep_429 : decode prog_14_method_59_code 429 = .ok (.iload 10, 2) := by decide +kernel
theorem d_X12_doStep_431 : decode prog_14_method_59_code 431 = .ok (.iaload, 1) := by decide +kernel
theorem d_X12_doStep_432 : decode prog_14_method_59_code 432 = .ok (.sipush 10000, 3) := by decide +kernel
theorem d_X12_doStep_435 : decode prog_14_method_59_code 435 = .ok (.if_icmp .ge 65, 3) := by decide +kernel
theorem d_X12_doStep_438 : decode prog_14_method_59_code 438 = .ok (.aload_n 0, 1) := by decide +kernel
theorem d_X12_doStep_439 : decode prog_14_method_59_code 439 = .ok (.getfield 43, 3) := by decide +kernel
theorem d_X12_doStep_442 : decode prog_14_method_59_code 442 = .ok (.bipush 70, 2) := by decide +kernel
theorem d_X12_doStep_444 : decode prog_14_method_59_code 444 = .ok (.iload_n 3, 1) := by decide +kernel
theorem d_X12_doStep_445 : decode prog_14_method_59_code 445 = .ok (.imul, 1) := by decide +kernel
theorem d_X12_doStep_446 : decode prog_14_method_59_code 446 = .ok (.bipush 60, 2) := by decide +kernel
theorem d_X12_doStep_448 : decode prog_14_method_59_code 448 = .ok (.iadd, 1) := by decide +kernel
theorem d_X12_doStep_449 : decode prog_14_method_59_code 449 = .ok (.iload 10, 2) := by decide +kernel
theorem d_X12_doStep_451 : decode prog_14_method_59_code 451 = .ok (.iadd, 1) := by decide +kernel
theorem d_X12_doStep_452 : decode prog_14_method_59_code 452 = .ok (.iaload, 1) := by decide +kernel
theorem d_X12_doStep_453 : decode prog_14_method_59_code 453 = .ok (.bipush 60, 2) := by decide +kernel
theorem d_X12_doStep_455 : decode prog_14_method_59_code 455 = .ok (.if_icmp .lt 45, 3) := by decide +kernel
theorem d_X12_doStep_458 : decode prog_14_method_59_code 458 = .ok (.aload_n 0, 1) := by decide +kernel
theorem d_X12_doStep_459 : decode prog_14_method_59_code 459 = .ok (.getfield 140, 3) := by decide +kernel
theorem d_X12_doStep_462 : decode prog_14_method_59_code 462 = .ok (.iload 10, 2) := by decide +kernel
theorem d_X12_doStep_464 : decode prog_14_method_59_code 464 = .ok (.iconst 1, 1) := by decide +kernel
theorem d_X12_doStep_465 : decode prog_14_method_59_code 465 = .ok (.bastore, 1) := by decide +kernel
theorem d_X12_doStep_466 : decode prog_14_method_59_code 466 = .ok (.aload_n 0, 1) := by decide +kernel
theorem d_X12_doStep_467 : decode prog_14_method_59_code 467 = .ok (.aload_n 0, 1) := by decide +kernel
theorem d_X12_doStep_468 : decode prog_14_method_59_code 468 = .ok (.getfield 137, 3) := by decide +kernel
theorem d_X12_doStep_471 : decode prog_14_method_59_code 471 = .ok (.iload 10, 2) := by decide +kernel
theorem d_X12_doStep_473 : decode prog_14_method_59_code 473 = .ok (.iaload, 1) := by decide +kernel
theorem d_X12_doStep_474 : decode prog_14_method_59_code 474 = .ok (.aload_n 0, 1) := by decide +kernel
theorem d_X12_doStep_475 : decode prog_14_method_59_code 475 = .ok (.iload_n 3, 1) := by decide +kernel
theorem d_X12_doStep_476 : decode prog_14_method_59_code 476 = .ok (.aload_n 0, 1) := by decide +kernel
theorem d_X12_doStep_477 : decode prog_14_method_59_code 477 = .ok (.getfield 43, 3) := by decide +kernel
theorem d_X12_doStep_480 : decode prog_14_method_59_code 480 = .ok (.bipush 70, 2) := by decide +kernel
theorem d_X12_doStep_482 : decode prog_14_method_59_code 482 = .ok (.iload_n 3, 1) := by decide +kernel
theorem d_X12_doStep_483 : decode prog_14_method_59_code 483 = .ok (.imul, 1) := by decide +kernel
theorem d_X12_doStep_484 : decode prog_14_method_59_code 484 = .ok (.bipush 60, 2) := by decide +kernel
theorem d_X12_doStep_486 : decode prog_14_method_59_code 486 = .ok (.iadd, 1) := by decide +kernel
theorem d_X12_doStep_487 : decode prog_14_method_59_code 487 = .ok (.iload 10, 2) := by decide +kernel
theorem d_X12_doStep_489 : decode prog_14_method_59_code 489 = .ok (.iadd, 1) := by decide +kernel
theorem d_X12_doStep_490 : decode prog_14_method_59_code 490 = .ok (.iaload, 1) := by decide +kernel
theorem d_X12_doStep_491 : decode prog_14_method_59_code 491 = .ok (.bipush 60, 2) := by decide +kernel
theorem d_X12_doStep_493 : decode prog_14_method_59_code 493 = .ok (.isub, 1) := by decide +kernel
theorem d_X12_doStep_494 : decode prog_14_method_59_code 494 = .ok (.invokevirtual 418, 3) := by decide +kernel
theorem d_X12_doStep_497 : decode prog_14_method_59_code 497 = .ok (.invokevirtual 421, 3) := by decide +kernel
theorem d_X12_doStep_500 : decode prog_14_method_59_code 500 = .ok (.iinc 10 1, 3) := by decide +kernel
theorem d_X12_doStep_503 : decode prog_14_method_59_code 503 = .ok (.goto (-124), 3) := by decide +kernel
theorem d_X12_doStep_506 : decode prog_14_method_59_code 506 = .ok (.aload_n 0, 1) := by decide +kernel
theorem d_X12_doStep_507 : decode prog_14_method_59_code 507 = .ok (.dup, 1) := by decide +kernel
theorem d_X12_doStep_508 : decode prog_14_method_59_code 508 = .ok (.getfield 185, 3) := by decide +kernel
theorem d_X12_doStep_511 : decode prog_14_method_59_code 511 = .ok (.aload_n 0, 1) := by decide +kernel
theorem d_X12_doStep_512 : decode prog_14_method_59_code 512 = .ok (.getfield 46, 3) := by decide +kernel
theorem d_X12_doStep_515 : decode prog_14_method_59_code 515 = .ok (.iload_n 3, 1) := by decide +kernel
theorem d_X12_doStep_516 : decode prog_14_method_59_code 516 = .ok (.iaload, 1) := by decide +kernel
theorem d_X12_doStep_517 : decode prog_14_method_59_code 517 = .ok (.iadd, 1) := by decide +kernel
theorem d_X12_doStep_518 : decode prog_14_method_59_code 518 = .ok (.putfield 185, 3) := by decide +kernel
theorem d_X12_doStep_521 : decode prog_14_method_59_code 521 = .ok (.iconst 0, 1) := by decide +kernel
theorem d_X12_doStep_522 : decode prog_14_method_59_code 522 = .ok (.istore 10, 2) := by decide +kernel
theorem d_X12_doStep_524 : decode prog_14_method_59_code 524 = .ok (.iload 10, 2) := by decide +kernel
theorem d_X12_doStep_526 : decode prog_14_method_59_code 526 = .ok (.bipush 10, 2) := by decide +kernel
theorem d_X12_doStep_528 : decode prog_14_method_59_code 528 = .ok (.if_icmp .ge 95, 3) := by decide +kernel
theorem d_X12_doStep_531 : decode prog_14_method_59_code 531 = .ok (.iload 10, 2) := by decide +kernel
theorem d_X12_doStep_533 : decode prog_14_method_59_code 533 = .ok (.iconst 5, 1) := by decide +kernel
theorem d_X12_doStep_534 : decode prog_14_method_59_code 534 = .ok (.irem, 1) := by decide +kernel
theorem d_X12_doStep_535 : decode prog_14_method_59_code 535 = .ok (.ifCond .le 27, 3) := by decide +kernel
theorem d_X12_doStep_538 : decode prog_14_method_59_code 538 = .ok (.iload 10, 2) := by decide +kernel
theorem d_X12_doStep_540 : decode prog_14_method_59_code 540 = .ok (.iconst 5, 1) := by decide +kernel
theorem d_X12_doStep_541 : decode prog_14_method_59_code 541 = .ok (.irem, 1) := by decide +kernel
theorem d_X12_doStep_542 : decode prog_14_method_59_code 542 = .ok (.iload 10, 2) := by decide +kernel
theorem d_X12_doStep_544 : decode prog_14_method_59_code 544 = .ok (.iconst 5, 1) := by decide +kernel
theorem d_X12_doStep_545 : decode prog_14_method_59_code 545 = .ok (.if_icmp .ge 8, 3) := by decide +kernel
theorem d_X12_doStep_548 : decode prog_14_method_59_code 548 = .ok (.iload 8, 2) := by decide +kernel
theorem d_X12_doStep_550 : decode prog_14_method_59_code 550 = .ok (.goto 5, 3) := by decide +kernel
theorem d_X12_doStep_553 : decode prog_14_method_59_code 553 = .ok (.iload 9, 2) := by decide +kernel
theorem d_X12_doStep_555 : decode prog_14_method_59_code 555 = .ok (.if_icmp .ge 7, 3) := by decide +kernel
theorem d_X12_doStep_558 : decode prog_14_method_59_code 558 = .ok (.iconst 1, 1) := by decide +kernel
theorem d_X12_doStep_559 : decode prog_14_method_59_code 559 = .ok (.goto 4, 3) := by decide +kernel
theorem d_X12_doStep_562 : decode prog_14_method_59_code 562 = .ok (.iconst 0, 1) := by decide +kernel
theorem d_X12_doStep_563 : decode prog_14_method_59_code 563 = .ok (.istore 11, 2) := by decide +kernel
theorem d_X12_doStep_565 : decode prog_14_method_59_code 565 = .ok (.iload 11, 2) := by decide +kernel
theorem d_X12_doStep_567 : decode prog_14_method_59_code 567 = .ok (.ifCond .eq 50, 3) := by decide +kernel
theorem d_X12_doStep_570 : decode prog_14_method_59_code 570 = .ok (.aload_n 0, 1) := by decide +kernel
theorem d_X12_doStep_571 : decode prog_14_method_59_code 571 = .ok (.getfield 140, 3) := by decide +kernel
theorem d_X12_doStep_574 : decode prog_14_method_59_code 574 = .ok (.iload 10, 2) := by decide +kernel
theorem d_X12_doStep_576 : decode prog_14_method_59_code 576 = .ok (.baload, 1) := by decide +kernel
theorem d_X12_doStep_577 : decode prog_14_method_59_code 577 = .ok (.ifCond .ne 40, 3) := by decide +kernel
theorem d_X12_doStep_580 : decode prog_14_method_59_code 580 = .ok (.aload_n 0, 1) := by decide +kernel
theorem d_X12_doStep_581 : decode prog_14_method_59_code 581 = .ok (.getfield 137, 3) := by decide +kernel
theorem d_X12_doStep_584 : decode prog_14_method_59_code 584 = .ok (.iload 10, 2) := by decide +kernel
theorem d_X12_doStep_586 : decode prog_14_method_59_code 586 = .ok (.iaload, 1) := by decide +kernel
theorem d_X12_doStep_587 : decode prog_14_method_59_code 587 = .ok (.sipush 10000, 3) := by decide +kernel
theorem d_X12_doStep_590 : decode prog_14_method_59_code 590 = .ok (.if_icmp .lt 27, 3) := by decide +kernel
theorem d_X12_doStep_593 : decode prog_14_method_59_code 593 = .ok (.aload_n 0, 1) := by decide +kernel
theorem d_X12_doStep_594 : decode prog_14_method_59_code 594 = .ok (.dup, 1) := by decide +kernel
theorem d_X12_doStep_595 : decode prog_14_method_59_code 595 = .ok (.getfield 185, 3) := by decide +kernel
theorem d_X12_doStep_598 : decode prog_14_method_59_code 598 = .ok (.aload_n 0, 1) := by decide +kernel
theorem d_X12_doStep_599 : decode prog_14_method_59_code 599 = .ok (.iload_n 3, 1) := by decide +kernel
theorem d_X12_doStep_600 : decode prog_14_method_59_code 600 = .ok (.iload 10, 2) := by decide +kernel
theorem d_X12_doStep_602 : decode prog_14_method_59_code 602 = .ok (.invokevirtual 424, 3) := by decide +kernel
theorem d_X12_doStep_605 : decode prog_14_method_59_code 605 = .ok (.ifCond .eq 7, 3) := by decide +kernel
theorem d_X12_doStep_608 : decode prog_14_method_59_code 608 = .ok (.iconst 1, 1) := by decide +kernel
theorem d_X12_doStep_609 : decode prog_14_method_59_code 609 = .ok (.goto 4, 3) := by decide +kernel
theorem d_X12_doStep_612 : decode prog_14_method_59_code 612 = .ok (.iconst 0, 1) := by decide +kernel
theorem d_X12_doStep_613 : decode prog_14_method_59_code 613 = .ok (.iadd, 1) := by decide +kernel
theorem d_X12_doStep_614 : decode prog_14_method_59_code 614 = .ok (.putfield 185, 3) := by decide +kernel
theorem d_X12_doStep_617 : decode prog_14_method_59_code 617 = .ok (.iinc 10 1, 3) := by decide +kernel
theorem d_X12_doStep_620 : decode prog_14_method_59_code 620 = .ok (.goto (-96), 3) := by decide +kernel
theorem d_X12_doStep_623 : decode prog_14_method_59_code 623 = .ok (.aload_n 0, 1) := by decide +kernel
theorem d_X12_doStep_624 : decode prog_14_method_59_code 624 = .ok (.dup, 1) := by decide +kernel
theorem d_X12_doStep_625 : decode prog_14_method_59_code 625 = .ok (.getfield 360, 3) := by decide +kernel
theorem d_X12_doStep_628 : decode prog_14_method_59_code 628 = .ok (.iconst 1, 1) := by decide +kernel
theorem d_X12_doStep_629 : decode prog_14_method_59_code 629 = .ok (.iadd, 1) := by decide +kernel
theorem d_X12_doStep_630 : decode prog_14_method_59_code 630 = .ok (.putfield 360, 3) := by decide +kernel
theorem d_X12_doStep_633 : decode prog_14_method_59_code 633 = .ok (.aload_n 0, 1) := by decide +kernel
theorem d_X12_doStep_634 : decode prog_14_method_59_code 634 = .ok (.invokevirtual 388, 3) := by decide +kernel
theorem d_X12_doStep_637 : decode prog_14_method_59_code 637 = .ok (.istore 10, 2) := by decide +kernel
theorem d_X12_doStep_639 : decode prog_14_method_59_code 639 = .ok (.aload_n 0, 1) := by decide +kernel
theorem d_X12_doStep_640 : decode prog_14_method_59_code 640 = .ok (.iload 10, 2) := by decide +kernel
theorem d_X12_doStep_642 : decode prog_14_method_59_code 642 = .ok (.aload_n 0, 1) := by decide +kernel
theorem d_X12_doStep_643 : decode prog_14_method_59_code 643 = .ok (.getfield 363, 3) := by decide +kernel
theorem d_X12_doStep_646 : decode prog_14_method_59_code 646 = .ok (.if_icmp .le 8, 3) := by decide +kernel
theorem d_X12_doStep_649 : decode prog_14_method_59_code 649 = .ok (.iload 10, 2) := by decide +kernel
theorem d_X12_doStep_651 : decode prog_14_method_59_code 651 = .ok (.goto 7, 3) := by decide +kernel
theorem d_X12_doStep_654 : decode prog_14_method_59_code 654 = .ok (.aload_n 0, 1) := by decide +kernel
theorem d_X12_doStep_655 : decode prog_14_method_59_code 655 = .ok (.getfield 363, 3) := by decide +kernel
theorem d_X12_doStep_658 : decode prog_14_method_59_code 658 = .ok (.putfield 363, 3) := by decide +kernel
theorem d_X12_doStep_661 : decode prog_14_method_59_code 661 = .ok (.iconst 1, 1) := by decide +kernel
theorem d_X12_doStep_662 : decode prog_14_method_59_code 662 = .ok (.ireturn, 1) := by decide +kernel
theorem d_X12_draw_0 : decode prog_14_method_66_code 0 = .ok (.aload_n 0, 1) := by decide +kernel
theorem d_X12_draw_1 : decode prog_14_method_66_code 1 = .ok (.iload_n 1, 1) := by decide +kernel
theorem d_X12_draw_2 : decode prog_14_method_66_code 2 = .ok (.i2l, 1) := by decide +kernel
theorem d_X12_draw_3 : decode prog_14_method_66_code 3 = .ok (.putfield 58, 3) := by decide +kernel
theorem d_X12_draw_6 : decode prog_14_method_66_code 6 = .ok (.iconst 1, 1) := by decide +kernel
theorem d_X12_draw_7 : decode prog_14_method_66_code 7 = .ok (.ireturn, 1) := by decide +kernel
theorem d_X12_empty_0 : decode prog_14_method_4_code 0 = .ok (.iconst 0, 1) := by decide +kernel
theorem d_X12_empty_1 : decode prog_14_method_4_code 1 = .ok (.istore_n 1, 1) := by decide +kernel
theorem d_X12_empty_2 : decode prog_14_method_4_code 2 = .ok (.iload_n 1, 1) := by decide +kernel
theorem d_X12_empty_3 : decode prog_14_method_4_code 3 = .ok (.sipush 400, 3) := by decide +kernel
theorem d_X12_empty_6 : decode prog_14_method_4_code 6 = .ok (.if_icmp .ge 16, 3) := by decide +kernel
theorem d_X12_empty_9 : decode prog_14_method_4_code 9 = .ok (.aload_n 0, 1) := by decide +kernel
theorem d_X12_empty_10 : decode prog_14_method_4_code 10 = .ok (.getfield 49, 3) := by decide +kernel
theorem d_X12_empty_13 : decode prog_14_method_4_code 13 = .ok (.iload_n 1, 1) := by decide +kernel
theorem d_X12_empty_14 : decode prog_14_method_4_code 14 = .ok (.iconst (-1), 1) := by decide +kernel
theorem d_X12_empty_15 : decode prog_14_method_4_code 15 = .ok (.iastore, 1) := by decide +kernel
theorem d_X12_empty_16 : decode prog_14_method_4_code 16 = .ok (.iinc 1 1, 3) := by decide +kernel
theorem d_X12_empty_19 : decode prog_14_method_4_code 19 = .ok (.goto (-17), 3) := by decide +kernel
theorem d_X12_empty_22 : decode prog_14_method_4_code 22 = .ok (.aload_n 0, 1) := by decide +kernel
theorem d_X12_empty_23 : decode prog_14_method_4_code 23 = .ok (.iconst 0, 1) := by decide +kernel
theorem d_X12_empty_24 : decode prog_14_method_4_code 24 = .ok (.putfield 182, 3) := by decide +kernel
theorem d_X12_empty_27 : decode prog_14_method_4_code 27 = .ok (.aload_n 0, 1) := by decide +kernel
theorem d_X12_empty_28 : decode prog_14_method_4_code 28 = .ok (.iconst 0, 1) := by decide +kernel
theorem d_X12_empty_29 : decode prog_14_method_4_code 29 = .ok (.putfield 185, 3) := by decide +kernel
theorem d_X12_empty_32 : decode prog_14_method_4_code 32 = .ok (.return_, 1) := by decide +kernel
theorem d_X12_end_0 : decode prog_14_method_54_code 0 = .ok (.iload_n 1, 1) := by decide +kernel
theorem d_X12_end_1 : decode prog_14_method_54_code 1 = .ok (.i2l, 1) := by decide +kernel
theorem d_X12_end_2 : decode prog_14_method_54_code 2 = .ok (.lconst 0, 1) := by decide +kernel
theorem d_X12_end_3 : decode prog_14_method_54_code 3 = .ok (.aload_n 0, 1) := by decide +kernel
theorem d_X12_end_4 : decode prog_14_method_54_code 4 = .ok (.getfield 182, 3) := by decide +kernel
theorem d_X12_end_7 : decode prog_14_method_54_code 7 = .ok (.iconst 1, 1) := by decide +kernel
theorem d_X12_end_8 : decode prog_14_method_54_code 8 = .ok (.isub, 1) := by decide +kernel
theorem d_X12_end_9 : decode prog_14_method_54_code 9 = .ok (.i2l, 1) := by decide +kernel
theorem d_X12_end_10 : decode prog_14_method_54_code 10 = .ok (.invokestatic 191, 3) := by decide +kernel
theorem d_X12_end_13 : decode prog_14_method_54_code 13 = .ok (.ifCond .eq 15, 3) := by decide +kernel
theorem d_X12_end_16 : decode prog_14_method_54_code 16 = .ok (.aload_n 0, 1) := by decide +kernel
theorem d_X12_end_17 : decode prog_14_method_54_code 17 = .ok (.getfield 55, 3) := by decide +kernel
theorem d_X12_end_20 : decode prog_14_method_54_code 20 = .ok (.iload_n 1, 1) := by decide +kernel
theorem d_X12_end_21 : decode prog_14_method_54_code 21 = .ok (.iaload, 1) := by decide +kernel
theorem d_X12_end_22 : decode prog_14_method_54_code 22 = .ok (.invokestatic 409, 3) := by decide +kernel
theorem d_X12_end_25 : decode prog_14_method_54_code 25 = .ok (.goto 6, 3) := by decide +kernel
theorem d_X12_end_28 : decode prog_14_method_54_code 28 = .ok (.sipush (-1001), 3) := by decide +kernel
theorem d_X12_end_31 : decode prog_14_method_54_code 31 = .ok (.ireturn, 1) := by decide +kernel
theorem d_X12_endTo_0 : decode prog_14_method_73_code 0 = .ok (.iload_n 1, 1) := by decide +kernel
theorem d_X12_endTo_1 : decode prog_14_method_73_code 1 = .ok (.ifCond .ne 12, 3) := by decide +kernel
theorem d_X12_endTo_4 : decode prog_14_method_73_code 4 = .ok (.aload_n 0, 1) := by decide +kernel
theorem d_X12_endTo_5 : decode prog_14_method_73_code 5 = .ok (.getfield 55, 3) := by decide +kernel
theorem d_X12_endTo_8 : decode prog_14_method_73_code 8 = .ok (.iload_n 3, 1) := by decide +kernel
theorem d_X12_endTo_9 : decode prog_14_method_73_code 9 = .ok (.iaload, 1) := by decide +kernel
theorem d_X12_endTo_10 : decode prog_14_method_73_code 10 = .ok (.goto 14, 3) := by decide +kernel
theorem d_X12_endTo_13 : decode prog_14_method_73_code 13 = .ok (.aload_n 0, 1) := by decide +kernel
theorem d_X12_endTo_14 : decode prog_14_method_73_code 14 = .ok (.getfield 155, 3) := by decide +kernel
theorem d_X12_endTo_17 : decode prog_14_method_73_code 17 = .ok (.bipush 8, 2) := by decide +kernel
theorem d_X12_endTo_19 : decode prog_14_method_73_code 19 = .ok (.iload_n 2, 1) := by decide +kernel
theorem d_X12_endTo_20 : decode prog_14_method_73_code 20 = .ok (.imul, 1) := by decide +kernel
theorem d_X12_endTo_21 : decode prog_14_method_73_code 21 = .ok (.iload_n 3, 1) := by decide +kernel
theorem d_X12_endTo_22 : decode prog_14_method_73_code 22 = .ok (.iadd, 1) := by decide +kernel
theorem d_X12_endTo_23 : decode prog_14_method_73_code 23 = .ok (.iaload, 1) := by decide +kernel
theorem d_X12_endTo_24 : decode prog_14_method_73_code 24 = .ok (.ireturn, 1) := by decide +kernel
theorem d_X12_fail_0 : decode prog_14_method_14_code 0 = .ok (.aload_n 0, 1) := by decide +kernel
theorem d_X12_fail_1 : decode prog_14_method_14_code 1 = .ok (.iload_n 1, 1) := by decide +kernel
theorem d_X12_fail_2 : decode prog_14_method_14_code 2 = .ok (.putfield 231, 3) := by decide +kernel
theorem d_X12_fail_5 : decode prog_14_method_14_code 5 = .ok (.aload_n 0, 1) := by decide +kernel
theorem d_X12_fail_6 : decode prog_14_method_14_code 6 = .ok (.iload_n 2, 1) := by decide +kernel
theorem d_X12_fail_7 : decode prog_14_method_14_code 7 = .ok (.putfield 13, 3) := by decide +kernel
theorem d_X12_fail_10 : decode prog_14_method_14_code 10 = .ok (.iconst 0, 1) := by decide +kernel
theorem d_X12_fail_11 : decode prog_14_method_14_code 11 = .ok (.ireturn, 1) := by decide +kernel
theorem d_X12_feed_0 : decode prog_14_method_5_code 0 = .ok (.aload_n 0, 1) := by decide +kernel
theorem d_X12_feed_1 : decode prog_14_method_5_code 1 = .ok (.getfield 188, 3) := by decide +kernel
theorem d_X12_feed_4 : decode prog_14_method_5_code 4 = .ok (.bipush 20, 2) := by decide +kernel
theorem d_X12_feed_6 : decode prog_14_method_5_code 6 = .ok (.iadd, 1) := by decide +kernel
theorem d_X12_feed_7 : decode prog_14_method_5_code 7 = .ok (.sipush 4000, 3) := by decide +kernel
theorem d_X12_feed_10 : decode prog_14_method_5_code 10 = .ok (.if_icmp .le 7, 3) := by decide +kernel
theorem d_X12_feed_13 : decode prog_14_method_5_code 13 = .ok (.sipush (-1004), 3) := by decide +kernel
theorem d_X12_feed_16 : decode prog_14_method_5_code 16 = .ok (.ireturn, 1) := by decide +kernel
theorem d_X12_feed_17 : decode prog_14_method_5_code 17 = .ok (.iconst 0, 1) := by decide +kernel
theorem d_X12_feed_18 : decode prog_14_method_5_code 18 = .ok (.istore 6, 2) := by decide +kernel
theorem d_X12_feed_20 : decode prog_14_method_5_code 20 = .ok (.iload 6, 2) := by decide +kernel
theorem d_X12_feed_22 : decode prog_14_method_5_code 22 = .ok (.bipush 20, 2) := by decide +kernel
theorem d_X12_feed_24 : decode prog_14_method_5_code 24 = .ok (.if_icmp .ge 93, 3) := by decide +kernel
theorem d_X12_feed_27 : decode prog_14_method_5_code 27 = .ok (.iload 6, 2) := by decide +kernel
theorem d_X12_feed_29 : decode prog_14_method_5_code 29 = .ok (.iconst 4, 1) := by decide +kernel
theorem d_X12_feed_30 : decode prog_14_method_5_code 30 = .ok (.if_icmp .ge 7, 3) := by decide +kernel
theorem d_X12_feed_33 : decode prog_14_method_5_code 33 = .ok (.iload_n 1, 1) := by decide +kernel
theorem d_X12_feed_34 : decode prog_14_method_5_code 34 = .ok (.goto 39, 3) := by decide +kernel
theorem d_X12_feed_37 : decode prog_14_method_5_code 37 = .ok (.iload 6, 2) := by decide +kernel
theorem d_X12_feed_39 : decode prog_14_method_5_code 39 = .ok (.bipush 8, 2) := by decide +kernel
theorem d_X12_feed_41 : decode prog_14_method_5_code 41 = .ok (.if_icmp .ge 7, 3) := by decide +kernel
theorem d_X12_feed_44 : decode prog_14_method_5_code 44 = .ok (.iload_n 2, 1) := by decide +kernel
theorem d_X12_feed_45 : decode prog_14_method_5_code 45 = .ok (.goto 28, 3) := by decide +kernel
theorem d_X12_feed_48 : decode prog_14_method_5_code 48 = .ok (.iload 6, 2) := by decide +kernel
theorem d_X12_feed_50 : decode prog_14_method_5_code 50 = .ok (.bipush 12, 2) := by decide +kernel
theorem d_X12_feed_52 : decode prog_14_method_5_code 52 = .ok (.if_icmp .ge 7, 3) := by decide +kernel
theorem d_X12_feed_55 : decode prog_14_method_5_code 55 = .ok (.iload_n 3, 1) := by decide +kernel
theorem d_X12_feed_56 : decode prog_14_method_5_code 56 = .ok (.goto 17, 3) := by decide +kernel
theorem d_X12_feed_59 : decode prog_14_method_5_code 59 = .ok (.iload 6, 2) := by decide +kernel
theorem d_X12_feed_61 : decode prog_14_method_5_code 61 = .ok (.bipush 16, 2) := by decide +kernel
theorem d_X12_feed_63 : decode prog_14_method_5_code 63 = .ok (.if_icmp .ge 8, 3) := by decide +kernel
theorem d_X12_feed_66 : decode prog_14_method_5_code 66 = .ok (.iload 4, 2) := by decide +kernel
theorem d_X12_feed_68 : decode prog_14_method_5_code 68 = .ok (.goto 5, 3) := by decide +kernel
theorem d_X12_feed_71 : decode prog_14_method_5_code 71 = .ok (.iload 5, 2) := by decide +kernel
theorem d_X12_feed_73 : decode prog_14_method_5_code 73 = .ok (.istore 7, 2) := by decide +kernel
theorem d_X12_feed_75 : decode prog_14_method_5_code 75 = .ok (.aload_n 0, 1) := by decide +kernel
theorem d_X12_feed_76 : decode prog_14_method_5_code 76 = .ok (.getfield 7, 3) := by decide +kernel
theorem d_X12_feed_79 : decode prog_14_method_5_code 79 = .ok (.aload_n 0, 1) := by decide +kernel
theorem d_X12_feed_80 : decode prog_14_method_5_code 80 = .ok (.getfield 188, 3) := by decide +kernel
theorem d_X12_feed_83 : decode prog_14_method_5_code 83 = .ok (.iload 7, 2) := by decide +kernel
theorem d_X12_feed_85 : decode prog_14_method_5_code 85 = .ok (.bipush 24, 2) := by decide +kernel
theorem d_X12_feed_87 : decode prog_14_method_5_code 87 = .ok (.bipush 8, 2) := by decide +kernel
theorem d_X12_feed_89 : decode prog_14_method_5_code 89 = .ok (.iload 6, 2) := by decide +kernel
theorem d_X12_feed_91 : decode prog_14_method_5_code 91 = .ok (.iconst 4, 1) := by decide +kernel
theorem d_X12_feed_92 : decode prog_14_method_5_code 92 = .ok (.irem, 1) := by decide +kernel
theorem d_X12_feed_93 : decode prog_14_method_5_code 93 = .ok (.imul, 1) := by decide +kernel
theorem d_X12_feed_94 : decode prog_14_method_5_code 94 = .ok (.isub, 1) := by decide +kernel
theorem d_X12_feed_95 : decode prog_14_method_5_code 95 = .ok (.ishr, 1) := by decide +kernel
theorem d_X12_feed_96 : decode prog_14_method_5_code 96 = .ok (.sipush 255, 3) := by decide +kernel
theorem d_X12_feed_99 : decode prog_14_method_5_code 99 = .ok (.iand, 1) := by decide +kernel
theorem d_X12_feed_100 : decode prog_14_method_5_code 100 = .ok (.iastore, 1) := by decide +kernel
theorem d_X12_feed_101 : decode prog_14_method_5_code 101 = .ok (.aload_n 0, 1) := by decide +kernel
theorem d_X12_feed_102 : decode prog_14_method_5_code 102 = .ok (.dup, 1) := by decide +kernel
theorem d_X12_feed_103 : decode prog_14_method_5_code 103 = .ok (.getfield 188, 3) := by decide +kernel
theorem d_X12_feed_106 : decode prog_14_method_5_code 106 = .ok (.iconst 1, 1) := by decide +kernel
theorem d_X12_feed_107 : decode prog_14_method_5_code 107 = .ok (.iadd, 1) := by decide +kernel
theorem d_X12_feed_108 : decode prog_14_method_5_code 108 = .ok (.putfield 188, 3) := by decide +kernel
theorem d_X12_feed_111 : decode prog_14_method_5_code 111 = .ok (.iinc 6 1, 3) := by decide +kernel
theorem d_X12_feed_114 : decode prog_14_method_5_code 114 = .ok (.goto (-94), 3) := by decide +kernel
theorem d_X12_feed_117 : decode prog_14_method_5_code 117 = .ok (.aload_n 0, 1) := by decide +kernel
theorem d_X12_feed_118 : decode prog_14_method_5_code 118 = .ok (.getfield 188, 3) := by decide +kernel
theorem d_X12_feed_121 : decode prog_14_method_5_code 121 = .ok (.ireturn, 1) := by decide +kernel
theorem d_X12_follow_0 : decode prog_14_method_26_code 0 = .ok (.iload_n 1, 1) := by decide +kernel
theorem d_X12_follow_1 : decode prog_14_method_26_code 1 = .ok (.istore_n 2, 1) := by decide +kernel
theorem d_X12_follow_2 : decode prog_14_method_26_code 2 = .ok (.iload_n 2, 1) := by decide +kernel
theorem d_X12_follow_3 : decode prog_14_method_26_code 3 = .ok (.sipush 1000, 3) := by decide +kernel
theorem d_X12_follow_6 : decode prog_14_method_26_code 6 = .ok (.if_icmp .lt 83, 3) := by decide +kernel
theorem d_X12_follow_9 : decode prog_14_method_26_code 9 = .ok (.iload_n 2, 1) := by decide +kernel
theorem d_X12_follow_10 : decode prog_14_method_26_code 10 = .ok (.sipush 1200, 3) := by decide +kernel
theorem d_X12_follow_13 : decode prog_14_method_26_code 13 = .ok (.if_icmp .ge 76, 3) := by decide +kernel
theorem d_X12_follow_16 : decode prog_14_method_26_code 16 = .ok (.aload_n 0, 1) := by decide +kernel
theorem d_X12_follow_17 : decode prog_14_method_26_code 17 = .ok (.getfield 122, 3) := by decide +kernel
theorem d_X12_follow_20 : decode prog_14_method_26_code 20 = .ok (.iload_n 2, 1) := by decide +kernel
theorem d_X12_follow_21 : decode prog_14_method_26_code 21 = .ok (.iconst 1, 1) := by decide +kernel
theorem d_X12_follow_22 : decode prog_14_method_26_code 22 = .ok (.bastore, 1) := by decide +kernel
theorem d_X12_follow_23 : decode prog_14_method_26_code 23 = .ok (.iload_n 2, 1) := by decide +kernel
theorem d_X12_follow_24 : decode prog_14_method_26_code 24 = .ok (.sipush 1000, 3) := by decide +kernel
theorem d_X12_follow_27 : decode prog_14_method_26_code 27 = .ok (.isub, 1) := by decide +kernel
theorem d_X12_follow_28 : decode prog_14_method_26_code 28 = .ok (.iconst 2, 1) := by decide +kernel
theorem d_X12_follow_29 : decode prog_14_method_26_code 29 = .ok (.idiv, 1) := by decide +kernel
theorem d_X12_follow_30 : decode prog_14_method_26_code 30 = .ok (.istore_n 3, 1) := by decide +kernel
theorem d_X12_follow_31 : decode prog_14_method_26_code 31 = .ok (.aload_n 0, 1) := by decide +kernel
theorem d_X12_follow_32 : decode prog_14_method_26_code 32 = .ok (.getfield 110, 3) := by decide +kernel
theorem d_X12_follow_35 : decode prog_14_method_26_code 35 = .ok (.iload_n 3, 1) := by decide +kernel
theorem d_X12_follow_36 : decode prog_14_method_26_code 36 = .ok (.iaload, 1) := by decide +kernel
theorem d_X12_follow_37 : decode prog_14_method_26_code 37 = .ok (.iconst 1, 1) := by decide +kernel
theorem d_X12_follow_38 : decode prog_14_method_26_code 38 = .ok (.if_icmp .ne 13, 3) := by decide +kernel
theorem d_X12_follow_41 : decode prog_14_method_26_code 41 = .ok (.bipush (-2), 2) := by decide +kernel
theorem d_X12_follow_43 : decode prog_14_method_26_code 43 = .ok (.aload_n 0, 1) := by decide +kernel
theorem d_X12_follow_44 : decode prog_14_method_26_code 44 = .ok (.getfield 125, 3) := by decide +kernel
theorem d_X12_follow_47 : decode prog_14_method_26_code 47 = .ok (.iload_n 3, 1) := by decide +kernel
theorem d_X12_follow_48 : decode prog_14_method_26_code 48 = .ok (.iaload, 1) := by decide +kernel
theorem d_X12_follow_49 : decode prog_14_method_26_code 49 = .ok (.isub, 1) := by decide +kernel
theorem d_X12_follow_50 : decode prog_14_method_26_code 50 = .ok (.ireturn, 1) := by decide +kernel
theorem d_X12_follow_51 : decode prog_14_method_26_code 51 = .ok (.sipush 1000, 3) := by decide +kernel
theorem d_X12_follow_54 : decode prog_14_method_26_code 54 = .ok (.iconst 2, 1) := by decide +kernel
theorem d_X12_follow_55 : decode prog_14_method_26_code 55 = .ok (.iload_n 3, 1) := by decide +kernel
theorem d_X12_follow_56 : decode prog_14_method_26_code 56 = .ok (.imul, 1) := by decide +kernel
theorem d_X12_follow_57 : decode prog_14_method_26_code 57 = .ok (.iadd, 1) := by decide +kernel
theorem d_X12_follow_58 : decode prog_14_method_26_code 58 = .ok (.iconst 1, 1) := by decide +kernel
theorem d_X12_follow_59 : decode prog_14_method_26_code 59 = .ok (.iadd, 1) := by decide +kernel
theorem d_X12_follow_60 : decode prog_14_method_26_code 60 = .ok (.iload_n 2, 1) := by decide +kernel
theorem d_X12_follow_61 : decode prog_14_method_26_code 61 = .ok (.sipush 1000, 3) := by decide +kernel
theorem d_X12_follow_64 : decode prog_14_method_26_code 64 = .ok (.isub, 1) := by decide +kernel
theorem d_X12_follow_65 : decode prog_14_method_26_code 65 = .ok (.iconst 2, 1) := by decide +kernel
theorem d_X12_follow_66 : decode prog_14_method_26_code 66 = .ok (.irem, 1) := by decide +kernel
theorem d_X12_follow_67 : decode prog_14_method_26_code 67 = .ok (.isub, 1) := by decide +kernel
theorem d_X12_follow_68 : decode prog_14_method_26_code 68 = .ok (.istore 4, 2) := by decide +kernel
theorem d_X12_follow_70 : decode prog_14_method_26_code 70 = .ok (.aload_n 0, 1) := by decide +kernel
theorem d_X12_follow_71 : decode prog_14_method_26_code 71 = .ok (.getfield 122, 3) := by decide +kernel
theorem d_X12_follow_74 : decode prog_14_method_26_code 74 = .ok (.iload 4, 2) := by decide +kernel
theorem d_X12_follow_76 : decode prog_14_method_26_code 76 = .ok (.iconst 1, 1) := by decide +kernel
theorem d_X12_follow_77 : decode prog_14_method_26_code 77 = .ok (.bastore, 1) := by decide +kernel
theorem d_X12_follow_78 : decode prog_14_method_26_code 78 = .ok (.aload_n 0, 1) := by decide +kernel
theorem d_X12_follow_79 : decode prog_14_method_26_code 79 = .ok (.getfield 104, 3) := by decide +kernel
theorem d_X12_follow_82 : decode prog_14_method_26_code 82 = .ok (.iload 4, 2) := by decide +kernel
theorem d_X12_follow_84 : decode prog_14_method_26_code 84 = .ok (.iaload, 1) := by decide +kernel
theorem d_X12_follow_85 : decode prog_14_method_26_code 85 = .ok (.istore_n 2, 1) := by decide +kernel
theorem d_X12_follow_86 : decode prog_14_method_26_code 86 = .ok (.goto (-84), 3) := by decide +kernel
theorem d_X12_follow_89 : decode prog_14_method_26_code 89 = .ok (.iload_n 2, 1) := by decide +kernel
theorem d_X12_follow_90 : decode prog_14_method_26_code 90 = .ok (.ireturn, 1) := by decide +kernel
theorem d_X12_plusOf_0 : decode prog_14_method_29_code 0 = .ok (.iload_n 1, 1) := by decide +kernel
theorem d_X12_plusOf_1 : decode prog_14_method_29_code 1 = .ok (.sipush 1000, 3) := by decide +kernel
theorem d_X12_plusOf_4 : decode prog_14_method_29_code 4 = .ok (.if_icmp .ge 25, 3) := by decide +kernel
theorem d_X12_plusOf_7 : decode prog_14_method_29_code 7 = .ok (.aload_n 0, 1) := by decide +kernel
theorem d_X12_plusOf_8 : decode prog_14_method_29_code 8 = .ok (.getfield 77, 3) := by decide +kernel
theorem d_X12_plusOf_11 : decode prog_14_method_29_code 11 = .ok (.iconst 5, 1) := by decide +kernel
theorem d_X12_plusOf_12 : decode prog_14_method_29_code 12 = .ok (.aload_n 0, 1) := by decide +kernel
theorem d_X12_plusOf_13 : decode prog_14_method_29_code 13 = .ok (.getfield 98, 3) := by decide +kernel
theorem d_X12_plusOf_16 : decode prog_14_method_29_code 16 = .ok (.iload_n 1, 1) := by decide +kernel
theorem d_X12_plusOf_17 : decode prog_14_method_29_code 17 = .ok (.iconst 5, 1) := by decide +kernel
theorem d_X12_plusOf_18 : decode prog_14_method_29_code 18 = .ok (.idiv, 1) := by decide +kernel
theorem d_X12_plusOf_19 : decode prog_14_method_29_code 19 = .ok (.iaload, 1) := by decide +kernel
theorem d_X12_plusOf_20 : decode prog_14_method_29_code 20 = .ok (.imul, 1) := by decide +kernel
theorem d_X12_plusOf_21 : decode prog_14_method_29_code 21 = .ok (.iload_n 1, 1) := by decide +kernel
theorem d_X12_plusOf_22 : decode prog_14_method_29_code 22 = .ok (.iconst 5, 1) := by decide +kernel
theorem d_X12_plusOf_23 : decode prog_14_method_29_code 23 = .ok (.irem, 1) := by decide +kernel
theorem d_X12_plusOf_24 : decode prog_14_method_29_code 24 = .ok (.iadd, 1) := by decide +kernel
theorem d_X12_plusOf_25 : decode prog_14_method_29_code 25 = .ok (.baload, 1) := by decide +kernel
theorem d_X12_plusOf_26 : decode prog_14_method_29_code 26 = .ok (.goto 38, 3) := by decide +kernel
theorem d_X12_plusOf_29 : decode prog_14_method_29_code 29 = .ok (.aload_n 0, 1) := by decide +kernel
theorem d_X12_plusOf_30 : decode prog_14_method_29_code 30 = .ok (.getfield 77, 3) := by decide +kernel
theorem d_X12_plusOf_33 : decode prog_14_method_29_code 33 = .ok (.iconst 5, 1) := by decide +kernel
theorem d_X12_plusOf_34 : decode prog_14_method_29_code 34 = .ok (.aload_n 0, 1) := by decide +kernel
theorem d_X12_plusOf_35 : decode prog_14_method_29_code 35 = .ok (.getfield 113, 3) := by decide +kernel
theorem d_X12_plusOf_38 : decode prog_14_method_29_code 38 = .ok (.iload_n 1, 1) := by decide +kernel
theorem d_X12_plusOf_39 : decode prog_14_method_29_code 39 = .ok (.sipush 1200, 3) := by decide +kernel
theorem d_X12_plusOf_42 : decode prog_14_method_29_code 42 = .ok (.isub, 1) := by decide +kernel
theorem d_X12_plusOf_43 : decode prog_14_method_29_code 43 = .ok (.iconst 5, 1) := by decide +kernel
theorem d_X12_plusOf_44 : decode prog_14_method_29_code 44 = .ok (.idiv, 1) := by decide +kernel
theorem d_X12_plusOf_45 : decode prog_14_method_29_code 45 = .ok (.iaload, 1) := by decide +kernel
theorem d_X12_plusOf_46 : decode prog_14_method_29_code 46 = .ok (.imul, 1) := by decide +kernel
theorem d_X12_plusOf_47 : decode prog_14_method_29_code 47 = .ok (.iload_n 1, 1) := by decide +kernel
theorem d_X12_plusOf_48 : decode prog_14_method_29_code 48 = .ok (.sipush 1200, 3) := by decide +kernel
theorem d_X12_plusOf_51 : decode prog_14_method_29_code 51 = .ok (.isub, 1) := by decide +kernel
theorem d_X12_plusOf_52 : decode prog_14_method_29_code 52 = .ok (.iconst 5, 1) := by decide +kernel
theorem d_X12_plusOf_53 : decode prog_14_method_29_code 53 = .ok (.irem, 1) := by decide +kernel
theorem d_X12_plusOf_54 : decode prog_14_method_29_code 54 = .ok (.iadd, 1) := by decide +kernel
theorem d_X12_plusOf_55 : decode prog_14_method_29_code 55 = .ok (.baload, 1) := by decide +kernel
theorem d_X12_plusOf_56 : decode prog_14_method_29_code 56 = .ok (.ifCond .ne 7, 3) := by decide +kernel
theorem d_X12_plusOf_59 : decode prog_14_method_29_code 59 = .ok (.iconst 1, 1) := by decide +kernel
theorem d_X12_plusOf_60 : decode prog_14_method_29_code 60 = .ok (.goto 4, 3) := by decide +kernel
theorem d_X12_plusOf_63 : decode prog_14_method_29_code 63 = .ok (.iconst 0, 1) := by decide +kernel
theorem d_X12_plusOf_64 : decode prog_14_method_29_code 64 = .ok (.ireturn, 1) := by decide +kernel
theorem d_X12_sortOf_0 : decode prog_14_method_28_code 0 = .ok (.iload_n 1, 1) := by decide +kernel
theorem d_X12_sortOf_1 : decode prog_14_method_28_code 1 = .ok (.sipush 1000, 3) := by decide +kernel
theorem d_X12_sortOf_4 : decode prog_14_method_28_code 4 = .ok (.if_icmp .ge 25, 3) := by decide +kernel
theorem d_X12_sortOf_7 : decode prog_14_method_28_code 7 = .ok (.aload_n 0, 1) := by decide +kernel
theorem d_X12_sortOf_8 : decode prog_14_method_28_code 8 = .ok (.getfield 74, 3) := by decide +kernel
theorem d_X12_sortOf_11 : decode prog_14_method_28_code 11 = .ok (.iconst 5, 1) := by decide +kernel
theorem d_X12_sortOf_12 : decode prog_14_method_28_code 12 = .ok (.aload_n 0, 1) := by decide +kernel
theorem d_X12_sortOf_13 : decode prog_14_method_28_code 13 = .ok (.getfield 98, 3) := by decide +kernel
theorem d_X12_sortOf_16 : decode prog_14_method_28_code 16 = .ok (.iload_n 1, 1) := by decide +kernel
theorem d_X12_sortOf_17 : decode prog_14_method_28_code 17 = .ok (.iconst 5, 1) := by decide +kernel
theorem d_X12_sortOf_18 : decode prog_14_method_28_code 18 = .ok (.idiv, 1) := by decide +kernel
theorem d_X12_sortOf_19 : decode prog_14_method_28_code 19 = .ok (.iaload, 1) := by decide +kernel
theorem d_X12_sortOf_20 : decode prog_14_method_28_code 20 = .ok (.imul, 1) := by decide +kernel
theorem d_X12_sortOf_21 : decode prog_14_method_28_code 21 = .ok (.iload_n 1, 1) := by decide +kernel
theorem d_X12_sortOf_22 : decode prog_14_method_28_code 22 = .ok (.iconst 5, 1) := by decide +kernel
theorem d_X12_sortOf_23 : decode prog_14_method_28_code 23 = .ok (.irem, 1) := by decide +kernel
theorem d_X12_sortOf_24 : decode prog_14_method_28_code 24 = .ok (.iadd, 1) := by decide +kernel
theorem d_X12_sortOf_25 : decode prog_14_method_28_code 25 = .ok (.iaload, 1) := by decide +kernel
theorem d_X12_sortOf_26 : decode prog_14_method_28_code 26 = .ok (.goto 30, 3) := by decide +kernel
theorem d_X12_sortOf_29 : decode prog_14_method_28_code 29 = .ok (.aload_n 0, 1) := by decide +kernel
theorem d_X12_sortOf_30 : decode prog_14_method_28_code 30 = .ok (.getfield 74, 3) := by decide +kernel
theorem d_X12_sortOf_33 : decode prog_14_method_28_code 33 = .ok (.iconst 5, 1) := by decide +kernel
theorem d_X12_sortOf_34 : decode prog_14_method_28_code 34 = .ok (.aload_n 0, 1) := by decide +kernel
theorem d_X12_sortOf_35 : decode prog_14_method_28_code 35 = .ok (.getfield 113, 3) := by decide +kernel
theorem d_X12_sortOf_38 : decode prog_14_method_28_code 38 = .ok (.iload_n 1, 1) := by decide +kernel
theorem d_X12_sortOf_39 : decode prog_14_method_28_code 39 = .ok (.sipush 1200, 3) := by decide +kernel
theorem d_X12_sortOf_42 : decode prog_14_method_28_code 42 = .ok (.isub, 1) := by decide +kernel
theorem d_X12_sortOf_43 : decode prog_14_method_28_code 43 = .ok (.iconst 5, 1) := by decide +kernel
theorem d_X12_sortOf_44 : decode prog_14_method_28_code 44 = .ok (.idiv, 1) := by decide +kernel
theorem d_X12_sortOf_45 : decode prog_14_method_28_code 45 = .ok (.iaload, 1) := by decide +kernel
theorem d_X12_sortOf_46 : decode prog_14_method_28_code 46 = .ok (.imul, 1) := by decide +kernel
theorem d_X12_sortOf_47 : decode prog_14_method_28_code 47 = .ok (.iload_n 1, 1) := by decide +kernel
theorem d_X12_sortOf_48 : decode prog_14_method_28_code 48 = .ok (.sipush 1200, 3) := by decide +kernel
theorem d_X12_sortOf_51 : decode prog_14_method_28_code 51 = .ok (.isub, 1) := by decide +kernel
theorem d_X12_sortOf_52 : decode prog_14_method_28_code 52 = .ok (.iconst 5, 1) := by decide +kernel
theorem d_X12_sortOf_53 : decode prog_14_method_28_code 53 = .ok (.irem, 1) := by decide +kernel
theorem d_X12_sortOf_54 : decode prog_14_method_28_code 54 = .ok (.iadd, 1) := by decide +kernel
theorem d_X12_sortOf_55 : decode prog_14_method_28_code 55 = .ok (.iaload, 1) := by decide +kernel
theorem d_X12_sortOf_56 : decode prog_14_method_28_code 56 = .ok (.ireturn, 1) := by decide +kernel
theorem d_X12_fits_0 : decode prog_14_method_30_code 0 = .ok (.aload_n 0, 1) := by decide +kernel
theorem d_X12_fits_1 : decode prog_14_method_30_code 1 = .ok (.aload_n 0, 1) := by decide +kernel
theorem d_X12_fits_2 : decode prog_14_method_30_code 2 = .ok (.getfield 104, 3) := by decide +kernel
theorem d_X12_fits_5 : decode prog_14_method_30_code 5 = .ok (.iload_n 1, 1) := by decide +kernel
theorem d_X12_fits_6 : decode prog_14_method_30_code 6 = .ok (.iaload, 1) := by decide +kernel
theorem d_X12_fits_7 : decode prog_14_method_30_code 7 = .ok (.invokevirtual 284, 3) := by decide +kernel
theorem d_X12_fits_10 : decode prog_14_method_30_code 10 = .ok (.istore_n 2, 1) := by decide +kernel
theorem d_X12_fits_11 : decode prog_14_method_30_code 11 = .ok (.iload_n 2, 1) := by decide +kernel
theorem d_X12_fits_12 : decode prog_14_method_30_code 12 = .ok (.ifCond .lt 29, 3) := by decide +kernel
theorem d_X12_fits_15 : decode prog_14_method_30_code 15 = .ok (.aload_n 0, 1) := by decide +kernel
theorem d_X12_fits_16 : decode prog_14_method_30_code 16 = .ok (.iload_n 2, 1) := by decide +kernel
theorem d_X12_fits_17 : decode prog_14_method_30_code 17 = .ok (.invokevirtual 287, 3) := by decide +kernel
theorem d_X12_fits_20 : decode prog_14_method_30_code 20 = .ok (.aload_n 0, 1) := by decide +kernel
theorem d_X12_fits_21 : decode prog_14_method_30_code 21 = .ok (.iload_n 1, 1) := by decide +kernel
theorem d_X12_fits_22 : decode prog_14_method_30_code 22 = .ok (.invokevirtual 287, 3) := by decide +kernel
theorem d_X12_fits_25 : decode prog_14_method_30_code 25 = .ok (.if_icmp .ne 20, 3) := by decide +kernel
theorem d_X12_fits_28 : decode prog_14_method_30_code 28 = .ok (.aload_n 0, 1) := by decide +kernel
theorem d_X12_fits_29 : decode prog_14_method_30_code 29 = .ok (.iload_n 2, 1) := by decide +kernel
theorem d_X12_fits_30 : decode prog_14_method_30_code 30 = .ok (.invokevirtual 290, 3) := by decide +kernel
theorem d_X12_fits_33 : decode prog_14_method_30_code 33 = .ok (.aload_n 0, 1) := by decide +kernel
theorem d_X12_fits_34 : decode prog_14_method_30_code 34 = .ok (.iload_n 1, 1) := by decide +kernel
theorem d_X12_fits_35 : decode prog_14_method_30_code 35 = .ok (.invokevirtual 290, 3) := by decide +kernel
theorem d_X12_fits_38 : decode prog_14_method_30_code 38 = .ok (.if_icmp .eq 7, 3) := by decide +kernel
theorem d_X12_fits_41 : decode prog_14_method_30_code 41 = .ok (.iconst 1, 1) := by decide +kernel
theorem d_X12_fits_42 : decode prog_14_method_30_code 42 = .ok (.goto 4, 3) := by decide +kernel
theorem d_X12_fits_45 : decode prog_14_method_30_code 45 = .ok (.iconst 0, 1) := by decide +kernel
theorem d_X12_fits_46 : decode prog_14_method_30_code 46 = .ok (.ireturn, 1) := by decide +kernel
theorem d_X12_fitAll_0 : decode prog_14_method_31_code 0 = .ok (.iconst 0, 1) := by decide +kernel
theorem d_X12_fitAll_1 : decode prog_14_method_31_code 1 = .ok (.istore_n 1, 1) := by decide +kernel
theorem d_X12_fitAll_2 : decode prog_14_method_31_code 2 = .ok (.iload_n 1, 1) := by decide +kernel
theorem d_X12_fitAll_3 : decode prog_14_method_31_code 3 = .ok (.sipush 1211, 3) := by decide +kernel
theorem d_X12_fitAll_6 : decode prog_14_method_31_code 6 = .ok (.if_icmp .ge 16, 3) := by decide +kernel
theorem d_X12_fitAll_9 : decode prog_14_method_31_code 9 = .ok (.aload_n 0, 1) := by decide +kernel
theorem d_X12_fitAll_10 : decode prog_14_method_31_code 10 = .ok (.getfield 122, 3) := by decide +kernel
theorem d_X12_fitAll_13 : decode prog_14_method_31_code 13 = .ok (.iload_n 1, 1) := by decide +kernel
theorem d_X12_fitAll_14 : decode prog_14_method_31_code 14 = .ok (.iconst 0, 1) := by decide +kernel
theorem d_X12_fitAll_15 : decode prog_14_method_31_code 15 = .ok (.bastore, 1) := by decide +kernel
theorem d_X12_fitAll_16 : decode prog_14_method_31_code 16 = .ok (.iinc 1 1, 3) := by decide +kernel
theorem d_X12_fitAll_19 : decode prog_14_method_31_code 19 = .ok (.goto (-17), 3) := by decide +kernel
theorem d_X12_fitAll_22 : decode prog_14_method_31_code 22 = .ok (.iconst 1, 1) := by decide +kernel
theorem d_X12_fitAll_23 : decode prog_14_method_31_code 23 = .ok (.istore_n 1, 1) := by decide +kernel
theorem d_X12_fitAll_24 : decode prog_14_method_31_code 24 = .ok (.iconst 0, 1) := by decide +kernel
theorem d_X12_fitAll_25 : decode prog_14_method_31_code 25 = .ok (.istore_n 2, 1) := by decide +kernel
theorem d_X12_fitAll_26 : decode prog_14_method_31_code 26 = .ok (.iload_n 2, 1) := by decide +kernel
theorem d_X12_fitAll_27 : decode prog_14_method_31_code 27 = .ok (.aload_n 0, 1) := by decide +kernel
theorem d_X12_fitAll_28 : decode prog_14_method_31_code 28 = .ok (.getfield 261, 3) := by decide +kernel
theorem d_X12_fitAll_31 : decode prog_14_method_31_code 31 = .ok (.if_icmp .ge 54, 3) := by decide +kernel
theorem d_X12_fitAll_34 : decode prog_14_method_31_code 34 = .ok (.iconst 0, 1) := by decide +kernel
theorem d_X12_fitAll_35 : decode prog_14_method_31_code 35 = .ok (.istore_n 3, 1) := by decide +kernel
theorem d_X12_fitAll_36 : decode prog_14_method_31_code 36 = .ok (.iload_n 3, 1) := by decide +kernel
theorem d_X12_fitAll_37 : decode prog_14_method_31_code 37 = .ok (.aload_n 0, 1) := by decide +kernel
theorem d_X12_fitAll_38 : decode prog_14_method_31_code 38 = .ok (.getfield 71, 3) := by decide +kernel
theorem d_X12_fitAll_41 : decode prog_14_method_31_code 41 = .ok (.aload_n 0, 1) := by decide +kernel
theorem d_X12_fitAll_42 : decode prog_14_method_31_code 42 = .ok (.getfield 98, 3) := by decide +kernel
theorem d_X12_fitAll_45 : decode prog_14_method_31_code 45 = .ok (.iload_n 2, 1) := by decide +kernel
theorem d_X12_fitAll_46 : decode prog_14_method_31_code 46 = .ok (.iaload, 1) := by decide +kernel
theorem d_X12_fitAll_47 : decode prog_14_method_31_code 47 = .ok (.iaload, 1) := by decide +kernel
theorem d_X12_fitAll_48 : decode prog_14_method_31_code 48 = .ok (.if_icmp .ge 31, 3) := by decide +kernel
theorem d_X12_fitAll_51 : decode prog_14_method_31_code 51 = .ok (.aload_n 0, 1) := by decide +kernel
theorem d_X12_fitAll_52 : decode prog_14_method_31_code 52 = .ok (.iconst 5, 1) := by decide +kernel
theorem d_X12_fitAll_53 : decode prog_14_method_31_code 53 = .ok (.iload_n 2, 1) := by decide +kernel
theorem d_X12_fitAll_54 : decode prog_14_method_31_code 54 = .ok (.imul, 1) := by decide +kernel
theorem d_X12_fitAll_55 : decode prog_14_method_31_code 55 = .ok (.iload_n 3, 1) := by decide +kernel
theorem d_X12_fitAll_56 : decode prog_14_method_31_code 56 = .ok (.iadd, 1) := by decide +kernel
theorem d_X12_fitAll_57 : decode prog_14_method_31_code 57 = .ok (.invokevirtual 293, 3) := by decide +kernel
theorem d_X12_fitAll_60 : decode prog_14_method_31_code 60 = .ok (.ifCond .eq 11, 3) := by decide +kernel
theorem d_X12_fitAll_63 : decode prog_14_method_31_code 63 = .ok (.iload_n 1, 1) := by decide +kernel
theorem d_X12_fitAll_64 : decode prog_14_method_31_code 64 = .ok (.ifCond .eq 7, 3) := by decide +kernel
theorem d_X12_fitAll_67 : decode prog_14_method_31_code 67 = .ok (.iconst 1, 1) := by decide +kernel
theorem d_X12_fitAll_68 : decode prog_14_method_31_code 68 = .ok (.goto 4, 3) := by decide +kernel
theorem d_X12_fitAll_71 : decode prog_14_method_31_code 71 = .ok (.iconst 0, 1) := by decide +kernel
theorem d_X12_fitAll_72 : decode prog_14_method_31_code 72 = .ok (.istore_n 1, 1) := by decide +kernel
theorem d_X12_fitAll_73 : decode prog_14_method_31_code 73 = .ok (.iinc 3 1, 3) := by decide +kernel
theorem d_X12_fitAll_76 : decode prog_14_method_31_code 76 = .ok (.goto (-40), 3) := by decide +kernel
theorem d_X12_fitAll_79 : decode prog_14_method_31_code 79 = .ok (.iinc 2 1, 3) := by decide +kernel
theorem d_X12_fitAll_82 : decode prog_14_method_31_code 82 = .ok (.goto (-56), 3) := by decide +kernel
theorem d_X12_fitAll_85 : decode prog_14_method_31_code 85 = .ok (.iload_n 1, 1) := by decide +kernel
theorem d_X12_fitAll_86 : decode prog_14_method_31_code 86 = .ok (.ireturn, 1) := by decide +kernel
theorem d_X12_fitSides_0 : decode prog_14_method_32_code 0 = .ok (.iconst 1, 1) := by decide +kernel
theorem d_X12_fitSides_1 : decode prog_14_method_32_code 1 = .ok (.istore_n 1, 1) := by decide +kernel
theorem d_X12_fitSides_2 : decode prog_14_method_32_code 2 = .ok (.iconst 0, 1) := by decide +kernel
theorem d_X12_fitSides_3 : decode prog_14_method_32_code 3 = .ok (.istore_n 2, 1) := by decide +kernel
theorem d_X12_fitSides_4 : decode prog_14_method_32_code 4 = .ok (.iload_n 2, 1) := by decide +kernel
theorem d_X12_fitSides_5 : decode prog_14_method_32_code 5 = .ok (.iconst 2, 1) := by decide +kernel
theorem d_X12_fitSides_6 : decode prog_14_method_32_code 6 = .ok (.if_icmp .ge 58, 3) := by decide +kernel
theorem d_X12_fitSides_9 : decode prog_14_method_32_code 9 = .ok (.iconst 1, 1) := by decide +kernel
theorem d_X12_fitSides_10 : decode prog_14_method_32_code 10 = .ok (.istore_n 3, 1) := by decide +kernel
theorem d_X12_fitSides_11 : decode prog_14_method_32_code 11 = .ok (.iload_n 3, 1) := by decide +kernel
theorem d_X12_fitSides_12 : decode prog_14_method_32_code 12 = .ok (.aload_n 0, 1) := by decide +kernel
theorem d_X12_fitSides_13 : decode prog_14_method_32_code 13 = .ok (.getfield 71, 3) := by decide +kernel
theorem d_X12_fitSides_16 : decode prog_14_method_32_code 16 = .ok (.aload_n 0, 1) := by decide +kernel
theorem d_X12_fitSides_17 : decode prog_14_method_32_code 17 = .ok (.getfield 113, 3) := by decide +kernel
theorem d_X12_fitSides_20 : decode prog_14_method_32_code 20 = .ok (.iload_n 2, 1) := by decide +kernel
theorem d_X12_fitSides_21 : decode prog_14_method_32_code 21 = .ok (.iaload, 1) := by decide +kernel
theorem d_X12_fitSides_22 : decode prog_14_method_32_code 22 = .ok (.iaload, 1) := by decide +kernel
theorem d_X12_fitSides_23 : decode prog_14_method_32_code 23 = .ok (.if_icmp .ge 35, 3) := by decide +kernel
theorem d_X12_fitSides_26 : decode prog_14_method_32_code 26 = .ok (.aload_n 0, 1) := by decide +kernel
theorem d_X12_fitSides_27 : decode prog_14_method_32_code 27 = .ok (.sipush 1200, 3) := by decide +kernel
theorem d_X12_fitSides_30 : decode prog_14_method_32_code 30 = .ok (.iconst 5, 1) := by decide +kernel
theorem d_X12_fitSides_31 : decode prog_14_method_32_code 31 = .ok (.iload_n 2, 1) := by decide +kernel
theorem d_X12_fitSides_32 : decode prog_14_method_32_code 32 = .ok (.imul, 1) := by decide +kernel
theorem d_X12_fitSides_33 : decode prog_14_method_32_code 33 = .ok (.iadd, 1) := by decide +kernel
theorem d_X12_fitSides_34 : decode prog_14_method_32_code 34 = .ok (.iload_n 3, 1) := by decide +kernel
theorem d_X12_fitSides_35 : decode prog_14_method_32_code 35 = .ok (.iadd, 1) := by decide +kernel
theorem d_X12_fitSides_36 : decode prog_14_method_32_code 36 = .ok (.invokevirtual 293, 3) := by decide +kernel
theorem d_X12_fitSides_39 : decode prog_14_method_32_code 39 = .ok (.ifCond .eq 11, 3) := by decide +kernel
theorem d_X12_fitSides_42 : decode prog_14_method_32_code 42 = .ok (.iload_n 1, 1) := by decide +kernel
theorem d_X12_fitSides_43 : decode prog_14_method_32_code 43 = .ok (.ifCond .eq 7, 3) := by decide +kernel
theorem d_X12_fitSides_46 : decode prog_14_method_32_code 46 = .ok (.iconst 1, 1) := by decide +kernel
theorem d_X12_fitSides_47 : decode prog_14_method_32_code 47 = .ok (.goto 4, 3) := by decide +kernel
theorem d_X12_fitSides_50 : decode prog_14_method_32_code 50 = .ok (.iconst 0, 1) := by decide +kernel
theorem d_X12_fitSides_51 : decode prog_14_method_32_code 51 = .ok (.istore_n 1, 1) := by decide +kernel
theorem d_X12_fitSides_52 : decode prog_14_method_32_code 52 = .ok (.iinc 3 1, 3) := by decide +kernel
theorem d_X12_fitSides_55 : decode prog_14_method_32_code 55 = .ok (.goto (-44), 3) := by decide +kernel
theorem d_X12_fitSides_58 : decode prog_14_method_32_code 58 = .ok (.iinc 2 1, 3) := by decide +kernel
theorem d_X12_fitSides_61 : decode prog_14_method_32_code 61 = .ok (.goto (-57), 3) := by decide +kernel
theorem d_X12_fitSides_64 : decode prog_14_method_32_code 64 = .ok (.iload_n 1, 1) := by decide +kernel
theorem d_X12_fitSides_65 : decode prog_14_method_32_code 65 = .ok (.ireturn, 1) := by decide +kernel
theorem d_X12_isFigure_0 : decode prog_14_method_10_code 0 = .ok (.iload_n 0, 1) := by decide +kernel
theorem d_X12_isFigure_1 : decode prog_14_method_10_code 1 = .ok (.bipush 48, 2) := by decide +kernel
theorem d_X12_isFigure_3 : decode prog_14_method_10_code 3 = .ok (.if_icmp .lt 13, 3) := by decide +kernel
theorem d_X12_isFigure_6 : decode prog_14_method_10_code 6 = .ok (.iload_n 0, 1) := by decide +kernel
theorem d_X12_isFigure_7 : decode prog_14_method_10_code 7 = .ok (.bipush 57, 2) := by decide +kernel
theorem d_X12_isFigure_9 : decode prog_14_method_10_code 9 = .ok (.if_icmp .gt 7, 3) := by decide +kernel
theorem d_X12_isFigure_12 : decode prog_14_method_10_code 12 = .ok (.iconst 1, 1) := by decide +kernel
theorem d_X12_isFigure_13 : decode prog_14_method_10_code 13 = .ok (.goto 4, 3) := by decide +kernel
theorem d_X12_isFigure_16 : decode prog_14_method_10_code 16 = .ok (.iconst 0, 1) := by decide +kernel
theorem d_X12_isFigure_17 : decode prog_14_method_10_code 17 = .ok (.ireturn, 1) := by decide +kernel
theorem d_X12_isGreat_0 : decode prog_14_method_9_code 0 = .ok (.iload_n 0, 1) := by decide +kernel
theorem d_X12_isGreat_1 : decode prog_14_method_9_code 1 = .ok (.bipush 65, 2) := by decide +kernel
theorem d_X12_isGreat_3 : decode prog_14_method_9_code 3 = .ok (.if_icmp .lt 13, 3) := by decide +kernel
theorem d_X12_isGreat_6 : decode prog_14_method_9_code 6 = .ok (.iload_n 0, 1) := by decide +kernel
theorem d_X12_isGreat_7 : decode prog_14_method_9_code 7 = .ok (.bipush 90, 2) := by decide +kernel
theorem d_X12_isGreat_9 : decode prog_14_method_9_code 9 = .ok (.if_icmp .gt 7, 3) := by decide +kernel
theorem d_X12_isGreat_12 : decode prog_14_method_9_code 12 = .ok (.iconst 1, 1) := by decide +kernel
theorem d_X12_isGreat_13 : decode prog_14_method_9_code 13 = .ok (.goto 4, 3) := by decide +kernel
theorem d_X12_isGreat_16 : decode prog_14_method_9_code 16 = .ok (.iconst 0, 1) := by decide +kernel
theorem d_X12_isGreat_17 : decode prog_14_method_9_code 17 = .ok (.ireturn, 1) := by decide +kernel
theorem d_X12_isSign_0 : decode prog_14_method_13_code 0 = .ok (.aload_n 0, 1) := by decide +kernel
theorem d_X12_isSign_1 : decode prog_14_method_13_code 1 = .ok (.getfield 205, 3) := by decide +kernel
theorem d_X12_isSign_4 : decode prog_14_method_13_code 4 = .ok (.iconst 3, 1) := by decide +kernel
theorem d_X12_isSign_5 : decode prog_14_method_13_code 5 = .ok (.if_icmp .ne 15, 3) := by decide +kernel
theorem d_X12_isSign_8 : decode prog_14_method_13_code 8 = .ok (.aload_n 0, 1) := by decide +kernel
theorem d_X12_isSign_9 : decode prog_14_method_13_code 9 = .ok (.getfield 222, 3) := by decide +kernel
theorem d_X12_isSign_12 : decode prog_14_method_13_code 12 = .ok (.iload_n 1, 1) := by decide +kernel
theorem d_X12_isSign_13 : decode prog_14_method_13_code 13 = .ok (.if_icmp .ne 7, 3) := by decide +kernel
theorem d_X12_isSign_16 : decode prog_14_method_13_code 16 = .ok (.iconst 1, 1) := by decide +kernel
theorem d_X12_isSign_17 : decode prog_14_method_13_code 17 = .ok (.goto 4, 3) := by decide +kernel
theorem d_X12_isSign_20 : decode prog_14_method_13_code 20 = .ok (.iconst 0, 1) := by decide +kernel
theorem d_X12_isSign_21 : decode prog_14_method_13_code 21 = .ok (.ireturn, 1) := by decide +kernel
theorem d_X12_isSmall_0 : decode prog_14_method_8_code 0 = .ok (.iload_n 0, 1) := by decide +kernel
theorem d_X12_isSmall_1 : decode prog_14_method_8_code 1 = .ok (.bipush 97, 2) := by decide +kernel
theorem d_X12_isSmall_3 : decode prog_14_method_8_code 3 = .ok (.if_icmp .lt 13, 3) := by decide +kernel
theorem d_X12_isSmall_6 : decode prog_14_method_8_code 6 = .ok (.iload_n 0, 1) := by decide +kernel
theorem d_X12_isSmall_7 : decode prog_14_method_8_code 7 = .ok (.bipush 122, 2) := by decide +kernel
theorem d_X12_isSmall_9 : decode prog_14_method_8_code 9 = .ok (.if_icmp .gt 7, 3) := by decide +kernel
theorem d_X12_isSmall_12 : decode prog_14_method_8_code 12 = .ok (.iconst 1, 1) := by decide +kernel
theorem d_X12_isSmall_13 : decode prog_14_method_8_code 13 = .ok (.goto 4, 3) := by decide +kernel
theorem d_X12_isSmall_16 : decode prog_14_method_8_code 16 = .ok (.iconst 0, 1) := by decide +kernel
theorem d_X12_isSmall_17 : decode prog_14_method_8_code 17 = .ok (.ireturn, 1) := by decide +kernel
theorem d_X12_join_0 : decode prog_14_method_21_code 0 = .ok (.aload_n 0, 1) := by decide +kernel
theorem d_X12_join_1 : decode prog_14_method_21_code 1 = .ok (.getfield 104, 3) := by decide +kernel
theorem d_X12_join_4 : decode prog_14_method_21_code 4 = .ok (.iload_n 1, 1) := by decide +kernel
theorem d_X12_join_5 : decode prog_14_method_21_code 5 = .ok (.iload_n 2, 1) := by decide +kernel
theorem d_X12_join_6 : decode prog_14_method_21_code 6 = .ok (.iastore, 1) := by decide +kernel
theorem d_X12_join_7 : decode prog_14_method_21_code 7 = .ok (.aload_n 0, 1) := by decide +kernel
theorem d_X12_join_8 : decode prog_14_method_21_code 8 = .ok (.getfield 104, 3) := by decide +kernel
theorem d_X12_join_11 : decode prog_14_method_21_code 11 = .ok (.iload_n 2, 1) := by decide +kernel
theorem d_X12_join_12 : decode prog_14_method_21_code 12 = .ok (.iload_n 1, 1) := by decide +kernel
theorem d_X12_join_13 : decode prog_14_method_21_code 13 = .ok (.iastore, 1) := by decide +kernel
theorem d_X12_join_14 : decode prog_14_method_21_code 14 = .ok (.return_, 1) := by decide +kernel
theorem d_X12_keep_0 : decode prog_14_method_69_code 0 = .ok (.iload_n 1, 1) := by decide +kernel
theorem d_X12_keep_1 : decode prog_14_method_69_code 1 = .ok (.invokestatic 447, 3) := by decide +kernel
theorem d_X12_keep_4 : decode prog_14_method_69_code 4 = .ok (.ifCond .ne 7, 3) := by decide +kernel
theorem d_X12_keep_7 : decode prog_14_method_69_code 7 = .ok (.sipush (-1001), 3) := by decide +kernel
theorem d_X12_keep_10 : decode prog_14_method_69_code 10 = .ok (.ireturn, 1) := by decide +kernel
theorem d_X12_keep_11 : decode prog_14_method_69_code 11 = .ok (.iconst 0, 1) := by decide +kernel
theorem d_X12_keep_12 : decode prog_14_method_69_code 12 = .ok (.istore_n 2, 1) := by decide +kernel
theorem d_X12_keep_13 : decode prog_14_method_69_code 13 = .ok (.iload_n 2, 1) := by decide +kernel
theorem d_X12_keep_14 : decode prog_14_method_69_code 14 = .ok (.sipush 400, 3) := by decide +kernel
theorem d_X12_keep_17 : decode prog_14_method_69_code 17 = .ok (.if_icmp .ge 27, 3) := by decide +kernel
theorem d_X12_keep_20 : decode prog_14_method_69_code 20 = .ok (.aload_n 0, 1) := by decide +kernel
theorem d_X12_keep_21 : decode prog_14_method_69_code 21 = .ok (.getfield 149, 3) := by decide +kernel
theorem d_X12_keep_24 : decode prog_14_method_69_code 24 = .ok (.sipush 400, 3) := by decide +kernel
theorem d_X12_keep_27 : decode prog_14_method_69_code 27 = .ok (.iload_n 1, 1) := by decide +kernel
theorem d_X12_keep_28 : decode prog_14_method_69_code 28 = .ok (.imul, 1) := by decide +kernel
theorem d_X12_keep_29 : decode prog_14_method_69_code 29 = .ok (.iload_n 2, 1) := by decide +kernel
theorem d_X12_keep_30 : decode prog_14_method_69_code 30 = .ok (.iadd, 1) := by decide +kernel
theorem d_X12_keep_31 : decode prog_14_method_69_code 31 = .ok (.aload_n 0, 1) := by decide +kernel
theorem d_X12_keep_32 : decode prog_14_method_69_code 32 = .ok (.getfield 49, 3) := by decide +kernel
theorem d_X12_keep_35 : decode prog_14_method_69_code 35 = .ok (.iload_n 2, 1) := by decide +kernel
theorem d_X12_keep_36 : decode prog_14_method_69_code 36 = .ok (.iaload, 1) := by decide +kernel
theorem d_X12_keep_37 : decode prog_14_method_69_code 37 = .ok (.iastore, 1) := by decide +kernel
theorem d_X12_keep_38 : decode prog_14_method_69_code 38 = .ok (.iinc 2 1, 3) := by decide +kernel
theorem d_X12_keep_41 : decode prog_14_method_69_code 41 = .ok (.goto (-28), 3) := by decide +kernel
theorem d_X12_keep_44 : decode prog_14_method_69_code 44 = .ok (.iconst 0, 1) := by decide +kernel
theorem d_X12_keep_45 : decode prog_14_method_69_code 45 = .ok (.istore_n 2, 1) := by decide +kernel
theorem d_X12_keep_46 : decode prog_14_method_69_code 46 = .ok (.iload_n 2, 1) := by decide +kernel
theorem d_X12_keep_47 : decode prog_14_method_69_code 47 = .ok (.sipush 2000, 3) := by decide +kernel
theorem d_X12_keep_50 : decode prog_14_method_69_code 50 = .ok (.if_icmp .ge 27, 3) := by decide +kernel
theorem d_X12_keep_53 : decode prog_14_method_69_code 53 = .ok (.aload_n 0, 1) := by decide +kernel
theorem d_X12_keep_54 : decode prog_14_method_69_code 54 = .ok (.getfield 152, 3) := by decide +kernel
theorem d_X12_keep_57 : decode prog_14_method_69_code 57 = .ok (.sipush 2000, 3) := by decide +kernel
theorem d_X12_keep_60 : decode prog_14_method_69_code 60 = .ok (.iload_n 1, 1) := by decide +kernel
theorem d_X12_keep_61 : decode prog_14_method_69_code 61 = .ok (.imul, 1) := by decide +kernel
theorem d_X12_keep_62 : decode prog_14_method_69_code 62 = .ok (.iload_n 2, 1) := by decide +kernel
theorem d_X12_keep_63 : decode prog_14_method_69_code 63 = .ok (.iadd, 1) := by decide +kernel
theorem d_X12_keep_64 : decode prog_14_method_69_code 64 = .ok (.aload_n 0, 1) := by decide +kernel
theorem d_X12_keep_65 : decode prog_14_method_69_code 65 = .ok (.getfield 52, 3) := by decide +kernel
theorem d_X12_keep_68 : decode prog_14_method_69_code 68 = .ok (.iload_n 2, 1) := by decide +kernel
theorem d_X12_keep_69 : decode prog_14_method_69_code 69 = .ok (.iaload, 1) := by decide +kernel
theorem d_X12_keep_70 : decode prog_14_method_69_code 70 = .ok (.iastore, 1) := by decide +kernel
theorem d_X12_keep_71 : decode prog_14_method_69_code 71 = .ok (.iinc 2 1, 3) := by decide +kernel
theorem d_X12_keep_74 : decode prog_14_method_69_code 74 = .ok (.goto (-28), 3) := by decide +kernel
theorem d_X12_keep_77 : decode prog_14_method_69_code 77 = .ok (.iconst 0, 1) := by decide +kernel
theorem d_X12_keep_78 : decode prog_14_method_69_code 78 = .ok (.istore_n 2, 1) := by decide +kernel
theorem d_X12_keep_79 : decode prog_14_method_69_code 79 = .ok (.iload_n 2, 1) := by decide +kernel
theorem d_X12_keep_80 : decode prog_14_method_69_code 80 = .ok (.bipush 8, 2) := by decide +kernel
theorem d_X12_keep_82 : decode prog_14_method_69_code 82 = .ok (.if_icmp .ge 26, 3) := by decide +kernel
theorem d_X12_keep_85 : decode prog_14_method_69_code 85 = .ok (.aload_n 0, 1) := by decide +kernel
theorem d_X12_keep_86 : decode prog_14_method_69_code 86 = .ok (.getfield 155, 3) := by decide +kernel
theorem d_X12_keep_89 : decode prog_14_method_69_code 89 = .ok (.bipush 8, 2) := by decide +kernel
theorem d_X12_keep_91 : decode prog_14_method_69_code 91 = .ok (.iload_n 1, 1) := by decide +kernel
theorem d_X12_keep_92 : decode prog_14_method_69_code 92 = .ok (.imul, 1) := by decide +kernel
theorem d_X12_keep_93 : decode prog_14_method_69_code 93 = .ok (.iload_n 2, 1) := by decide +kernel
theorem d_X12_keep_94 : decode prog_14_method_69_code 94 = .ok (.iadd, 1) := by decide +kernel
theorem d_X12_keep_95 : decode prog_14_method_69_code 95 = .ok (.aload_n 0, 1) := by decide +kernel
theorem d_X12_keep_96 : decode prog_14_method_69_code 96 = .ok (.getfield 55, 3) := by decide +kernel
theorem d_X12_keep_99 : decode prog_14_method_69_code 99 = .ok (.iload_n 2, 1) := by decide +kernel
theorem d_X12_keep_100 : decode prog_14_method_69_code 100 = .ok (.iaload, 1) := by decide +kernel
theorem d_X12_keep_101 : decode prog_14_method_69_code 101 = .ok (.iastore, 1) := by decide +kernel
theorem d_X12_keep_102 : decode prog_14_method_69_code 102 = .ok (.iinc 2 1, 3) := by decide +kernel
theorem d_X12_keep_105 : decode prog_14_method_69_code 105 = .ok (.goto (-26), 3) := by decide +kernel
theorem d_X12_keep_108 : decode prog_14_method_69_code 108 = .ok (.aload_n 0, 1) := by decide +kernel
theorem d_X12_keep_109 : decode prog_14_method_69_code 109 = .ok (.getfield 158, 3) := by decide +kernel
theorem d_X12_keep_112 : decode prog_14_method_69_code 112 = .ok (.iload_n 1, 1) := by decide +kernel
theorem d_X12_keep_113 : decode prog_14_method_69_code 113 = .ok (.aload_n 0, 1) := by decide +kernel
theorem d_X12_keep_114 : decode prog_14_method_69_code 114 = .ok (.getfield 182, 3) := by decide +kernel
theorem d_X12_keep_117 : decode prog_14_method_69_code 117 = .ok (.iastore, 1) := by decide +kernel
theorem d_X12_keep_118 : decode prog_14_method_69_code 118 = .ok (.aload_n 0, 1) := by decide +kernel
theorem d_X12_keep_119 : decode prog_14_method_69_code 119 = .ok (.getfield 161, 3) := by decide +kernel
theorem d_X12_keep_122 : decode prog_14_method_69_code 122 = .ok (.iload_n 1, 1) := by decide +kernel
theorem d_X12_keep_123 : decode prog_14_method_69_code 123 = .ok (.aload_n 0, 1) := by decide +kernel
theorem d_X12_keep_124 : decode prog_14_method_69_code 124 = .ok (.getfield 185, 3) := by decide +kernel
theorem d_X12_keep_127 : decode prog_14_method_69_code 127 = .ok (.iastore, 1) := by decide +kernel
theorem d_X12_keep_128 : decode prog_14_method_69_code 128 = .ok (.aload_n 0, 1) := by decide +kernel
theorem d_X12_keep_129 : decode prog_14_method_69_code 129 = .ok (.invokevirtual 388, 3) := by decide +kernel
theorem d_X12_keep_132 : decode prog_14_method_69_code 132 = .ok (.ireturn, 1) := by decide +kernel
theorem d_X12_kind_0 : decode prog_14_method_49_code 0 = .ok (.iload_n 1, 1) := by decide +kernel
theorem d_X12_kind_1 : decode prog_14_method_49_code 1 = .ok (.i2l, 1) := by decide +kernel
theorem d_X12_kind_2 : decode prog_14_method_49_code 2 = .ok (.lconst 0, 1) := by decide +kernel
theorem d_X12_kind_3 : decode prog_14_method_49_code 3 = .ok (.aload_n 0, 1) := by decide +kernel
theorem d_X12_kind_4 : decode prog_14_method_49_code 4 = .ok (.getfield 354, 3) := by decide +kernel
theorem d_X12_kind_7 : decode prog_14_method_49_code 7 = .ok (.iconst 1, 1) := by decide +kernel
theorem d_X12_kind_8 : decode prog_14_method_49_code 8 = .ok (.isub, 1) := by decide +kernel
theorem d_X12_kind_9 : decode prog_14_method_49_code 9 = .ok (.i2l, 1) := by decide +kernel
theorem d_X12_kind_10 : decode prog_14_method_49_code 10 = .ok (.invokestatic 191, 3) := by decide +kernel
theorem d_X12_kind_13 : decode prog_14_method_49_code 13 = .ok (.ifCond .ne 7, 3) := by decide +kernel
theorem d_X12_kind_16 : decode prog_14_method_49_code 16 = .ok (.sipush (-1001), 3) := by decide +kernel
theorem d_X12_kind_19 : decode prog_14_method_49_code 19 = .ok (.ireturn, 1) := by decide +kernel
theorem d_X12_kind_20 : decode prog_14_method_49_code 20 = .ok (.iload_n 2, 1) := by decide +kernel
theorem d_X12_kind_21 : decode prog_14_method_49_code 21 = .ok (.i2l, 1) := by decide +kernel
theorem d_X12_kind_22 : decode prog_14_method_49_code 22 = .ok (.lconst 0, 1) := by decide +kernel
theorem d_X12_kind_23 : decode prog_14_method_49_code 23 = .ok (.ldc2_w 404, 3) := by decide +kernel
theorem d_X12_kind_26 : decode prog_14_method_49_code 26 = .ok (.invokestatic 191, 3) := by decide +kernel
theorem d_X12_kind_29 : decode prog_14_method_49_code 29 = .ok (.ifCond .ne 7, 3) := by decide +kernel
theorem d_X12_kind_32 : decode prog_14_method_49_code 32 = .ok (.sipush (-1002), 3) := by decide +kernel
theorem d_X12_kind_35 : decode prog_14_method_49_code 35 = .ok (.ireturn, 1) := by decide +kernel
theorem d_X12_kind_36 : decode prog_14_method_49_code 36 = .ok (.iconst 0, 1) := by decide +kernel
theorem d_X12_kind_37 : decode prog_14_method_49_code 37 = .ok (.istore_n 3, 1) := by decide +kernel
theorem d_X12_kind_38 : decode prog_14_method_49_code 38 = .ok (.iconst 0, 1) := by decide +kernel
theorem d_X12_kind_39 : decode prog_14_method_49_code 39 = .ok (.istore 4, 2) := by decide +kernel
theorem d_X12_kind_41 : decode prog_14_method_49_code 41 = .ok (.iload 4, 2) := by decide +kernel
theorem d_X12_kind_43 : decode prog_14_method_49_code 43 = .ok (.sipush 400, 3) := by decide +kernel
theorem d_X12_kind_46 : decode prog_14_method_49_code 46 = .ok (.if_icmp .ge 28, 3) := by decide +kernel
theorem d_X12_kind_49 : decode prog_14_method_49_code 49 = .ok (.iload_n 3, 1) := by decide +kernel
theorem d_X12_kind_50 : decode prog_14_method_49_code 50 = .ok (.aload_n 0, 1) := by decide +kernel
theorem d_X12_kind_51 : decode prog_14_method_49_code 51 = .ok (.getfield 49, 3) := by decide +kernel
theorem d_X12_kind_54 : decode prog_14_method_49_code 54 = .ok (.iload 4, 2) := by decide +kernel
theorem d_X12_kind_56 : decode prog_14_method_49_code 56 = .ok (.iaload, 1) := by decide +kernel
theorem d_X12_kind_57 : decode prog_14_method_49_code 57 = .ok (.iload_n 1, 1) := by decide +kernel
theorem d_X12_kind_58 : decode prog_14_method_49_code 58 = .ok (.if_icmp .ne 7, 3) := by decide +kernel
theorem d_X12_kind_61 : decode prog_14_method_49_code 61 = .ok (.iconst 1, 1) := by decide +kernel
theorem d_X12_kind_62 : decode prog_14_method_49_code 62 = .ok (.goto 4, 3) := by decide +kernel
theorem d_X12_kind_65 : decode prog_14_method_49_code 65 = .ok (.iconst 0, 1) := by decide +kernel
theorem d_X12_kind_66 : decode prog_14_method_49_code 66 = .ok (.iadd, 1) := by decide +kernel
theorem d_X12_kind_67 : decode prog_14_method_49_code 67 = .ok (.istore_n 3, 1) := by decide +kernel
theorem d_X12_kind_68 : decode prog_14_method_49_code 68 = .ok (.iinc 4 1, 3) := by decide +kernel
theorem d_X12_kind_71 : decode prog_14_method_49_code 71 = .ok (.goto (-30), 3) := by decide +kernel
theorem d_X12_kind_74 : decode prog_14_method_49_code 74 = .ok (.iload_n 2, 1) := by decide +kernel
theorem d_X12_kind_75 : decode prog_14_method_49_code 75 = .ok (.iconst 2, 1) := by decide +kernel
theorem d_X12_kind_76 : decode prog_14_method_49_code 76 = .ok (.isub, 1) := by decide +kernel
theorem d_X12_kind_77 : decode prog_14_method_49_code 77 = .ok (.istore 4, 2) := by decide +kernel
theorem d_X12_kind_79 : decode prog_14_method_49_code 79 = .ok (.iload_n 2, 1) := by decide +kernel
theorem d_X12_kind_80 : decode prog_14_method_49_code 80 = .ok (.ifCond .ne 12, 3) := by decide +kernel
theorem d_X12_kind_83 : decode prog_14_method_49_code 83 = .ok (.aload_n 0, 1) := by decide +kernel
theorem d_X12_kind_84 : decode prog_14_method_49_code 84 = .ok (.getfield 21, 3) := by decide +kernel
theorem d_X12_kind_87 : decode prog_14_method_49_code 87 = .ok (.iload_n 1, 1) := by decide +kernel
theorem d_X12_kind_88 : decode prog_14_method_49_code 88 = .ok (.iaload, 1) := by decide +kernel
theorem d_X12_kind_89 : decode prog_14_method_49_code 89 = .ok (.goto 69, 3) := by decide +kernel
theorem d_X12_kind_92 : decode prog_14_method_49_code 92 = .ok (.iload_n 2, 1) := by decide +kernel
theorem d_X12_kind_93 : decode prog_14_method_49_code 93 = .ok (.iconst 1, 1) := by decide +kernel
theorem d_X12_kind_94 : decode prog_14_method_49_code 94 = .ok (.if_icmp .ne 7, 3) := by decide +kernel
theorem d_X12_kind_97 : decode prog_14_method_49_code 97 = .ok (.iload_n 3, 1) := by decide +kernel
theorem d_X12_kind_98 : decode prog_14_method_49_code 98 = .ok (.goto 60, 3) := by decide +kernel
theorem d_X12_kind_101 : decode prog_14_method_49_code 101 = .ok (.iload 4, 2) := by decide +kernel
theorem d_X12_kind_103 : decode prog_14_method_49_code 103 = .ok (.aload_n 0, 1) := by decide +kernel
theorem d_X12_kind_104 : decode prog_14_method_49_code 104 = .ok (.getfield 21, 3) := by decide +kernel
theorem d_X12_kind_107 : decode prog_14_method_49_code 107 = .ok (.iload_n 1, 1) := by decide +kernel
theorem d_X12_kind_108 : decode prog_14_method_49_code 108 = .ok (.iaload, 1) := by decide +kernel
theorem d_X12_kind_109 : decode prog_14_method_49_code 109 = .ok (.if_icmp .lt 8, 3) := by decide +kernel
theorem d_X12_kind_112 : decode prog_14_method_49_code 112 = .ok (.bipush (-100), 2) := by decide +kernel
theorem d_X12_kind_114 : decode prog_14_method_49_code 114 = .ok (.goto 44, 3) := by decide +kernel
theorem d_X12_kind_117 : decode prog_14_method_49_code 117 = .ok (.aload_n 0, 1) := by decide +kernel
theorem d_X12_kind_118 : decode prog_14_method_49_code 118 = .ok (.getfield 27, 3) := by decide +kernel
theorem d_X12_kind_121 : decode prog_14_method_49_code 121 = .ok (.iconst 5, 1) := by decide +kernel
theorem d_X12_kind_122 : decode prog_14_method_49_code 122 = .ok (.iload_n 1, 1) := by decide +kernel
theorem d_X12_kind_123 : decode prog_14_method_49_code 123 = .ok (.imul, 1) := by decide +kernel
theorem d_X12_kind_124 : decode prog_14_method_49_code 124 = .ok (.iload 4, 2) := by decide +kernel
theorem d_X12_kind_126 : decode prog_14_method_49_code 126 = .ok (.iadd, 1) := by decide +kernel
theorem d_X12_kind_127 : decode prog_14_method_49_code 127 = .ok (.baload, 1) := by decide +kernel
theorem d_X12_kind_128 : decode prog_14_method_49_code 128 = .ok (.ifCond .eq 17, 3) := by decide +kernel
theorem d_X12_kind_131 : decode prog_14_method_49_code 131 = .ok (.aload_n 0, 1) := by decide +kernel
theorem d_X12_kind_132 : decode prog_14_method_49_code 132 = .ok (.getfield 24, 3) := by decide +kernel
theorem d_X12_kind_135 : decode prog_14_method_49_code 135 = .ok (.iconst 5, 1) := by decide +kernel
theorem d_X12_kind_136 : decode prog_14_method_49_code 136 = .ok (.iload_n 1, 1) := by decide +kernel
theorem d_X12_kind_137 : decode prog_14_method_49_code 137 = .ok (.imul, 1) := by decide +kernel
theorem d_X12_kind_138 : decode prog_14_method_49_code 138 = .ok (.iload 4, 2) := by decide +kernel
theorem d_X12_kind_140 : decode prog_14_method_49_code 140 = .ok (.iadd, 1) := by decide +kernel
theorem d_X12_kind_141 : decode prog_14_method_49_code 141 = .ok (.iaload, 1) := by decide +kernel
theorem d_X12_kind_142 : decode prog_14_method_49_code 142 = .ok (.goto 16, 3) := by decide +kernel
theorem d_X12_kind_145 : decode prog_14_method_49_code 145 = .ok (.iconst (-1), 1) := by decide +kernel
theorem d_X12_kind_146 : decode prog_14_method_49_code 146 = .ok (.aload_n 0, 1) := by decide +kernel
theorem d_X12_kind_147 : decode prog_14_method_49_code 147 = .ok (.getfield 24, 3) := by decide +kernel
theorem d_X12_kind_150 : decode prog_14_method_49_code 150 = .ok (.iconst 5, 1) := by decide +kernel
theorem d_X12_kind_151 : decode prog_14_method_49_code 151 = .ok (.iload_n 1, 1) := by decide +kernel
theorem d_X12_kind_152 : decode prog_14_method_49_code 152 = .ok (.imul, 1) := by decide +kernel
theorem d_X12_kind_153 : decode prog_14_method_49_code 153 = .ok (.iload 4, 2) := by decide +kernel
theorem d_X12_kind_155 : decode prog_14_method_49_code 155 = .ok (.iadd, 1) := by decide +kernel
theorem d_X12_kind_156 : decode prog_14_method_49_code 156 = .ok (.iaload, 1) := by decide +kernel
theorem d_X12_kind_157 : decode prog_14_method_49_code 157 = .ok (.isub, 1) := by decide +kernel
theorem d_X12_kind_158 : decode prog_14_method_49_code 158 = .ok (.ireturn, 1) := by decide +kernel
theorem d_X12_kindNamed_0 : decode prog_14_method_17_code 0 = .ok (.iconst (-1), 1) := by decide +kernel
theorem d_X12_kindNamed_1 : decode prog_14_method_17_code 1 = .ok (.istore_n 3, 1) := by decide +kernel
theorem d_X12_kindNamed_2 : decode prog_14_method_17_code 2 = .ok (.iconst 0, 1) := by decide +kernel
theorem d_X12_kindNamed_3 : decode prog_14_method_17_code 3 = .ok (.istore 4, 2) := by decide +kernel
theorem d_X12_kindNamed_5 : decode prog_14_method_17_code 5 = .ok (.iload 4, 2) := by decide +kernel
theorem d_X12_kindNamed_7 : decode prog_14_method_17_code 7 = .ok (.aload_n 0, 1) := by decide +kernel
theorem d_X12_kindNamed_8 : decode prog_14_method_17_code 8 = .ok (.getfield 248, 3) := by decide +kernel
theorem d_X12_kindNamed_11 : decode prog_14_method_17_code 11 = .ok (.if_icmp .ge 28, 3) := by decide +kernel
theorem d_X12_kindNamed_14 : decode prog_14_method_17_code 14 = .ok (.aload_n 0, 1) := by decide +kernel
theorem d_X12_kindNamed_15 : decode prog_14_method_17_code 15 = .ok (.getfield 68, 3) := by decide +kernel
theorem d_X12_kindNamed_18 : decode prog_14_method_17_code 18 = .ok (.iload 4, 2) := by decide +kernel
theorem d_X12_kindNamed_20 : decode prog_14_method_17_code 20 = .ok (.laload, 1) := by decide +kernel
theorem d_X12_kindNamed_21 : decode prog_14_method_17_code 21 = .ok (.lload_n 1, 1) := by decide +kernel
theorem d_X12_kindNamed_22 : decode prog_14_method_17_code 22 = .ok (.lcmp, 1) := by decide +kernel
theorem d_X12_kindNamed_23 : decode prog_14_method_17_code 23 = .ok (.ifCond .ne 8, 3) := by decide +kernel
theorem d_X12_kindNamed_26 : decode prog_14_method_17_code 26 = .ok (.iload 4, 2) := by decide +kernel
theorem d_X12_kindNamed_28 : decode prog_14_method_17_code 28 = .ok (.goto 4, 3) := by decide +kernel
theorem d_X12_kindNamed_31 : decode prog_14_method_17_code 31 = .ok (.iload_n 3, 1) := by decide +kernel
theorem d_X12_kindNamed_32 : decode prog_14_method_17_code 32 = .ok (.istore_n 3, 1) := by decide +kernel
theorem d_X12_kindNamed_33 : decode prog_14_method_17_code 33 = .ok (.iinc 4 1, 3) := by decide +kernel
theorem d_X12_kindNamed_36 : decode prog_14_method_17_code 36 = .ok (.goto (-31), 3) := by decide +kernel
theorem d_X12_kindNamed_39 : decode prog_14_method_17_code 39 = .ok (.iload_n 3, 1) := by decide +kernel
theorem d_X12_kindNamed_40 : decode prog_14_method_17_code 40 = .ok (.ireturn, 1) := by decide +kernel
theorem d_X12_manyOf_0 : decode prog_14_method_77_code 0 = .ok (.iconst 0, 1) := by decide +kernel
theorem d_X12_manyOf_1 : decode prog_14_method_77_code 1 = .ok (.istore 4, 2) := by decide +kernel
theorem d_X12_manyOf_3 : decode prog_14_method_77_code 3 = .ok (.iconst 0, 1) := by decide +kernel
theorem d_X12_manyOf_4 : decode prog_14_method_77_code 4 = .ok (.istore 5, 2) := by decide +kernel
theorem d_X12_manyOf_6 : decode prog_14_method_77_code 6 = .ok (.iload 5, 2) := by decide +kernel
theorem d_X12_manyOf_8 : decode prog_14_method_77_code 8 = .ok (.sipush 400, 3) := by decide +kernel
theorem d_X12_manyOf_11 : decode prog_14_method_77_code 11 = .ok (.if_icmp .ge 31, 3) := by decide +kernel
theorem d_X12_manyOf_14 : decode prog_14_method_77_code 14 = .ok (.iload 4, 2) := by decide +kernel
theorem d_X12_manyOf_16 : decode prog_14_method_77_code 16 = .ok (.aload_n 0, 1) := by decide +kernel
theorem d_X12_manyOf_17 : decode prog_14_method_77_code 17 = .ok (.iload_n 1, 1) := by decide +kernel
theorem d_X12_manyOf_18 : decode prog_14_method_77_code 18 = .ok (.iload_n 2, 1) := by decide +kernel
theorem d_X12_manyOf_19 : decode prog_14_method_77_code 19 = .ok (.iload 5, 2) := by decide +kernel
theorem d_X12_manyOf_21 : decode prog_14_method_77_code 21 = .ok (.invokevirtual 457, 3) := by decide +kernel
theorem d_X12_manyOf_24 : decode prog_14_method_77_code 24 = .ok (.iload_n 3, 1) := by decide +kernel
theorem d_X12_manyOf_25 : decode prog_14_method_77_code 25 = .ok (.if_icmp .ne 7, 3) := by decide +kernel
theorem d_X12_manyOf_28 : decode prog_14_method_77_code 28 = .ok (.iconst 1, 1) := by decide +kernel
theorem d_X12_manyOf_29 : decode prog_14_method_77_code 29 = .ok (.goto 4, 3) := by decide +kernel
theorem d_X12_manyOf_32 : decode prog_14_method_77_code 32 = .ok (.iconst 0, 1) := by decide +kernel
theorem d_X12_manyOf_33 : decode prog_14_method_77_code 33 = .ok (.iadd, 1) := by decide +kernel
theorem d_X12_manyOf_34 : decode prog_14_method_77_code 34 = .ok (.istore 4, 2) := by decide +kernel
theorem d_X12_manyOf_36 : decode prog_14_method_77_code 36 = .ok (.iinc 5 1, 3) := by decide +kernel
theorem d_X12_manyOf_39 : decode prog_14_method_77_code 39 = .ok (.goto (-33), 3) := by decide +kernel
theorem d_X12_manyOf_42 : decode prog_14_method_77_code 42 = .ok (.iload 4, 2) := by decide +kernel
theorem d_X12_manyOf_44 : decode prog_14_method_77_code 44 = .ok (.ireturn, 1) := by decide +kernel
theorem d_X12_meet_0 : decode prog_14_method_74_code 0 = .ok (.iload_n 2, 1) := by decide +kernel
theorem d_X12_meet_1 : decode prog_14_method_74_code 1 = .ok (.ifCond .lt 70, 3) := by decide +kernel
theorem d_X12_meet_4 : decode prog_14_method_74_code 4 = .ok (.aload_n 0, 1) := by decide +kernel
theorem d_X12_meet_5 : decode prog_14_method_74_code 5 = .ok (.getfield 167, 3) := by decide +kernel
theorem d_X12_meet_8 : decode prog_14_method_74_code 8 = .ok (.sipush 400, 3) := by decide +kernel
theorem d_X12_meet_11 : decode prog_14_method_74_code 11 = .ok (.iload_n 1, 1) := by decide +kernel
theorem d_X12_meet_12 : decode prog_14_method_74_code 12 = .ok (.imul, 1) := by decide +kernel
theorem d_X12_meet_13 : decode prog_14_method_74_code 13 = .ok (.iload_n 2, 1) := by decide +kernel
theorem d_X12_meet_14 : decode prog_14_method_74_code 14 = .ok (.iconst 5, 1) := by decide +kernel
theorem d_X12_meet_15 : decode prog_14_method_74_code 15 = .ok (.idiv, 1) := by decide +kernel
theorem d_X12_meet_16 : decode prog_14_method_74_code 16 = .ok (.iadd, 1) := by decide +kernel
theorem d_X12_meet_17 : decode prog_14_method_74_code 17 = .ok (.iaload, 1) := by decide +kernel
theorem d_X12_meet_18 : decode prog_14_method_74_code 18 = .ok (.ifCond .ge 53, 3) := by decide +kernel
theorem d_X12_meet_21 : decode prog_14_method_74_code 21 = .ok (.aload_n 0, 1) := by decide +kernel
theorem d_X12_meet_22 : decode prog_14_method_74_code 22 = .ok (.getfield 167, 3) := by decide +kernel
theorem d_X12_meet_25 : decode prog_14_method_74_code 25 = .ok (.sipush 400, 3) := by decide +kernel
theorem d_X12_meet_28 : decode prog_14_method_74_code 28 = .ok (.iload_n 1, 1) := by decide +kernel
theorem d_X12_meet_29 : decode prog_14_method_74_code 29 = .ok (.imul, 1) := by decide +kernel
theorem d_X12_meet_30 : decode prog_14_method_74_code 30 = .ok (.iload_n 2, 1) := by decide +kernel
theorem d_X12_meet_31 : decode prog_14_method_74_code 31 = .ok (.iconst 5, 1) := by decide +kernel
theorem d_X12_meet_32 : decode prog_14_method_74_code 32 = .ok (.idiv, 1) := by decide +kernel
theorem d_X12_meet_33 : decode prog_14_method_74_code 33 = .ok (.iadd, 1) := by decide +kernel
theorem d_X12_meet_34 : decode prog_14_method_74_code 34 = .ok (.aload_n 0, 1) := by decide +kernel
theorem d_X12_meet_35 : decode prog_14_method_74_code 35 = .ok (.getfield 170, 3) := by decide +kernel
theorem d_X12_meet_38 : decode prog_14_method_74_code 38 = .ok (.iload_n 1, 1) := by decide +kernel
theorem d_X12_meet_39 : decode prog_14_method_74_code 39 = .ok (.iaload, 1) := by decide +kernel
theorem d_X12_meet_40 : decode prog_14_method_74_code 40 = .ok (.iastore, 1) := by decide +kernel
theorem d_X12_meet_41 : decode prog_14_method_74_code 41 = .ok (.aload_n 0, 1) := by decide +kernel
theorem d_X12_meet_42 : decode prog_14_method_74_code 42 = .ok (.getfield 164, 3) := by decide +kernel
theorem d_X12_meet_45 : decode prog_14_method_74_code 45 = .ok (.sipush 400, 3) := by decide +kernel
theorem d_X12_meet_48 : decode prog_14_method_74_code 48 = .ok (.iload_n 1, 1) := by decide +kernel
theorem d_X12_meet_49 : decode prog_14_method_74_code 49 = .ok (.imul, 1) := by decide +kernel
theorem d_X12_meet_50 : decode prog_14_method_74_code 50 = .ok (.aload_n 0, 1) := by decide +kernel
theorem d_X12_meet_51 : decode prog_14_method_74_code 51 = .ok (.getfield 170, 3) := by decide +kernel
theorem d_X12_meet_54 : decode prog_14_method_74_code 54 = .ok (.iload_n 1, 1) := by decide +kernel
theorem d_X12_meet_55 : decode prog_14_method_74_code 55 = .ok (.iaload, 1) := by decide +kernel
theorem d_X12_meet_56 : decode prog_14_method_74_code 56 = .ok (.iadd, 1) := by decide +kernel
theorem d_X12_meet_57 : decode prog_14_method_74_code 57 = .ok (.iload_n 2, 1) := by decide +kernel
theorem d_X12_meet_58 : decode prog_14_method_74_code 58 = .ok (.iconst 5, 1) := by decide +kernel
theorem d_X12_meet_59 : decode prog_14_method_74_code 59 = .ok (.idiv, 1) := by decide +kernel
theorem d_X12_meet_60 : decode prog_14_method_74_code 60 = .ok (.iastore, 1) := by decide +kernel
theorem d_X12_meet_61 : decode prog_14_method_74_code 61 = .ok (.aload_n 0, 1) := by decide +kernel
theorem d_X12_meet_62 : decode prog_14_method_74_code 62 = .ok (.getfield 170, 3) := by decide +kernel
theorem d_X12_meet_65 : decode prog_14_method_74_code 65 = .ok (.iload_n 1, 1) := by decide +kernel
theorem d_X12_meet_66 : decode prog_14_method_74_code 66 = .ok (.dup2, 1) := by decide +kernel
theorem d_X12_meet_67 : decode prog_14_method_74_code 67 = .ok (.iaload, 1) := by decide +kernel
theorem d_X12_meet_68 : decode prog_14_method_74_code 68 = .ok (.iconst 1, 1) := by decide +kernel
theorem d_X12_meet_69 : decode prog_14_method_74_code 69 = .ok (.iadd, 1) := by decide +kernel
theorem d_X12_meet_70 : decode prog_14_method_74_code 70 = .ok (.iastore, 1) := by decide +kernel
theorem d_X12_meet_71 : decode prog_14_method_74_code 71 = .ok (.return_, 1) := by decide +kernel
theorem d_X12_wireOf_0 : decode prog_14_method_72_code 0 = .ok (.iload_n 1, 1) := by decide +kernel
theorem d_X12_wireOf_1 : decode prog_14_method_72_code 1 = .ok (.ifCond .ne 12, 3) := by decide +kernel
theorem d_X12_wireOf_4 : decode prog_14_method_72_code 4 = .ok (.aload_n 0, 1) := by decide +kernel
theorem d_X12_wireOf_5 : decode prog_14_method_72_code 5 = .ok (.getfield 52, 3) := by decide +kernel
theorem d_X12_wireOf_8 : decode prog_14_method_72_code 8 = .ok (.iload_n 3, 1) := by decide +kernel
theorem d_X12_wireOf_9 : decode prog_14_method_72_code 9 = .ok (.iaload, 1) := by decide +kernel
theorem d_X12_wireOf_10 : decode prog_14_method_72_code 10 = .ok (.goto 15, 3) := by decide +kernel
theorem d_X12_wireOf_13 : decode prog_14_method_72_code 13 = .ok (.aload_n 0, 1) := by decide +kernel
theorem d_X12_wireOf_14 : decode prog_14_method_72_code 14 = .ok (.getfield 152, 3) := by decide +kernel
theorem d_X12_wireOf_17 : decode prog_14_method_72_code 17 = .ok (.sipush 2000, 3) := by decide +kernel
theorem d_X12_wireOf_20 : decode prog_14_method_72_code 20 = .ok (.iload_n 2, 1) := by decide +kernel
theorem d_X12_wireOf_21 : decode prog_14_method_72_code 21 = .ok (.imul, 1) := by decide +kernel
theorem d_X12_wireOf_22 : decode prog_14_method_72_code 22 = .ok (.iload_n 3, 1) := by decide +kernel
theorem d_X12_wireOf_23 : decode prog_14_method_72_code 23 = .ok (.iadd, 1) := by decide +kernel
theorem d_X12_wireOf_24 : decode prog_14_method_72_code 24 = .ok (.iaload, 1) := by decide +kernel
theorem d_X12_wireOf_25 : decode prog_14_method_72_code 25 = .ok (.ireturn, 1) := by decide +kernel
theorem d_X12_reach_0 : decode prog_14_method_75_code 0 = .ok (.aload_n 0, 1) := by decide +kernel
theorem d_X12_reach_1 : decode prog_14_method_75_code 1 = .ok (.getfield 170, 3) := by decide +kernel
theorem d_X12_reach_4 : decode prog_14_method_75_code 4 = .ok (.iload_n 1, 1) := by decide +kernel
theorem d_X12_reach_5 : decode prog_14_method_75_code 5 = .ok (.iconst 0, 1) := by decide +kernel
theorem d_X12_reach_6 : decode prog_14_method_75_code 6 = .ok (.iastore, 1) := by decide +kernel
theorem d_X12_reach_7 : decode prog_14_method_75_code 7 = .ok (.iconst 0, 1) := by decide +kernel
theorem d_X12_reach_8 : decode prog_14_method_75_code 8 = .ok (.istore_n 3, 1) := by decide +kernel
theorem d_X12_reach_9 : decode prog_14_method_75_code 9 = .ok (.iload_n 3, 1) := by decide +kernel
theorem d_X12_reach_10 : decode prog_14_method_75_code 10 = .ok (.sipush 400, 3) := by decide +kernel
theorem d_X12_reach_13 : decode prog_14_method_75_code 13 = .ok (.if_icmp .ge 22, 3) := by decide +kernel
theorem d_X12_reach_16 : decode prog_14_method_75_code 16 = .ok (.aload_n 0, 1) := by decide +kernel
theorem d_X12_reach_17 : decode prog_14_method_75_code 17 = .ok (.getfield 167, 3) := by decide +kernel
theorem d_X12_reach_20 : decode prog_14_method_75_code 20 = .ok (.sipush 400, 3) := by decide +kernel
theorem d_X12_reach_23 : decode prog_14_method_75_code 23 = .ok (.iload_n 1, 1) := by decide +kernel
theorem d_X12_reach_24 : decode prog_14_method_75_code 24 = .ok (.imul, 1) := by decide +kernel
theorem d_X12_reach_25 : decode prog_14_method_75_code 25 = .ok (.iload_n 3, 1) := by decide +kernel
theorem d_X12_reach_26 : decode prog_14_method_75_code 26 = .ok (.iadd, 1) := by decide +kernel
theorem d_X12_reach_27 : decode prog_14_method_75_code 27 = .ok (.iconst (-1), 1) := by decide +kernel
theorem d_X12_reach_28 : decode prog_14_method_75_code 28 = .ok (.iastore, 1) := by decide +kernel
theorem d_X12_reach_29 : decode prog_14_method_75_code 29 = .ok (.iinc 3 1, 3) := by decide +kernel
theorem d_X12_reach_32 : decode prog_14_method_75_code 32 = .ok (.goto (-23), 3) := by decide +kernel
theorem d_X12_reach_35 : decode prog_14_method_75_code 35 = .ok (.iconst 0, 1) := by decide +kernel
theorem d_X12_reach_36 : decode prog_14_method_75_code 36 = .ok (.istore_n 3, 1) := by decide +kernel
theorem d_X12_reach_37 : decode prog_14_method_75_code 37 = .ok (.iload_n 1, 1) := by decide +kernel
theorem d_X12_reach_38 : decode prog_14_method_75_code 38 = .ok (.ifCond .ne 10, 3) := by decide +kernel
theorem d_X12_reach_41 : decode prog_14_method_75_code 41 = .ok (.aload_n 0, 1) := by decide +kernel
theorem d_X12_reach_42 : decode prog_14_method_75_code 42 = .ok (.getfield 182, 3) := by decide +kernel
theorem d_X12_reach_45 : decode prog_14_method_75_code 45 = .ok (.goto 9, 3) := by decide +kernel
theorem d_X12_reach_48 : decode prog_14_method_75_code 48 = .ok (.aload_n 0, 1) := by decide +kernel
theorem d_X12_reach_49 : decode prog_14_method_75_code 49 = .ok (.getfield 158, 3) := by decide +kernel
theorem d_X12_reach_52 : decode prog_14_method_75_code 52 = .ok (.iload_n 2, 1) := by decide +kernel
theorem d_X12_reach_53 : decode prog_14_method_75_code 53 = .ok (.iaload, 1) := by decide +kernel
theorem d_X12_reach_54 : decode prog_14_method_75_code 54 = .ok (.istore 4, 2) := by decide +kernel
theorem d_X12_reach_56 : decode prog_14_method_75_code 56 = .ok (.iconst 0, 1) := by decide +kernel
theorem d_X12_reach_57 : decode prog_14_method_75_code 57 = .ok (.istore 5, 2) := by decide +kernel
theorem d_X12_reach_59 : decode prog_14_method_75_code 59 = .ok (.iload 5, 2) := by decide +kernel
theorem d_X12_reach_61 : decode prog_14_method_75_code 61 = .ok (.iload 4, 2) := by decide +kernel
theorem d_X12_reach_63 : decode prog_14_method_75_code 63 = .ok (.if_icmp .ge 97, 3) := by decide +kernel
theorem d_X12_reach_66 : decode prog_14_method_75_code 66 = .ok (.aload_n 0, 1) := by decide +kernel
theorem d_X12_reach_67 : decode prog_14_method_75_code 67 = .ok (.iload_n 1, 1) := by decide +kernel
theorem d_X12_reach_68 : decode prog_14_method_75_code 68 = .ok (.aload_n 0, 1) := by decide +kernel
theorem d_X12_reach_69 : decode prog_14_method_75_code 69 = .ok (.iload_n 1, 1) := by decide +kernel
theorem d_X12_reach_70 : decode prog_14_method_75_code 70 = .ok (.iload_n 2, 1) := by decide +kernel
theorem d_X12_reach_71 : decode prog_14_method_75_code 71 = .ok (.iload 5, 2) := by decide +kernel
theorem d_X12_reach_73 : decode prog_14_method_75_code 73 = .ok (.invokevirtual 450, 3) := by decide +kernel
theorem d_X12_reach_76 : decode prog_14_method_75_code 76 = .ok (.invokevirtual 454, 3) := by decide +kernel
theorem d_X12_reach_79 : decode prog_14_method_75_code 79 = .ok (.iload_n 3, 1) := by decide +kernel
theorem d_X12_reach_80 : decode prog_14_method_75_code 80 = .ok (.aload_n 0, 1) := by decide +kernel
theorem d_X12_reach_81 : decode prog_14_method_75_code 81 = .ok (.getfield 170, 3) := by decide +kernel
theorem d_X12_reach_84 : decode prog_14_method_75_code 84 = .ok (.iload_n 1, 1) := by decide +kernel
theorem d_X12_reach_85 : decode prog_14_method_75_code 85 = .ok (.iaload, 1) := by decide +kernel
theorem d_X12_reach_86 : decode prog_14_method_75_code 86 = .ok (.if_icmp .ge 68, 3) := by decide +kernel
theorem d_X12_reach_89 : decode prog_14_method_75_code 89 = .ok (.aload_n 0, 1) := by decide +kernel
theorem d_X12_reach_90 : decode prog_14_method_75_code 90 = .ok (.getfield 164, 3) := by decide +kernel
theorem d_X12_reach_93 : decode prog_14_method_75_code 93 = .ok (.sipush 400, 3) := by decide +kernel
theorem d_X12_reach_96 : decode prog_14_method_75_code 96 = .ok (.iload_n 1, 1) := by decide +kernel
theorem d_X12_reach_97 : decode prog_14_method_75_code 97 = .ok (.imul, 1) := by decide +kernel
theorem d_X12_reach_98 : decode prog_14_method_75_code 98 = .ok (.iload_n 3, 1) := by decide +kernel
theorem d_X12_reach_99 : decode prog_14_method_75_code 99 = .ok (.iadd, 1) := by decide +kernel
theorem d_X12_reach_100 : decode prog_14_method_75_code 100 = .ok (.iaload, 1) := by decide +kernel
theorem d_X12_reach_101 : decode prog_14_method_75_code 101 = .ok (.istore 6, 2) := by decide +kernel
theorem d_X12_reach_103 : decode prog_14_method_75_code 103 = .ok (.iinc 3 1, 3) := by decide +kernel
theorem d_X12_reach_106 : decode prog_14_method_75_code 106 = .ok (.iconst 0, 1) := by decide +kernel
theorem d_X12_reach_107 : decode prog_14_method_75_code 107 = .ok (.istore 7, 2) := by decide +kernel
theorem d_X12_reach_109 : decode prog_14_method_75_code 109 = .ok (.iload 7, 2) := by decide +kernel
theorem d_X12_reach_111 : decode prog_14_method_75_code 111 = .ok (.aload_n 0, 1) := by decide +kernel
theorem d_X12_reach_112 : decode prog_14_method_75_code 112 = .ok (.getfield 21, 3) := by decide +kernel
theorem d_X12_reach_115 : decode prog_14_method_75_code 115 = .ok (.aload_n 0, 1) := by decide +kernel
theorem d_X12_reach_116 : decode prog_14_method_75_code 116 = .ok (.iload_n 1, 1) := by decide +kernel
theorem d_X12_reach_117 : decode prog_14_method_75_code 117 = .ok (.iload_n 2, 1) := by decide +kernel
theorem d_X12_reach_118 : decode prog_14_method_75_code 118 = .ok (.iload 6, 2) := by decide +kernel
theorem d_X12_reach_120 : decode prog_14_method_75_code 120 = .ok (.invokevirtual 457, 3) := by decide +kernel
theorem d_X12_reach_123 : decode prog_14_method_75_code 123 = .ok (.iaload, 1) := by decide +kernel
theorem d_X12_reach_124 : decode prog_14_method_75_code 124 = .ok (.if_icmp .ge 27, 3) := by decide +kernel
theorem d_X12_reach_127 : decode prog_14_method_75_code 127 = .ok (.aload_n 0, 1) := by decide +kernel
theorem d_X12_reach_128 : decode prog_14_method_75_code 128 = .ok (.iload_n 1, 1) := by decide +kernel
theorem d_X12_reach_129 : decode prog_14_method_75_code 129 = .ok (.aload_n 0, 1) := by decide +kernel
theorem d_X12_reach_130 : decode prog_14_method_75_code 130 = .ok (.iload_n 1, 1) := by decide +kernel
theorem d_X12_reach_131 : decode prog_14_method_75_code 131 = .ok (.iload_n 2, 1) := by decide +kernel
theorem d_X12_reach_132 : decode prog_14_method_75_code 132 = .ok (.iconst 5, 1) := by decide +kernel
theorem d_X12_reach_133 : decode prog_14_method_75_code 133 = .ok (.iload 6, 2) := by decide +kernel
theorem d_X12_reach_135 : decode prog_14_method_75_code 135 = .ok (.imul, 1) := by decide +kernel
theorem d_X12_reach_136 : decode prog_14_method_75_code 136 = .ok (.iload 7, 2) := by decide +kernel
theorem d_X12_reach_138 : decode prog_14_method_75_code 138 = .ok (.iadd, 1) := by decide +kernel
theorem d_X12_reach_139 : decode prog_14_method_75_code 139 = .ok (.invokevirtual 460, 3) := by decide +kernel
theorem d_X12_reach_142 : decode prog_14_method_75_code 142 = .ok (.invokevirtual 454, 3) := by decide +kernel
theorem d_X12_reach_145 : decode prog_14_method_75_code 145 = .ok (.iinc 7 1, 3) := by decide +kernel
theorem d_X12_reach_148 : decode prog_14_method_75_code 148 = .ok (.goto (-39), 3) := by decide +kernel
theorem d_X12_reach_151 : decode prog_14_method_75_code 151 = .ok (.goto (-72), 3) := by decide +kernel
theorem d_X12_reach_154 : decode prog_14_method_75_code 154 = .ok (.iinc 5 1, 3) := by decide +kernel
theorem d_X12_reach_157 : decode prog_14_method_75_code 157 = .ok (.goto (-98), 3) := by decide +kernel
theorem d_X12_reach_160 : decode prog_14_method_75_code 160 = .ok (.return_, 1) := by decide +kernel
theorem d_X12_like_0 : decode prog_14_method_78_code 0 = .ok (.iload_n 1, 1) := by decide +kernel
theorem d_X12_like_1 : decode prog_14_method_78_code 1 = .ok (.invokestatic 447, 3) := by decide +kernel
theorem d_X12_like_4 : decode prog_14_method_78_code 4 = .ok (.ifCond .ne 7, 3) := by decide +kernel
theorem d_X12_like_7 : decode prog_14_method_78_code 7 = .ok (.sipush (-1001), 3) := by decide +kernel
theorem d_X12_like_10 : decode prog_14_method_78_code 10 = .ok (.ireturn, 1) := by decide +kernel
theorem d_X12_like_11 : decode prog_14_method_78_code 11 = .ok (.aload_n 0, 1) := by decide +kernel
theorem d_X12_like_12 : decode prog_14_method_78_code 12 = .ok (.getfield 158, 3) := by decide +kernel
theorem d_X12_like_15 : decode prog_14_method_78_code 15 = .ok (.iload_n 1, 1) := by decide +kernel
theorem d_X12_like_16 : decode prog_14_method_78_code 16 = .ok (.iaload, 1) := by decide +kernel
theorem d_X12_like_17 : decode prog_14_method_78_code 17 = .ok (.ifCond .ge 7, 3) := by decide +kernel
theorem d_X12_like_20 : decode prog_14_method_78_code 20 = .ok (.sipush (-1003), 3) := by decide +kernel
theorem d_X12_like_23 : decode prog_14_method_78_code 23 = .ok (.ireturn, 1) := by decide +kernel
theorem d_X12_like_24 : decode prog_14_method_78_code 24 = .ok (.aload_n 0, 1) := by decide +kernel
theorem d_X12_like_25 : decode prog_14_method_78_code 25 = .ok (.iconst 0, 1) := by decide +kernel
theorem d_X12_like_26 : decode prog_14_method_78_code 26 = .ok (.iload_n 1, 1) := by decide +kernel
theorem d_X12_like_27 : decode prog_14_method_78_code 27 = .ok (.invokevirtual 463, 3) := by decide +kernel
theorem d_X12_like_30 : decode prog_14_method_78_code 30 = .ok (.aload_n 0, 1) := by decide +kernel
theorem d_X12_like_31 : decode prog_14_method_78_code 31 = .ok (.iconst 1, 1) := by decide +kernel
theorem d_X12_like_32 : decode prog_14_method_78_code 32 = .ok (.iload_n 1, 1) := by decide +kernel
theorem d_X12_like_33 : decode prog_14_method_78_code 33 = .ok (.invokevirtual 463, 3) := by decide +kernel
theorem d_X12_like_36 : decode prog_14_method_78_code 36 = .ok (.aload_n 0, 1) := by decide +kernel
theorem d_X12_like_37 : decode prog_14_method_78_code 37 = .ok (.getfield 182, 3) := by decide +kernel
theorem d_X12_like_40 : decode prog_14_method_78_code 40 = .ok (.aload_n 0, 1) := by decide +kernel
theorem d_X12_like_41 : decode prog_14_method_78_code 41 = .ok (.getfield 158, 3) := by decide +kernel
theorem d_X12_like_44 : decode prog_14_method_78_code 44 = .ok (.iload_n 1, 1) := by decide +kernel
theorem d_X12_like_45 : decode prog_14_method_78_code 45 = .ok (.iaload, 1) := by decide +kernel
theorem d_X12_like_46 : decode prog_14_method_78_code 46 = .ok (.if_icmp .ne 35, 3) := by decide +kernel
theorem d_X12_like_49 : decode prog_14_method_78_code 49 = .ok (.aload_n 0, 1) := by decide +kernel
theorem d_X12_like_50 : decode prog_14_method_78_code 50 = .ok (.getfield 185, 3) := by decide +kernel
theorem d_X12_like_53 : decode prog_14_method_78_code 53 = .ok (.aload_n 0, 1) := by decide +kernel
theorem d_X12_like_54 : decode prog_14_method_78_code 54 = .ok (.getfield 161, 3) := by decide +kernel
theorem d_X12_like_57 : decode prog_14_method_78_code 57 = .ok (.iload_n 1, 1) := by decide +kernel
theorem d_X12_like_58 : decode prog_14_method_78_code 58 = .ok (.iaload, 1) := by decide +kernel
theorem d_X12_like_59 : decode prog_14_method_78_code 59 = .ok (.if_icmp .ne 22, 3) := by decide +kernel
theorem d_X12_like_62 : decode prog_14_method_78_code 62 = .ok (.aload_n 0, 1) := by decide +kernel
theorem d_X12_like_63 : decode prog_14_method_78_code 63 = .ok (.getfield 170, 3) := by decide +kernel
theorem d_X12_like_66 : decode prog_14_method_78_code 66 = .ok (.iconst 0, 1) := by decide +kernel
theorem d_X12_like_67 : decode prog_14_method_78_code 67 = .ok (.iaload, 1) := by decide +kernel
theorem d_X12_like_68 : decode prog_14_method_78_code 68 = .ok (.aload_n 0, 1) := by decide +kernel
theorem d_X12_like_69 : decode prog_14_method_78_code 69 = .ok (.getfield 170, 3) := by decide +kernel
theorem d_X12_like_72 : decode prog_14_method_78_code 72 = .ok (.iconst 1, 1) := by decide +kernel
theorem d_X12_like_73 : decode prog_14_method_78_code 73 = .ok (.iaload, 1) := by decide +kernel
theorem d_X12_like_74 : decode prog_14_method_78_code 74 = .ok (.if_icmp .ne 7, 3) := by decide +kernel
theorem d_X12_like_77 : decode prog_14_method_78_code 77 = .ok (.iconst 1, 1) := by decide +kernel
theorem d_X12_like_78 : decode prog_14_method_78_code 78 = .ok (.goto 4, 3) := by decide +kernel
theorem d_X12_like_81 : decode prog_14_method_78_code 81 = .ok (.iconst 0, 1) := by decide +kernel
theorem d_X12_like_82 : decode prog_14_method_78_code 82 = .ok (.istore_n 2, 1) := by decide +kernel
theorem d_X12_like_83 : decode prog_14_method_78_code 83 = .ok (.iconst 0, 1) := by decide +kernel
theorem d_X12_like_84 : decode prog_14_method_78_code 84 = .ok (.istore_n 3, 1) := by decide +kernel
theorem d_X12_like_85 : decode prog_14_method_78_code 85 = .ok (.iload_n 3, 1) := by decide +kernel
theorem d_X12_like_86 : decode prog_14_method_78_code 86 = .ok (.aload_n 0, 1) := by decide +kernel
theorem d_X12_like_87 : decode prog_14_method_78_code 87 = .ok (.getfield 354, 3) := by decide +kernel
theorem d_X12_like_90 : decode prog_14_method_78_code 90 = .ok (.if_icmp .ge 36, 3) := by decide +kernel
theorem d_X12_like_93 : decode prog_14_method_78_code 93 = .ok (.iload_n 2, 1) := by decide +kernel
theorem d_X12_like_94 : decode prog_14_method_78_code 94 = .ok (.ifCond .eq 32, 3) := by decide +kernel
theorem d_X12_like_97 : decode prog_14_method_78_code 97 = .ok (.aload_n 0, 1) := by decide +kernel
theorem d_X12_like_98 : decode prog_14_method_78_code 98 = .ok (.iconst 0, 1) := by decide +kernel
theorem d_X12_like_99 : decode prog_14_method_78_code 99 = .ok (.iload_n 1, 1) := by decide +kernel
theorem d_X12_like_100 : decode prog_14_method_78_code 100 = .ok (.iload_n 3, 1) := by decide +kernel
theorem d_X12_like_101 : decode prog_14_method_78_code 101 = .ok (.invokevirtual 466, 3) := by decide +kernel
theorem d_X12_like_104 : decode prog_14_method_78_code 104 = .ok (.aload_n 0, 1) := by decide +kernel
theorem d_X12_like_105 : decode prog_14_method_78_code 105 = .ok (.iconst 1, 1) := by decide +kernel
theorem d_X12_like_106 : decode prog_14_method_78_code 106 = .ok (.iload_n 1, 1) := by decide +kernel
theorem d_X12_like_107 : decode prog_14_method_78_code 107 = .ok (.iload_n 3, 1) := by decide +kernel
theorem d_X12_like_108 : decode prog_14_method_78_code 108 = .ok (.invokevirtual 466, 3) := by decide +kernel
theorem d_X12_like_111 : decode prog_14_method_78_code 111 = .ok (.if_icmp .ne 7, 3) := by decide +kernel
theorem d_X12_like_114 : decode prog_14_method_78_code 114 = .ok (.iconst 1, 1) := by decide +kernel
theorem d_X12_like_115 : decode prog_14_method_78_code 115 = .ok (.goto 4, 3) := by decide +kernel
theorem d_X12_like_118 : decode prog_14_method_78_code 118 = .ok (.iconst 0, 1) := by decide +kernel
theorem d_X12_like_119 : decode prog_14_method_78_code 119 = .ok (.istore_n 2, 1) := by decide +kernel
theorem d_X12_like_120 : decode prog_14_method_78_code 120 = .ok (.iinc 3 1, 3) := by decide +kernel
theorem d_X12_like_123 : decode prog_14_method_78_code 123 = .ok (.goto (-38), 3) := by decide +kernel
theorem d_X12_like_126 : decode prog_14_method_78_code 126 = .ok (.iconst 0, 1) := by decide +kernel
theorem d_X12_like_127 : decode prog_14_method_78_code 127 = .ok (.istore_n 3, 1) := by decide +kernel
theorem d_X12_like_128 : decode prog_14_method_78_code 128 = .ok (.iload_n 3, 1) := by decide +kernel
theorem d_X12_like_129 : decode prog_14_method_78_code 129 = .ok (.aload_n 0, 1) := by decide +kernel
theorem d_X12_like_130 : decode prog_14_method_78_code 130 = .ok (.getfield 182, 3) := by decide +kernel
theorem d_X12_like_133 : decode prog_14_method_78_code 133 = .ok (.if_icmp .ge 45, 3) := by decide +kernel
theorem d_X12_like_136 : decode prog_14_method_78_code 136 = .ok (.iload_n 2, 1) := by decide +kernel
theorem d_X12_like_137 : decode prog_14_method_78_code 137 = .ok (.ifCond .eq 41, 3) := by decide +kernel
theorem d_X12_like_140 : decode prog_14_method_78_code 140 = .ok (.aload_n 0, 1) := by decide +kernel
theorem d_X12_like_141 : decode prog_14_method_78_code 141 = .ok (.iconst 0, 1) := by decide +kernel
theorem d_X12_like_142 : decode prog_14_method_78_code 142 = .ok (.aload_n 0, 1) := by decide +kernel
theorem d_X12_like_143 : decode prog_14_method_78_code 143 = .ok (.getfield 55, 3) := by decide +kernel
theorem d_X12_like_146 : decode prog_14_method_78_code 146 = .ok (.iload_n 3, 1) := by decide +kernel
theorem d_X12_like_147 : decode prog_14_method_78_code 147 = .ok (.iaload, 1) := by decide +kernel
theorem d_X12_like_148 : decode prog_14_method_78_code 148 = .ok (.invokevirtual 469, 3) := by decide +kernel
theorem d_X12_like_151 : decode prog_14_method_78_code 151 = .ok (.aload_n 0, 1) := by decide +kernel
theorem d_X12_like_152 : decode prog_14_method_78_code 152 = .ok (.iconst 1, 1) := by decide +kernel
theorem d_X12_like_153 : decode prog_14_method_78_code 153 = .ok (.aload_n 0, 1) := by decide +kernel
theorem d_X12_like_154 : decode prog_14_method_78_code 154 = .ok (.iconst 1, 1) := by decide +kernel
theorem d_X12_like_155 : decode prog_14_method_78_code 155 = .ok (.iload_n 1, 1) := by decide +kernel
theorem d_X12_like_156 : decode prog_14_method_78_code 156 = .ok (.iload_n 3, 1) := by decide +kernel
theorem d_X12_like_157 : decode prog_14_method_78_code 157 = .ok (.invokevirtual 450, 3) := by decide +kernel
theorem d_X12_like_160 : decode prog_14_method_78_code 160 = .ok (.invokevirtual 469, 3) := by decide +kernel
theorem d_X12_like_163 : decode prog_14_method_78_code 163 = .ok (.if_icmp .ne 7, 3) := by decide +kernel
theorem d_X12_like_166 : decode prog_14_method_78_code 166 = .ok (.iconst 1, 1) := by decide +kernel
theorem d_X12_like_167 : decode prog_14_method_78_code 167 = .ok (.goto 4, 3) := by decide +kernel
theorem d_X12_like_170 : decode prog_14_method_78_code 170 = .ok (.iconst 0, 1) := by decide +kernel
theorem d_X12_like_171 : decode prog_14_method_78_code 171 = .ok (.istore_n 2, 1) := by decide +kernel
theorem d_X12_like_172 : decode prog_14_method_78_code 172 = .ok (.iinc 3 1, 3) := by decide +kernel
theorem d_X12_like_175 : decode prog_14_method_78_code 175 = .ok (.goto (-47), 3) := by decide +kernel
theorem d_X12_like_178 : decode prog_14_method_78_code 178 = .ok (.iconst 0, 1) := by decide +kernel
theorem d_X12_like_179 : decode prog_14_method_78_code 179 = .ok (.istore_n 3, 1) := by decide +kernel
theorem d_X12_like_180 : decode prog_14_method_78_code 180 = .ok (.iload_n 3, 1) := by decide +kernel
theorem d_X12_like_181 : decode prog_14_method_78_code 181 = .ok (.aload_n 0, 1) := by decide +kernel
theorem d_X12_like_182 : decode prog_14_method_78_code 182 = .ok (.getfield 170, 3) := by decide +kernel
theorem d_X12_like_185 : decode prog_14_method_78_code 185 = .ok (.iconst 0, 1) := by decide +kernel
theorem d_X12_like_186 : decode prog_14_method_78_code 186 = .ok (.iaload, 1) := by decide +kernel
theorem d_X12_like_187 : decode prog_14_method_78_code 187 = .ok (.if_icmp .ge 131, 3) := by decide +kernel
theorem d_X12_like_190 : decode prog_14_method_78_code 190 = .ok (.iload_n 2, 1) := by decide +kernel
theorem d_X12_like_191 : decode prog_14_method_78_code 191 = .ok (.ifCond .eq 127, 3) := by decide +kernel
theorem d_X12_like_194 : decode prog_14_method_78_code 194 = .ok (.aload_n 0, 1) := by decide +kernel
theorem d_X12_like_195 : decode prog_14_method_78_code 195 = .ok (.getfield 164, 3) := by decide +kernel
theorem d_X12_like_198 : decode prog_14_method_78_code 198 = .ok (.iload_n 3, 1) := by decide +kernel
theorem d_X12_like_199 : decode prog_14_method_78_code 199 = .ok (.iaload, 1) := by decide +kernel
theorem d_X12_like_200 : decode prog_14_method_78_code 200 = .ok (.istore 4, 2) := by decide +kernel
theorem d_X12_like_202 : decode prog_14_method_78_code 202 = .ok (.aload_n 0, 1) := by decide +kernel
theorem d_X12_like_203 : decode prog_14_method_78_code 203 = .ok (.getfield 164, 3) := by decide +kernel
theorem d_X12_like_206 : decode prog_14_method_78_code 206 = .ok (.sipush 400, 3) := by decide +kernel
theorem d_X12_like_209 : decode prog_14_method_78_code 209 = .ok (.iload_n 3, 1) := by decide +kernel
theorem d_X12_like_210 : decode prog_14_method_78_code 210 = .ok (.iadd, 1) := by decide +kernel
theorem d_X12_like_211 : decode prog_14_method_78_code 211 = .ok (.iaload, 1) := by decide +kernel
theorem d_X12_like_212 : decode prog_14_method_78_code 212 = .ok (.istore 5, 2) := by decide +kernel
theorem d_X12_like_214 : decode prog_14_method_78_code 214 = .ok (.aload_n 0, 1) := by decide +kernel
theorem d_X12_like_215 : decode prog_14_method_78_code 215 = .ok (.getfield 49, 3) := by decide +kernel
theorem d_X12_like_218 : decode prog_14_method_78_code 218 = .ok (.iload 4, 2) := by decide +kernel
theorem d_X12_like_220 : decode prog_14_method_78_code 220 = .ok (.iaload, 1) := by decide +kernel
theorem d_X12_like_221 : decode prog_14_method_78_code 221 = .ok (.aload_n 0, 1) := by decide +kernel
theorem d_X12_like_222 : decode prog_14_method_78_code 222 = .ok (.iconst 1, 1) := by decide +kernel
theorem d_X12_like_223 : decode prog_14_method_78_code 223 = .ok (.iload_n 1, 1) := by decide +kernel
theorem d_X12_like_224 : decode prog_14_method_78_code 224 = .ok (.iload 5, 2) := by decide +kernel
theorem d_X12_like_226 : decode prog_14_method_78_code 226 = .ok (.invokevirtual 457, 3) := by decide +kernel
theorem d_X12_like_229 : decode prog_14_method_78_code 229 = .ok (.if_icmp .ne 7, 3) := by decide +kernel
theorem d_X12_like_232 : decode prog_14_method_78_code 232 = .ok (.iconst 1, 1) := by decide +kernel
theorem d_X12_like_233 : decode prog_14_method_78_code 233 = .ok (.goto 4, 3) := by decide +kernel
theorem d_X12_like_236 : decode prog_14_method_78_code 236 = .ok (.iconst 0, 1) := by decide +kernel
theorem d_X12_like_237 : decode prog_14_method_78_code 237 = .ok (.istore_n 2, 1) := by decide +kernel
theorem d_X12_like_238 : decode prog_14_method_78_code 238 = .ok (.iconst 0, 1) := by decide +kernel
theorem d_X12_like_239 : decode prog_14_method_78_code 239 = .ok (.istore 6, 2) := by decide +kernel
theorem d_X12_like_241 : decode prog_14_method_78_code 241 = .ok (.iload_n 2, 1) := by decide +kernel
theorem d_X12_like_242 : decode prog_14_method_78_code 242 = .ok (.ifCond .eq 70, 3) := by decide +kernel
theorem d_X12_like_245 : decode prog_14_method_78_code 245 = .ok (.iload 6, 2) := by decide +kernel
theorem d_X12_like_247 : decode prog_14_method_78_code 247 = .ok (.aload_n 0, 1) := by decide +kernel
theorem d_X12_like_248 : decode prog_14_method_78_code 248 = .ok (.getfield 21, 3) := by decide +kernel
theorem d_X12_like_251 : decode prog_14_method_78_code 251 = .ok (.aload_n 0, 1) := by decide +kernel
theorem d_X12_like_252 : decode prog_14_method_78_code 252 = .ok (.getfield 49, 3) := by decide +kernel
theorem d_X12_like_255 : decode prog_14_method_78_code 255 = .ok (.iload 4, 2) := by decide +kernel
theorem d_X12_like_257 : decode prog_14_method_78_code 257 = .ok (.iaload, 1) := by decide +kernel
theorem d_X12_like_258 : decode prog_14_method_78_code 258 = .ok (.iaload, 1) := by decide +kernel
theorem d_X12_like_259 : decode prog_14_method_78_code 259 = .ok (.if_icmp .ge 53, 3) := by decide +kernel
theorem d_X12_like_262 : decode prog_14_method_78_code 262 = .ok (.aload_n 0, 1) := by decide +kernel
theorem d_X12_like_263 : decode prog_14_method_78_code 263 = .ok (.iconst 0, 1) := by decide +kernel
theorem d_X12_like_264 : decode prog_14_method_78_code 264 = .ok (.aload_n 0, 1) := by decide +kernel
theorem d_X12_like_265 : decode prog_14_method_78_code 265 = .ok (.getfield 52, 3) := by decide +kernel
theorem d_X12_like_268 : decode prog_14_method_78_code 268 = .ok (.iconst 5, 1) := by decide +kernel
theorem d_X12_like_269 : decode prog_14_method_78_code 269 = .ok (.iload 4, 2) := by decide +kernel
theorem d_X12_like_271 : decode prog_14_method_78_code 271 = .ok (.imul, 1) := by decide +kernel
theorem d_X12_like_272 : decode prog_14_method_78_code 272 = .ok (.iload 6, 2) := by decide +kernel
theorem d_X12_like_274 : decode prog_14_method_78_code 274 = .ok (.iadd, 1) := by decide +kernel
theorem d_X12_like_275 : decode prog_14_method_78_code 275 = .ok (.iaload, 1) := by decide +kernel
theorem d_X12_like_276 : decode prog_14_method_78_code 276 = .ok (.invokevirtual 469, 3) := by decide +kernel
theorem d_X12_like_279 : decode prog_14_method_78_code 279 = .ok (.aload_n 0, 1) := by decide +kernel
theorem d_X12_like_280 : decode prog_14_method_78_code 280 = .ok (.iconst 1, 1) := by decide +kernel
theorem d_X12_like_281 : decode prog_14_method_78_code 281 = .ok (.aload_n 0, 1) := by decide +kernel
theorem d_X12_like_282 : decode prog_14_method_78_code 282 = .ok (.iconst 1, 1) := by decide +kernel
theorem d_X12_like_283 : decode prog_14_method_78_code 283 = .ok (.iload_n 1, 1) := by decide +kernel
theorem d_X12_like_284 : decode prog_14_method_78_code 284 = .ok (.iconst 5, 1) := by decide +kernel
theorem d_X12_like_285 : decode prog_14_method_78_code 285 = .ok (.iload 5, 2) := by decide +kernel
theorem d_X12_like_287 : decode prog_14_method_78_code 287 = .ok (.imul, 1) := by decide +kernel
theorem d_X12_like_288 : decode prog_14_method_78_code 288 = .ok (.iload 6, 2) := by decide +kernel
theorem d_X12_like_290 : decode prog_14_method_78_code 290 = .ok (.iadd, 1) := by decide +kernel
theorem d_X12_like_291 : decode prog_14_method_78_code 291 = .ok (.invokevirtual 460, 3) := by decide +kernel
theorem d_X12_like_294 : decode prog_14_method_78_code 294 = .ok (.invokevirtual 469, 3) := by decide +kernel
theorem d_X12_like_297 : decode prog_14_method_78_code 297 = .ok (.if_icmp .ne 7, 3) := by decide +kernel
theorem d_X12_like_300 : decode prog_14_method_78_code 300 = .ok (.iconst 1, 1) := by decide +kernel
theorem d_X12_like_301 : decode prog_14_method_78_code 301 = .ok (.goto 4, 3) := by decide +kernel
theorem d_X12_like_304 : decode prog_14_method_78_code 304 = .ok (.iconst 0, 1) := by decide +kernel
theorem d_X12_like_305 : decode prog_14_method_78_code 305 = .ok (.istore_n 2, 1) := by decide +kernel
theorem d_X12_like_306 : decode prog_14_method_78_code 306 = .ok (.iinc 6 1, 3) := by decide +kernel
theorem d_X12_like_309 : decode prog_14_method_78_code 309 = .ok (.goto (-68), 3) := by decide +kernel
theorem d_X12_like_312 : decode prog_14_method_78_code 312 = .ok (.iinc 3 1, 3) := by decide +kernel
theorem d_X12_like_315 : decode prog_14_method_78_code 315 = .ok (.goto (-135), 3) := by decide +kernel
theorem d_X12_like_318 : decode prog_14_method_78_code 318 = .ok (.iload_n 2, 1) := by decide +kernel
theorem d_X12_like_319 : decode prog_14_method_78_code 319 = .ok (.ifCond .eq 7, 3) := by decide +kernel
theorem d_X12_like_322 : decode prog_14_method_78_code 322 = .ok (.iconst 1, 1) := by decide +kernel
theorem d_X12_like_323 : decode prog_14_method_78_code 323 = .ok (.goto 4, 3) := by decide +kernel
theorem d_X12_like_326 : decode prog_14_method_78_code 326 = .ok (.iconst 0, 1) := by decide +kernel
theorem d_X12_like_327 : decode prog_14_method_78_code 327 = .ok (.ireturn, 1) := by decide +kernel
theorem d_X12_takeWord_0 : decode prog_14_method_12_code 0 = .ok (.aload_n 0, 1) := by decide +kernel
theorem d_X12_takeWord_1 : decode prog_14_method_12_code 1 = .ok (.lconst 0, 1) := by decide +kernel
theorem d_X12_takeWord_2 : decode prog_14_method_12_code 2 = .ok (.putfield 225, 3) := by decide +kernel
theorem d_X12_takeWord_5 : decode prog_14_method_12_code 5 = .ok (.aload_n 0, 1) := by decide +kernel
theorem d_X12_takeWord_6 : decode prog_14_method_12_code 6 = .ok (.iconst 0, 1) := by decide +kernel
theorem d_X12_takeWord_7 : decode prog_14_method_12_code 7 = .ok (.putfield 228, 3) := by decide +kernel
theorem d_X12_takeWord_10 : decode prog_14_method_12_code 10 = .ok (.iload_n 1, 1) := by decide +kernel
theorem d_X12_takeWord_11 : decode prog_14_method_12_code 11 = .ok (.invokestatic 208, 3) := by decide +kernel
theorem d_X12_takeWord_14 : decode prog_14_method_12_code 14 = .ok (.istore_n 2, 1) := by decide +kernel
theorem d_X12_takeWord_15 : decode prog_14_method_12_code 15 = .ok (.iload_n 1, 1) := by decide +kernel
theorem d_X12_takeWord_16 : decode prog_14_method_12_code 16 = .ok (.invokestatic 212, 3) := by decide +kernel
theorem d_X12_takeWord_19 : decode prog_14_method_12_code 19 = .ok (.istore_n 3, 1) := by decide +kernel
theorem d_X12_takeWord_20 : decode prog_14_method_12_code 20 = .ok (.aload_n 0, 1) := by decide +kernel
theorem d_X12_takeWord_21 : decode prog_14_method_12_code 21 = .ok (.aload_n 0, 1) := by decide +kernel
theorem d_X12_takeWord_22 : decode prog_14_method_12_code 22 = .ok (.getfield 195, 3) := by decide +kernel
theorem d_X12_takeWord_25 : decode prog_14_method_12_code 25 = .ok (.invokevirtual 198, 3) := by decide +kernel
theorem d_X12_takeWord_28 : decode prog_14_method_12_code 28 = .ok (.invokestatic 208, 3) := by decide +kernel
theorem d_X12_takeWord_31 : decode prog_14_method_12_code 31 = .ok (.ifCond .ne 31, 3) := by decide +kernel
theorem d_X12_takeWord_34 : decode prog_14_method_12_code 34 = .ok (.aload_n 0, 1) := by decide +kernel
theorem d_X12_takeWord_35 : decode prog_14_method_12_code 35 = .ok (.aload_n 0, 1) := by decide +kernel
theorem d_X12_takeWord_36 : decode prog_14_method_12_code 36 = .ok (.getfield 195, 3) := by decide +kernel
theorem d_X12_takeWord_39 : decode prog_14_method_12_code 39 = .ok (.invokevirtual 198, 3) := by decide +kernel
theorem d_X12_takeWord_42 : decode prog_14_method_12_code 42 = .ok (.invokestatic 212, 3) := by decide +kernel
theorem d_X12_takeWord_45 : decode prog_14_method_12_code 45 = .ok (.ifCond .ne 17, 3) := by decide +kernel
theorem d_X12_takeWord_48 : decode prog_14_method_12_code 48 = .ok (.aload_n 0, 1) := by decide +kernel
theorem d_X12_takeWord_49 : decode prog_14_method_12_code 49 = .ok (.aload_n 0, 1) := by decide +kernel
theorem d_X12_takeWord_50 : decode prog_14_method_12_code 50 = .ok (.getfield 195, 3) := by decide +kernel
theorem d_X12_takeWord_53 : decode prog_14_method_12_code 53 = .ok (.invokevirtual 198, 3) := by decide +kernel
theorem d_X12_takeWord_56 : decode prog_14_method_12_code 56 = .ok (.invokestatic 215, 3) := by decide +kernel
theorem d_X12_takeWord_59 : decode prog_14_method_12_code 59 = .ok (.ifCond .eq 87, 3) := by decide +kernel
theorem d_X12_takeWord_62 : decode prog_14_method_12_code 62 = .ok (.iload_n 2, 1) := by decide +kernel
theorem d_X12_takeWord_63 : decode prog_14_method_12_code 63 = .ok (.ifCond .eq 21, 3) := by decide +kernel
theorem d_X12_takeWord_66 : decode prog_14_method_12_code 66 = .ok (.aload_n 0, 1) := by decide +kernel
theorem d_X12_takeWord_67 : decode prog_14_method_12_code 67 = .ok (.aload_n 0, 1) := by decide +kernel
theorem d_X12_takeWord_68 : decode prog_14_method_12_code 68 = .ok (.getfield 195, 3) := by decide +kernel
theorem d_X12_takeWord_71 : decode prog_14_method_12_code 71 = .ok (.invokevirtual 198, 3) := by decide +kernel
theorem d_X12_takeWord_74 : decode prog_14_method_12_code 74 = .ok (.invokestatic 212, 3) := by decide +kernel
theorem d_X12_takeWord_77 : decode prog_14_method_12_code 77 = .ok (.ifCond .ne 7, 3) := by decide +kernel
theorem d_X12_takeWord_80 : decode prog_14_method_12_code 80 = .ok (.iconst 1, 1) := by decide +kernel
theorem d_X12_takeWord_81 : decode prog_14_method_12_code 81 = .ok (.goto 4, 3) := by decide +kernel
theorem d_X12_takeWord_84 : decode prog_14_method_12_code 84 = .ok (.iconst 0, 1) := by decide +kernel
theorem d_X12_takeWord_85 : decode prog_14_method_12_code 85 = .ok (.istore_n 2, 1) := by decide +kernel
theorem d_X12_takeWord_86 : decode prog_14_method_12_code 86 = .ok (.aload_n 0, 1) := by decide +kernel
theorem d_X12_takeWord_87 : decode prog_14_method_12_code 87 = .ok (.aload_n 0, 1) := by decide +kernel
theorem d_X12_takeWord_88 : decode prog_14_method_12_code 88 = .ok (.getfield 228, 3) := by decide +kernel
theorem d_X12_takeWord_91 : decode prog_14_method_12_code 91 = .ok (.bipush 8, 2) := by decide +kernel
theorem d_X12_takeWord_93 : decode prog_14_method_12_code 93 = .ok (.if_icmp .ge 23, 3) := by decide +kernel
theorem d_X12_takeWord_96 : decode prog_14_method_12_code 96 = .ok (.aload_n 0, 1) := by decide +kernel
theorem d_X12_takeWord_97 : decode prog_14_method_12_code 97 = .ok (.getfield 225, 3) := by decide +kernel
theorem d_X12_takeWord_100 : decode prog_14_method_12_code 100 = .ok (.bipush 8, 2) := by decide +kernel
theorem d_X12_takeWord_102 : decode prog_14_method_12_code 102 = .ok (.lshl, 1) := by decide +kernel
theorem d_X12_takeWord_103 : decode prog_14_method_12_code 103 = .ok (.aload_n 0, 1) := by decide +kernel
theorem d_X12_takeWord_104 : decode prog_14_method_12_code 104 = .ok (.aload_n 0, 1) := by decide +kernel
theorem d_X12_takeWord_105 : decode prog_14_method_12_code 105 = .ok (.getfield 195, 3) := by decide +kernel
theorem d_X12_takeWord_108 : decode prog_14_method_12_code 108 = .ok (.invokevirtual 198, 3) := by decide +kernel
theorem d_X12_takeWord_111 : decode prog_14_method_12_code 111 = .ok (.i2l, 1) := by decide +kernel
theorem d_X12_takeWord_112 : decode prog_14_method_12_code 112 = .ok (.lor, 1) := by decide +kernel
theorem d_X12_takeWord_113 : decode prog_14_method_12_code 113 = .ok (.goto 7, 3) := by decide +kernel
theorem d_X12_takeWord_116 : decode prog_14_method_12_code 116 = .ok (.aload_n 0, 1) := by decide +kernel
theorem d_X12_takeWord_117 : decode prog_14_method_12_code 117 = .ok (.getfield 225, 3) := by decide +kernel
theorem d_X12_takeWord_120 : decode prog_14_method_12_code 120 = .ok (.putfield 225, 3) := by decide +kernel
theorem d_X12_takeWord_123 : decode prog_14_method_12_code 123 = .ok (.aload_n 0, 1) := by decide +kernel
theorem d_X12_takeWord_124 : decode prog_14_method_12_code 124 = .ok (.dup, 1) := by decide +kernel
theorem d_X12_takeWord_125 : decode prog_14_method_12_code 125 = .ok (.getfield 228, 3) := by decide +kernel
theorem d_X12_takeWord_128 : decode prog_14_method_12_code 128 = .ok (.iconst 1, 1) := by decide +kernel
theorem d_X12_takeWord_129 : decode prog_14_method_12_code 129 = .ok (.iadd, 1) := by decide +kernel
theorem d_X12_takeWord_130 : decode prog_14_method_12_code 130 = .ok (.putfield 228, 3) := by decide +kernel
theorem d_X12_takeWord_133 : decode prog_14_method_12_code 133 = .ok (.aload_n 0, 1) := by decide +kernel
theorem d_X12_takeWord_134 : decode prog_14_method_12_code 134 = .ok (.dup, 1) := by decide +kernel
theorem d_X12_takeWord_135 : decode prog_14_method_12_code 135 = .ok (.getfield 195, 3) := by decide +kernel
theorem d_X12_takeWord_138 : decode prog_14_method_12_code 138 = .ok (.iconst 1, 1) := by decide +kernel
theorem d_X12_takeWord_139 : decode prog_14_method_12_code 139 = .ok (.iadd, 1) := by decide +kernel
theorem d_X12_takeWord_140 : decode prog_14_method_12_code 140 = .ok (.putfield 195, 3) := by decide +kernel
theorem d_X12_takeWord_143 : decode prog_14_method_12_code 143 = .ok (.goto (-123), 3) := by decide +kernel
theorem d_X12_takeWord_146 : decode prog_14_method_12_code 146 = .ok (.aload_n 0, 1) := by decide +kernel
theorem d_X12_takeWord_147 : decode prog_14_method_12_code 147 = .ok (.aload_n 0, 1) := by decide +kernel
theorem d_X12_takeWord_148 : decode prog_14_method_12_code 148 = .ok (.getfield 228, 3) := by decide +kernel
theorem d_X12_takeWord_151 : decode prog_14_method_12_code 151 = .ok (.bipush 8, 2) := by decide +kernel
theorem d_X12_takeWord_153 : decode prog_14_method_12_code 153 = .ok (.if_icmp .le 8, 3) := by decide +kernel
theorem d_X12_takeWord_156 : decode prog_14_method_12_code 156 = .ok (.bipush 6, 2) := by decide +kernel
theorem d_X12_takeWord_158 : decode prog_14_method_12_code 158 = .ok (.goto 21, 3) := by decide +kernel
theorem d_X12_takeWord_161 : decode prog_14_method_12_code 161 = .ok (.iload_n 2, 1) := by decide +kernel
theorem d_X12_takeWord_162 : decode prog_14_method_12_code 162 = .ok (.ifCond .eq 7, 3) := by decide +kernel
theorem d_X12_takeWord_165 : decode prog_14_method_12_code 165 = .ok (.iconst 1, 1) := by decide +kernel
theorem d_X12_takeWord_166 : decode prog_14_method_12_code 166 = .ok (.goto 13, 3) := by decide +kernel
theorem d_X12_takeWord_169 : decode prog_14_method_12_code 169 = .ok (.iload_n 3, 1) := by decide +kernel
theorem d_X12_takeWord_170 : decode prog_14_method_12_code 170 = .ok (.ifCond .eq 7, 3) := by decide +kernel
theorem d_X12_takeWord_173 : decode prog_14_method_12_code 173 = .ok (.iconst 2, 1) := by decide +kernel
theorem d_X12_takeWord_174 : decode prog_14_method_12_code 174 = .ok (.goto 5, 3) := by decide +kernel
theorem d_X12_takeWord_177 : decode prog_14_method_12_code 177 = .ok (.bipush 6, 2) := by decide +kernel
theorem d_X12_takeWord_179 : decode prog_14_method_12_code 179 = .ok (.putfield 205, 3) := by decide +kernel
theorem d_X12_takeWord_182 : decode prog_14_method_12_code 182 = .ok (.return_, 1) := by decide +kernel
theorem d_X12_take_0 : decode prog_14_method_11_code 0 = .ok (.aload_n 0, 1) := by decide +kernel
theorem d_X12_take_1 : decode prog_14_method_11_code 1 = .ok (.aload_n 0, 1) := by decide +kernel
theorem d_X12_take_2 : decode prog_14_method_11_code 2 = .ok (.getfield 195, 3) := by decide +kernel
theorem d_X12_take_5 : decode prog_14_method_11_code 5 = .ok (.invokevirtual 198, 3) := by decide +kernel
theorem d_X12_take_8 : decode prog_14_method_11_code 8 = .ok (.bipush 32, 2) := by decide +kernel
theorem d_X12_take_10 : decode prog_14_method_11_code 10 = .ok (.if_icmp .eq 16, 3) := by decide +kernel
theorem d_X12_take_13 : decode prog_14_method_11_code 13 = .ok (.aload_n 0, 1) := by decide +kernel
theorem d_X12_take_14 : decode prog_14_method_11_code 14 = .ok (.aload_n 0, 1) := by decide +kernel
theorem d_X12_take_15 : decode prog_14_method_11_code 15 = .ok (.getfield 195, 3) := by decide +kernel
theorem d_X12_take_18 : decode prog_14_method_11_code 18 = .ok (.invokevirtual 198, 3) := by decide +kernel
theorem d_X12_take_21 : decode prog_14_method_11_code 21 = .ok (.bipush 10, 2) := by decide +kernel
theorem d_X12_take_23 : decode prog_14_method_11_code 23 = .ok (.if_icmp .ne 16, 3) := by decide +kernel
theorem d_X12_take_26 : decode prog_14_method_11_code 26 = .ok (.aload_n 0, 1) := by decide +kernel
theorem d_X12_take_27 : decode prog_14_method_11_code 27 = .ok (.dup, 1) := by decide +kernel
theorem d_X12_take_28 : decode prog_14_method_11_code 28 = .ok (.getfield 195, 3) := by decide +kernel
theorem d_X12_take_31 : decode prog_14_method_11_code 31 = .ok (.iconst 1, 1) := by decide +kernel
theorem d_X12_take_32 : decode prog_14_method_11_code 32 = .ok (.iadd, 1) := by decide +kernel
theorem d_X12_take_33 : decode prog_14_method_11_code 33 = .ok (.putfield 195, 3) := by decide +kernel
theorem d_X12_take_36 : decode prog_14_method_11_code 36 = .ok (.goto (-36), 3) := by decide +kernel
theorem d_X12_take_39 : decode prog_14_method_11_code 39 = .ok (.aload_n 0, 1) := by decide +kernel
theorem d_X12_take_40 : decode prog_14_method_11_code 40 = .ok (.aload_n 0, 1) := by decide +kernel
theorem d_X12_take_41 : decode prog_14_method_11_code 41 = .ok (.getfield 195, 3) := by decide +kernel
theorem d_X12_take_44 : decode prog_14_method_11_code 44 = .ok (.putfield 202, 3) := by decide +kernel
theorem d_X12_take_47 : decode prog_14_method_11_code 47 = .ok (.aload_n 0, 1) := by decide +kernel
theorem d_X12_take_48 : decode prog_14_method_11_code 48 = .ok (.getfield 195, 3) := by decide +kernel
theorem d_X12_take_51 : decode prog_14_method_11_code 51 = .ok (.aload_n 0, 1) := by decide +kernel
theorem d_X12_take_52 : decode prog_14_method_11_code 52 = .ok (.getfield 188, 3) := by decide +kernel
theorem d_X12_take_55 : decode prog_14_method_11_code 55 = .ok (.if_icmp .lt 9, 3) := by decide +kernel
theorem d_X12_take_58 : decode prog_14_method_11_code 58 = .ok (.aload_n 0, 1) := by decide +kernel
theorem d_X12_take_59 : decode prog_14_method_11_code 59 = .ok (.iconst 5, 1) := by decide +kernel
theorem d_X12_take_60 : decode prog_14_method_11_code 60 = .ok (.putfield 205, 3) := by decide +kernel
theorem d_X12_take_63 : decode prog_14_method_11_code 63 = .ok (.return_, 1) := by decide +kernel
theorem d_X12_take_64 : decode prog_14_method_11_code 64 = .ok (.aload_n 0, 1) := by decide +kernel
theorem d_X12_take_65 : decode prog_14_method_11_code 65 = .ok (.aload_n 0, 1) := by decide +kernel
theorem d_X12_take_66 : decode prog_14_method_11_code 66 = .ok (.getfield 195, 3) := by decide +kernel
theorem d_X12_take_69 : decode prog_14_method_11_code 69 = .ok (.invokevirtual 198, 3) := by decide +kernel
theorem d_X12_take_72 : decode prog_14_method_11_code 72 = .ok (.istore_n 1, 1) := by decide +kernel
theorem d_X12_take_73 : decode prog_14_method_11_code 73 = .ok (.iload_n 1, 1) := by decide +kernel
theorem d_X12_take_74 : decode prog_14_method_11_code 74 = .ok (.invokestatic 208, 3) := by decide +kernel
theorem d_X12_take_77 : decode prog_14_method_11_code 77 = .ok (.ifCond .ne 17, 3) := by decide +kernel
theorem d_X12_take_80 : decode prog_14_method_11_code 80 = .ok (.iload_n 1, 1) := by decide +kernel
theorem d_X12_take_81 : decode prog_14_method_11_code 81 = .ok (.invokestatic 212, 3) := by decide +kernel
theorem d_X12_take_84 : decode prog_14_method_11_code 84 = .ok (.ifCond .ne 10, 3) := by decide +kernel
theorem d_X12_take_87 : decode prog_14_method_11_code 87 = .ok (.iload_n 1, 1) := by decide +kernel
theorem d_X12_take_88 : decode prog_14_method_11_code 88 = .ok (.invokestatic 215, 3) := by decide +kernel
theorem d_X12_take_91 : decode prog_14_method_11_code 91 = .ok (.ifCond .eq 9, 3) := by decide +kernel
theorem d_X12_take_94 : decode prog_14_method_11_code 94 = .ok (.aload_n 0, 1) := by decide +kernel
theorem d_X12_take_95 : decode prog_14_method_11_code 95 = .ok (.iload_n 1, 1) := by decide +kernel
theorem d_X12_take_96 : decode prog_14_method_11_code 96 = .ok (.invokevirtual 218, 3) := by decide +kernel
theorem d_X12_take_99 : decode prog_14_method_11_code 99 = .ok (.return_, 1) := by decide +kernel
theorem d_X12_take_100 : decode prog_14_method_11_code 100 = .ok (.aload_n 0, 1) := by decide +kernel
theorem d_X12_take_101 : decode prog_14_method_11_code 101 = .ok (.dup, 1) := by decide +kernel
theorem d_X12_take_102 : decode prog_14_method_11_code 102 = .ok (.getfield 195, 3) := by decide +kernel
theorem d_X12_take_105 : decode prog_14_method_11_code 105 = .ok (.iconst 1, 1) := by decide +kernel
theorem d_X12_take_106 : decode prog_14_method_11_code 106 = .ok (.iadd, 1) := by decide +kernel
theorem d_X12_take_107 : decode prog_14_method_11_code 107 = .ok (.putfield 195, 3) := by decide +kernel
theorem d_X12_take_110 : decode prog_14_method_11_code 110 = .ok (.aload_n 0, 1) := by decide +kernel
theorem d_X12_take_111 : decode prog_14_method_11_code 111 = .ok (.iload_n 1, 1) := by decide +kernel
theorem d_X12_take_112 : decode prog_14_method_11_code 112 = .ok (.putfield 222, 3) := by decide +kernel
theorem d_X12_take_115 : decode prog_14_method_11_code 115 = .ok (.iload_n 1, 1) := by decide +kernel
theorem d_X12_take_116 : decode prog_14_method_11_code 116 = .ok (.bipush 62, 2) := by decide +kernel
theorem d_X12_take_118 : decode prog_14_method_11_code 118 = .ok (.if_icmp .ne 32, 3) := by decide +kernel
theorem d_X12_take_121 : decode prog_14_method_11_code 121 = .ok (.aload_n 0, 1) := by decide +kernel
theorem d_X12_take_122 : decode prog_14_method_11_code 122 = .ok (.aload_n 0, 1) := by decide +kernel
theorem d_X12_take_123 : decode prog_14_method_11_code 123 = .ok (.getfield 195, 3) := by decide +kernel
theorem d_X12_take_126 : decode prog_14_method_11_code 126 = .ok (.invokevirtual 198, 3) := by decide +kernel
theorem d_X12_take_129 : decode prog_14_method_11_code 129 = .ok (.bipush 60, 2) := by decide +kernel
theorem d_X12_take_131 : decode prog_14_method_11_code 131 = .ok (.if_icmp .ne 19, 3) := by decide +kernel
theorem d_X12_take_134 : decode prog_14_method_11_code 134 = .ok (.aload_n 0, 1) := by decide +kernel
theorem d_X12_take_135 : decode prog_14_method_11_code 135 = .ok (.dup, 1) := by decide +kernel
theorem d_X12_take_136 : decode prog_14_method_11_code 136 = .ok (.getfield 195, 3) := by decide +kernel
theorem d_X12_take_139 : decode prog_14_method_11_code 139 = .ok (.iconst 1, 1) := by decide +kernel
theorem d_X12_take_140 : decode prog_14_method_11_code 140 = .ok (.iadd, 1) := by decide +kernel
theorem d_X12_take_141 : decode prog_14_method_11_code 141 = .ok (.putfield 195, 3) := by decide +kernel
theorem d_X12_take_144 : decode prog_14_method_11_code 144 = .ok (.aload_n 0, 1) := by decide +kernel
theorem d_X12_take_145 : decode prog_14_method_11_code 145 = .ok (.iconst 4, 1) := by decide +kernel
theorem d_X12_take_146 : decode prog_14_method_11_code 146 = .ok (.putfield 205, 3) := by decide +kernel
theorem d_X12_take_149 : decode prog_14_method_11_code 149 = .ok (.return_, 1) := by decide +kernel
theorem d_X12_take_150 : decode prog_14_method_11_code 150 = .ok (.iload_n 1, 1) := by decide +kernel
theorem d_X12_take_151 : decode prog_14_method_11_code 151 = .ok (.bipush 40, 2) := by decide +kernel
theorem d_X12_take_153 : decode prog_14_method_11_code 153 = .ok (.if_icmp .eq 45, 3) := by decide +kernel
theorem d_X12_take_156 : decode prog_14_method_11_code 156 = .ok (.iload_n 1, 1) := by decide +kernel
theorem d_X12_take_157 : decode prog_14_method_11_code 157 = .ok (.bipush 41, 2) := by decide +kernel
theorem d_X12_take_159 : decode prog_14_method_11_code 159 = .ok (.if_icmp .eq 39, 3) := by decide +kernel
theorem d_X12_take_162 : decode prog_14_method_11_code 162 = .ok (.iload_n 1, 1) := by decide +kernel
theorem d_X12_take_163 : decode prog_14_method_11_code 163 = .ok (.bipush 44, 2) := by decide +kernel
theorem d_X12_take_165 : decode prog_14_method_11_code 165 = .ok (.if_icmp .eq 33, 3) := by decide +kernel
theorem d_X12_take_168 : decode prog_14_method_11_code 168 = .ok (.iload_n 1, 1) := by decide +kernel
theorem d_X12_take_169 : decode prog_14_method_11_code 169 = .ok (.bipush 61, 2) := by decide +kernel
theorem d_X12_take_171 : decode prog_14_method_11_code 171 = .ok (.if_icmp .eq 27, 3) := by decide +kernel
theorem d_X12_take_174 : decode prog_14_method_11_code 174 = .ok (.iload_n 1, 1) := by decide +kernel
theorem d_X12_take_175 : decode prog_14_method_11_code 175 = .ok (.bipush 59, 2) := by decide +kernel
theorem d_X12_take_177 : decode prog_14_method_11_code 177 = .ok (.if_icmp .eq 21, 3) := by decide +kernel
theorem d_X12_take_180 : decode prog_14_method_11_code 180 = .ok (.iload_n 1, 1) := by decide +kernel
theorem d_X12_take_181 : decode prog_14_method_11_code 181 = .ok (.bipush 43, 2) := by decide +kernel
theorem d_X12_take_183 : decode prog_14_method_11_code 183 = .ok (.if_icmp .eq 15, 3) := by decide +kernel
theorem d_X12_take_186 : decode prog_14_method_11_code 186 = .ok (.iload_n 1, 1) := by decide +kernel
theorem d_X12_take_187 : decode prog_14_method_11_code 187 = .ok (.bipush 45, 2) := by decide +kernel
theorem d_X12_take_189 : decode prog_14_method_11_code 189 = .ok (.if_icmp .eq 9, 3) := by decide +kernel
theorem d_X12_take_192 : decode prog_14_method_11_code 192 = .ok (.iload_n 1, 1) := by decide +kernel
theorem d_X12_take_193 : decode prog_14_method_11_code 193 = .ok (.bipush 58, 2) := by decide +kernel
theorem d_X12_take_195 : decode prog_14_method_11_code 195 = .ok (.if_icmp .ne 7, 3) := by decide +kernel
theorem d_X12_take_198 : decode prog_14_method_11_code 198 = .ok (.iconst 1, 1) := by decide +kernel
theorem d_X12_take_199 : decode prog_14_method_11_code 199 = .ok (.goto 4, 3) := by decide +kernel
theorem d_X12_take_202 : decode prog_14_method_11_code 202 = .ok (.iconst 0, 1) := by decide +kernel
theorem d_X12_take_203 : decode prog_14_method_11_code 203 = .ok (.istore_n 2, 1) := by decide +kernel
theorem d_X12_take_204 : decode prog_14_method_11_code 204 = .ok (.aload_n 0, 1) := by decide +kernel
theorem d_X12_take_205 : decode prog_14_method_11_code 205 = .ok (.iload_n 2, 1) := by decide +kernel
theorem d_X12_take_206 : decode prog_14_method_11_code 206 = .ok (.ifCond .eq 7, 3) := by decide +kernel
theorem d_X12_take_209 : decode prog_14_method_11_code 209 = .ok (.iconst 3, 1) := by decide +kernel
theorem d_X12_take_210 : decode prog_14_method_11_code 210 = .ok (.goto 5, 3) := by decide +kernel
theorem d_X12_take_213 : decode prog_14_method_11_code 213 = .ok (.bipush 6, 2) := by decide +kernel
theorem d_X12_take_215 : decode prog_14_method_11_code 215 = .ok (.putfield 205, 3) := by decide +kernel
theorem d_X12_take_218 : decode prog_14_method_11_code 218 = .ok (.return_, 1) := by decide +kernel
theorem d_X12_wrong_0 : decode prog_14_method_15_code 0 = .ok (.aload_n 0, 1) := by decide +kernel
theorem d_X12_wrong_1 : decode prog_14_method_15_code 1 = .ok (.aload_n 0, 1) := by decide +kernel
theorem d_X12_wrong_2 : decode prog_14_method_15_code 2 = .ok (.getfield 205, 3) := by decide +kernel
theorem d_X12_wrong_5 : decode prog_14_method_15_code 5 = .ok (.bipush 6, 2) := by decide +kernel
theorem d_X12_wrong_7 : decode prog_14_method_15_code 7 = .ok (.if_icmp .ne 7, 3) := by decide +kernel
theorem d_X12_wrong_10 : decode prog_14_method_15_code 10 = .ok (.iconst 1, 1) := by decide +kernel
theorem d_X12_wrong_11 : decode prog_14_method_15_code 11 = .ok (.goto 4, 3) := by decide +kernel
theorem d_X12_wrong_14 : decode prog_14_method_15_code 14 = .ok (.iconst 2, 1) := by decide +kernel
theorem d_X12_wrong_15 : decode prog_14_method_15_code 15 = .ok (.aload_n 0, 1) := by decide +kernel
theorem d_X12_wrong_16 : decode prog_14_method_15_code 16 = .ok (.getfield 202, 3) := by decide +kernel
theorem d_X12_wrong_19 : decode prog_14_method_15_code 19 = .ok (.invokevirtual 234, 3) := by decide +kernel
theorem d_X12_wrong_22 : decode prog_14_method_15_code 22 = .ok (.ireturn, 1) := by decide +kernel
theorem d_X12_needs_0 : decode prog_14_method_16_code 0 = .ok (.aload_n 0, 1) := by decide +kernel
theorem d_X12_needs_1 : decode prog_14_method_16_code 1 = .ok (.iload_n 1, 1) := by decide +kernel
theorem d_X12_needs_2 : decode prog_14_method_16_code 2 = .ok (.invokevirtual 238, 3) := by decide +kernel
