theorem d_La_law_241 : decode b_La_law 241 = .ok (.aload_n 2, 1) := by decide +kernel
theorem d_La_law_242 : decode b_La_law 242 = .ok (.aload_n 0, 1) := by decide +kernel
theorem d_La_law_243 : decode b_La_law 243 = .ok (.iload 4, 2) := by decide +kernel
theorem d_La_law_245 : decode b_La_law 245 = .ok (.iconst 1, 1) := by decide +kernel
theorem d_La_law_246 : decode b_La_law 246 = .ok (.iadd, 1) := by decide +kernel
theorem d_La_law_247 : decode b_La_law 247 = .ok (.iaload, 1) := by decide +kernel
theorem d_La_law_248 : decode b_La_law 248 = .ok (.invokevirtual 72, 3) := by decide +kernel
theorem d_La_law_251 : decode b_La_law 251 = .ok (.istore 6, 2) := by decide +kernel
theorem d_La_law_253 : decode b_La_law 253 = .ok (.aload_n 2, 1) := by decide +kernel
theorem d_La_law_254 : decode b_La_law 254 = .ok (.invokevirtual 62, 3) := by decide +kernel
theorem d_La_law_257 : decode b_La_law 257 = .ok (.iload 5, 2) := by decide +kernel
theorem d_La_law_259 : decode b_La_law 259 = .ok (.if_icmp .eq 5, 3) := by decide +kernel
theorem d_La_law_262 : decode b_La_law 262 = .ok (.iconst 0, 1) := by decide +kernel
theorem d_La_law_263 : decode b_La_law 263 = .ok (.ireturn, 1) := by decide +kernel
theorem d_La_law_264 : decode b_La_law 264 = .ok (.iload 5, 2) := by decide +kernel
theorem d_La_law_266 : decode b_La_law 266 = .ok (.ifCond .ne 15, 3) := by decide +kernel
theorem d_La_law_269 : decode b_La_law 269 = .ok (.aload_n 3, 1) := by decide +kernel
theorem d_La_law_270 : decode b_La_law 270 = .ok (.iconst 0, 1) := by decide +kernel
theorem d_La_law_271 : decode b_La_law 271 = .ok (.laload, 1) := by decide +kernel
theorem d_La_law_272 : decode b_La_law 272 = .ok (.iload 6, 2) := by decide +kernel
theorem d_La_law_274 : decode b_La_law 274 = .ok (.i2l, 1) := by decide +kernel
theorem d_La_law_275 : decode b_La_law 275 = .ok (.lcmp, 1) := by decide +kernel
theorem d_La_law_276 : decode b_La_law 276 = .ok (.ifCond .eq 5, 3) := by decide +kernel
theorem d_La_law_279 : decode b_La_law 279 = .ok (.iconst 0, 1) := by decide +kernel
theorem d_La_law_280 : decode b_La_law 280 = .ok (.ireturn, 1) := by decide +kernel
theorem d_La_law_281 : decode b_La_law 281 = .ok (.goto 448, 3) := by decide +kernel
theorem d_La_law_284 : decode b_La_law 284 = .ok (.aload_n 1, 1) := by decide +kernel
theorem d_La_law_285 : decode b_La_law 285 = .ok (.aload_n 0, 1) := by decide +kernel
theorem d_La_law_286 : decode b_La_law 286 = .ok (.iload 4, 2) := by decide +kernel
theorem d_La_law_288 : decode b_La_law 288 = .ok (.iconst 1, 1) := by decide +kernel
theorem d_La_law_289 : decode b_La_law 289 = .ok (.iadd, 1) := by decide +kernel
theorem d_La_law_290 : decode b_La_law 290 = .ok (.iaload, 1) := by decide +kernel
theorem d_La_law_291 : decode b_La_law 291 = .ok (.aload_n 3, 1) := by decide +kernel
theorem d_La_law_292 : decode b_La_law 292 = .ok (.invokestatic 73, 3) := by decide +kernel
theorem d_La_law_295 : decode b_La_law 295 = .ok (.istore 5, 2) := by decide +kernel
theorem d_La_law_297 : decode b_La_law 297 = .ok (.aload_n 2, 1) := by decide +kernel
theorem d_La_law_298 : decode b_La_law 298 = .ok (.aload_n 0, 1) := by decide +kernel
theorem d_La_law_299 : decode b_La_law 299 = .ok (.iload 4, 2) := by decide +kernel
theorem d_La_law_301 : decode b_La_law 301 = .ok (.iconst 1, 1) := by decide +kernel
theorem d_La_law_302 : decode b_La_law 302 = .ok (.iadd, 1) := by decide +kernel
theorem d_La_law_303 : decode b_La_law 303 = .ok (.iaload, 1) := by decide +kernel
theorem d_La_law_304 : decode b_La_law 304 = .ok (.invokevirtual 75, 3) := by decide +kernel
theorem d_La_law_307 : decode b_La_law 307 = .ok (.istore 6, 2) := by decide +kernel
theorem d_La_law_309 : decode b_La_law 309 = .ok (.aload_n 2, 1) := by decide +kernel
theorem d_La_law_310 : decode b_La_law 310 = .ok (.invokevirtual 62, 3) := by decide +kernel
theorem d_La_law_313 : decode b_La_law 313 = .ok (.iload 5, 2) := by decide +kernel
theorem d_La_law_315 : decode b_La_law 315 = .ok (.if_icmp .eq 5, 3) := by decide +kernel
theorem d_La_law_318 : decode b_La_law 318 = .ok (.iconst 0, 1) := by decide +kernel
theorem d_La_law_319 : decode b_La_law 319 = .ok (.ireturn, 1) := by decide +kernel
theorem d_La_law_320 : decode b_La_law 320 = .ok (.iload 5, 2) := by decide +kernel
theorem d_La_law_322 : decode b_La_law 322 = .ok (.ifCond .ne 22, 3) := by decide +kernel
theorem d_La_law_325 : decode b_La_law 325 = .ok (.aload_n 3, 1) := by decide +kernel
theorem d_La_law_326 : decode b_La_law 326 = .ok (.iconst 0, 1) := by decide +kernel
theorem d_La_law_327 : decode b_La_law 327 = .ok (.laload, 1) := by decide +kernel
theorem d_La_law_328 : decode b_La_law 328 = .ok (.iload 6, 2) := by decide +kernel
theorem d_La_law_330 : decode b_La_law 330 = .ok (.ifCond .eq 7, 3) := by decide +kernel
theorem d_La_law_333 : decode b_La_law 333 = .ok (.lconst 1, 1) := by decide +kernel
theorem d_La_law_334 : decode b_La_law 334 = .ok (.goto 4, 3) := by decide +kernel
theorem d_La_law_337 : decode b_La_law 337 = .ok (.lconst 0, 1) := by decide +kernel
theorem d_La_law_338 : decode b_La_law 338 = .ok (.lcmp, 1) := by decide +kernel
theorem d_La_law_339 : decode b_La_law 339 = .ok (.ifCond .eq 5, 3) := by decide +kernel
theorem d_La_law_342 : decode b_La_law 342 = .ok (.iconst 0, 1) := by decide +kernel
theorem d_La_law_343 : decode b_La_law 343 = .ok (.ireturn, 1) := by decide +kernel
theorem d_La_law_344 : decode b_La_law 344 = .ok (.goto 385, 3) := by decide +kernel
theorem d_La_law_347 : decode b_La_law 347 = .ok (.aload_n 1, 1) := by decide +kernel
theorem d_La_law_348 : decode b_La_law 348 = .ok (.aload_n 0, 1) := by decide +kernel
theorem d_La_law_349 : decode b_La_law 349 = .ok (.iload 4, 2) := by decide +kernel
theorem d_La_law_351 : decode b_La_law 351 = .ok (.iconst 1, 1) := by decide +kernel
theorem d_La_law_352 : decode b_La_law 352 = .ok (.iadd, 1) := by decide +kernel
theorem d_La_law_353 : decode b_La_law 353 = .ok (.iaload, 1) := by decide +kernel
theorem d_La_law_354 : decode b_La_law 354 = .ok (.aload_n 3, 1) := by decide +kernel
theorem d_La_law_355 : decode b_La_law 355 = .ok (.invokestatic 76, 3) := by decide +kernel
theorem d_La_law_358 : decode b_La_law 358 = .ok (.istore 5, 2) := by decide +kernel
theorem d_La_law_360 : decode b_La_law 360 = .ok (.aload_n 2, 1) := by decide +kernel
theorem d_La_law_361 : decode b_La_law 361 = .ok (.aload_n 0, 1) := by decide +kernel
theorem d_La_law_362 : decode b_La_law 362 = .ok (.iload 4, 2) := by decide +kernel
theorem d_La_law_364 : decode b_La_law 364 = .ok (.iconst 1, 1) := by decide +kernel
theorem d_La_law_365 : decode b_La_law 365 = .ok (.iadd, 1) := by decide +kernel
theorem d_La_law_366 : decode b_La_law 366 = .ok (.iaload, 1) := by decide +kernel
theorem d_La_law_367 : decode b_La_law 367 = .ok (.invokevirtual 78, 3) := by decide +kernel
theorem d_La_law_370 : decode b_La_law 370 = .ok (.istore 6, 2) := by decide +kernel
theorem d_La_law_372 : decode b_La_law 372 = .ok (.aload_n 2, 1) := by decide +kernel
theorem d_La_law_373 : decode b_La_law 373 = .ok (.invokevirtual 62, 3) := by decide +kernel
theorem d_La_law_376 : decode b_La_law 376 = .ok (.iload 5, 2) := by decide +kernel
theorem d_La_law_378 : decode b_La_law 378 = .ok (.if_icmp .eq 5, 3) := by decide +kernel
theorem d_La_law_381 : decode b_La_law 381 = .ok (.iconst 0, 1) := by decide +kernel
theorem d_La_law_382 : decode b_La_law 382 = .ok (.ireturn, 1) := by decide +kernel
theorem d_La_law_383 : decode b_La_law 383 = .ok (.iload 5, 2) := by decide +kernel
theorem d_La_law_385 : decode b_La_law 385 = .ok (.ifCond .ne 15, 3) := by decide +kernel
theorem d_La_law_388 : decode b_La_law 388 = .ok (.aload_n 3, 1) := by decide +kernel
theorem d_La_law_389 : decode b_La_law 389 = .ok (.iconst 0, 1) := by decide +kernel
theorem d_La_law_390 : decode b_La_law 390 = .ok (.laload, 1) := by decide +kernel
theorem d_La_law_391 : decode b_La_law 391 = .ok (.iload 6, 2) := by decide +kernel
theorem d_La_law_393 : decode b_La_law 393 = .ok (.i2l, 1) := by decide +kernel
theorem d_La_law_394 : decode b_La_law 394 = .ok (.lcmp, 1) := by decide +kernel
theorem d_La_law_395 : decode b_La_law 395 = .ok (.ifCond .eq 5, 3) := by decide +kernel
theorem d_La_law_398 : decode b_La_law 398 = .ok (.iconst 0, 1) := by decide +kernel
theorem d_La_law_399 : decode b_La_law 399 = .ok (.ireturn, 1) := by decide +kernel
theorem d_La_law_400 : decode b_La_law 400 = .ok (.goto 329, 3) := by decide +kernel
theorem d_La_law_403 : decode b_La_law 403 = .ok (.aload_n 1, 1) := by decide +kernel
theorem d_La_law_404 : decode b_La_law 404 = .ok (.aload_n 0, 1) := by decide +kernel
theorem d_La_law_405 : decode b_La_law 405 = .ok (.iload 4, 2) := by decide +kernel
theorem d_La_law_407 : decode b_La_law 407 = .ok (.iconst 1, 1) := by decide +kernel
theorem d_La_law_408 : decode b_La_law 408 = .ok (.iadd, 1) := by decide +kernel
theorem d_La_law_409 : decode b_La_law 409 = .ok (.iaload, 1) := by decide +kernel
theorem d_La_law_410 : decode b_La_law 410 = .ok (.aload_n 0, 1) := by decide +kernel
theorem d_La_law_411 : decode b_La_law 411 = .ok (.iload 4, 2) := by decide +kernel
theorem d_La_law_413 : decode b_La_law 413 = .ok (.iconst 2, 1) := by decide +kernel
theorem d_La_law_414 : decode b_La_law 414 = .ok (.iadd, 1) := by decide +kernel
theorem d_La_law_415 : decode b_La_law 415 = .ok (.iaload, 1) := by decide +kernel
