/-! the law, case by case -/
theorem oCmp (x : Int64) : lg_cmp x x = 0 := by simp [lg_cmp]
def J_L : oJ := (x, code, 4, ret, "OverHillLaw")
theorem d_L_0 : decode J_L.2.1 0 = .ok (.new 7, 3) := by decide +kernel
theorem d_L_3 : decode J_L.2.1 3 = .ok (.dup, 1) := by decide +kernel
theorem d_L_4 : decode J_L.2.1 4 = .ok (.invokespecial 9, 3) := by decide +kernel
theorem d_L_7 : decode J_L.2.1 7 = .ok (.astore_n 1, 1) := by decide +kernel
theorem d_L_8 : decode J_L.2.1 8 = .ok (.new 10, 3) := by decide +kernel
theorem d_L_11 : decode J_L.2.1 11 = .ok (.dup, 1) := by decide +kernel
theorem d_L_12 : decode J_L.2.1 12 = .ok (.invokespecial 12, 3) := by decide +kernel
theorem d_L_15 : decode J_L.2.1 15 = .ok (.astore_n 2, 1) := by decide +kernel
theorem d_L_16 : decode J_L.2.1 16 = .ok (.iconst 0, 1) := by decide +kernel
theorem d_L_17 : decode J_L.2.1 17 = .ok (.istore_n 3, 1) := by decide +kernel
theorem d_L_18 : decode J_L.2.1 18 = .ok (.iload_n 3, 1) := by decide +kernel
theorem d_L_19 : decode J_L.2.1 19 = .ok (.aload_n 0, 1) := by decide +kernel
theorem d_L_20 : decode J_L.2.1 20 = .ok (.arraylength, 1) := by decide +kernel
theorem d_L_21 : decode J_L.2.1 21 = .ok (.bipush 6, 2) := by decide +kernel
theorem d_L_23 : decode J_L.2.1 23 = .ok (.isub, 1) := by decide +kernel
theorem d_L_24 : decode J_L.2.1 24 = .ok (.if_icmp .gt 1749, 3) := by decide +kernel
theorem d_L_27 : decode J_L.2.1 27 = .ok (.aload_n 0, 1) := by decide +kernel
theorem d_L_28 : decode J_L.2.1 28 = .ok (.iload_n 3, 1) := by decide +kernel
theorem d_L_29 : decode J_L.2.1 29 = .ok (.iaload, 1) := by decide +kernel
theorem d_L_30 : decode J_L.2.1 30 = .ok (.bipush 63, 2) := by decide +kernel
theorem d_L_32 : decode J_L.2.1 32 = .ok (.iand, 1) := by decide +kernel
theorem d_L_33 : decode J_L.2.1 33 = .ok (.tableswitch 1734 0 43 #[191, 214, 247, 290, 333, 366, 399, 412, 445, 478, 511, 564, 617, 650, 693, 726, 769, 802, 845, 888, 931, 974, 1007, 1030, 1063, 1076, 1119, 1142, 1175, 1228, 1261, 1304, 1317, 1340, 1353, 1366, 1409, 1432, 1465, 1508, 1581, 1615, 1678, 1711], 191) := by decide +kernel
theorem d_L_224 : decode J_L.2.1 224 = .ok (.aload_n 1, 1) := by decide +kernel
theorem d_L_225 : decode J_L.2.1 225 = .ok (.aload_n 0, 1) := by decide +kernel
theorem d_L_226 : decode J_L.2.1 226 = .ok (.iload_n 3, 1) := by decide +kernel
theorem d_L_227 : decode J_L.2.1 227 = .ok (.iconst 1, 1) := by decide +kernel
theorem d_L_228 : decode J_L.2.1 228 = .ok (.iadd, 1) := by decide +kernel
theorem d_L_229 : decode J_L.2.1 229 = .ok (.iaload, 1) := by decide +kernel
theorem d_L_230 : decode J_L.2.1 230 = .ok (.invokevirtual 13, 3) := by decide +kernel
theorem d_L_233 : decode J_L.2.1 233 = .ok (.aload_n 2, 1) := by decide +kernel
theorem d_L_234 : decode J_L.2.1 234 = .ok (.aload_n 0, 1) := by decide +kernel
theorem d_L_235 : decode J_L.2.1 235 = .ok (.iload_n 3, 1) := by decide +kernel
theorem d_L_236 : decode J_L.2.1 236 = .ok (.iconst 1, 1) := by decide +kernel
theorem d_L_237 : decode J_L.2.1 237 = .ok (.iadd, 1) := by decide +kernel
theorem d_L_238 : decode J_L.2.1 238 = .ok (.iaload, 1) := by decide +kernel
theorem d_L_239 : decode J_L.2.1 239 = .ok (.invokevirtual 17, 3) := by decide +kernel
theorem d_L_242 : decode J_L.2.1 242 = .ok (.if_icmp .eq 1525, 3) := by decide +kernel
theorem d_L_245 : decode J_L.2.1 245 = .ok (.iconst 0, 1) := by decide +kernel
theorem d_L_246 : decode J_L.2.1 246 = .ok (.ireturn, 1) := by decide +kernel
theorem d_L_247 : decode J_L.2.1 247 = .ok (.aload_n 1, 1) := by decide +kernel
theorem d_L_248 : decode J_L.2.1 248 = .ok (.aload_n 0, 1) := by decide +kernel
theorem d_L_249 : decode J_L.2.1 249 = .ok (.iload_n 3, 1) := by decide +kernel
theorem d_L_250 : decode J_L.2.1 250 = .ok (.iconst 1, 1) := by decide +kernel
theorem d_L_251 : decode J_L.2.1 251 = .ok (.iadd, 1) := by decide +kernel
theorem d_L_252 : decode J_L.2.1 252 = .ok (.iaload, 1) := by decide +kernel
theorem d_L_253 : decode J_L.2.1 253 = .ok (.aload_n 0, 1) := by decide +kernel
theorem d_L_254 : decode J_L.2.1 254 = .ok (.iload_n 3, 1) := by decide +kernel
theorem d_L_255 : decode J_L.2.1 255 = .ok (.iconst 2, 1) := by decide +kernel
theorem d_L_256 : decode J_L.2.1 256 = .ok (.iadd, 1) := by decide +kernel
theorem d_L_257 : decode J_L.2.1 257 = .ok (.iaload, 1) := by decide +kernel
theorem d_L_258 : decode J_L.2.1 258 = .ok (.invokevirtual 18, 3) := by decide +kernel
theorem d_L_261 : decode J_L.2.1 261 = .ok (.aload_n 2, 1) := by decide +kernel
theorem d_L_262 : decode J_L.2.1 262 = .ok (.aload_n 0, 1) := by decide +kernel
theorem d_L_263 : decode J_L.2.1 263 = .ok (.iload_n 3, 1) := by decide +kernel
theorem d_L_264 : decode J_L.2.1 264 = .ok (.iconst 1, 1) := by decide +kernel
theorem d_L_265 : decode J_L.2.1 265 = .ok (.iadd, 1) := by decide +kernel
theorem d_L_266 : decode J_L.2.1 266 = .ok (.iaload, 1) := by decide +kernel
theorem d_L_267 : decode J_L.2.1 267 = .ok (.aload_n 0, 1) := by decide +kernel
theorem d_L_268 : decode J_L.2.1 268 = .ok (.iload_n 3, 1) := by decide +kernel
theorem d_L_269 : decode J_L.2.1 269 = .ok (.iconst 2, 1) := by decide +kernel
theorem d_L_270 : decode J_L.2.1 270 = .ok (.iadd, 1) := by decide +kernel
theorem d_L_271 : decode J_L.2.1 271 = .ok (.iaload, 1) := by decide +kernel
theorem d_L_272 : decode J_L.2.1 272 = .ok (.invokevirtual 22, 3) := by decide +kernel
theorem d_L_275 : decode J_L.2.1 275 = .ok (.if_icmp .eq 1492, 3) := by decide +kernel
theorem d_L_278 : decode J_L.2.1 278 = .ok (.iconst 0, 1) := by decide +kernel
theorem d_L_279 : decode J_L.2.1 279 = .ok (.ireturn, 1) := by decide +kernel
theorem d_L_280 : decode J_L.2.1 280 = .ok (.aload_n 1, 1) := by decide +kernel
theorem d_L_281 : decode J_L.2.1 281 = .ok (.aload_n 0, 1) := by decide +kernel
theorem d_L_282 : decode J_L.2.1 282 = .ok (.iload_n 3, 1) := by decide +kernel
theorem d_L_283 : decode J_L.2.1 283 = .ok (.iconst 1, 1) := by decide +kernel
theorem d_L_284 : decode J_L.2.1 284 = .ok (.iadd, 1) := by decide +kernel
theorem d_L_285 : decode J_L.2.1 285 = .ok (.iaload, 1) := by decide +kernel
theorem d_L_286 : decode J_L.2.1 286 = .ok (.aload_n 0, 1) := by decide +kernel
theorem d_L_287 : decode J_L.2.1 287 = .ok (.iload_n 3, 1) := by decide +kernel
theorem d_L_288 : decode J_L.2.1 288 = .ok (.iconst 2, 1) := by decide +kernel
theorem d_L_289 : decode J_L.2.1 289 = .ok (.iadd, 1) := by decide +kernel
theorem d_L_290 : decode J_L.2.1 290 = .ok (.iaload, 1) := by decide +kernel
theorem d_L_291 : decode J_L.2.1 291 = .ok (.aload_n 0, 1) := by decide +kernel
theorem d_L_292 : decode J_L.2.1 292 = .ok (.iload_n 3, 1) := by decide +kernel
theorem d_L_293 : decode J_L.2.1 293 = .ok (.iconst 3, 1) := by decide +kernel
theorem d_L_294 : decode J_L.2.1 294 = .ok (.iadd, 1) := by decide +kernel
theorem d_L_295 : decode J_L.2.1 295 = .ok (.iaload, 1) := by decide +kernel
theorem d_L_296 : decode J_L.2.1 296 = .ok (.invokevirtual 23, 3) := by decide +kernel
theorem d_L_299 : decode J_L.2.1 299 = .ok (.aload_n 2, 1) := by decide +kernel
theorem d_L_300 : decode J_L.2.1 300 = .ok (.aload_n 0, 1) := by decide +kernel
theorem d_L_301 : decode J_L.2.1 301 = .ok (.iload_n 3, 1) := by decide +kernel
theorem d_L_302 : decode J_L.2.1 302 = .ok (.iconst 1, 1) := by decide +kernel
theorem d_L_303 : decode J_L.2.1 303 = .ok (.iadd, 1) := by decide +kernel
theorem d_L_304 : decode J_L.2.1 304 = .ok (.iaload, 1) := by decide +kernel
theorem d_L_305 : decode J_L.2.1 305 = .ok (.aload_n 0, 1) := by decide +kernel
theorem d_L_306 : decode J_L.2.1 306 = .ok (.iload_n 3, 1) := by decide +kernel
theorem d_L_307 : decode J_L.2.1 307 = .ok (.iconst 2, 1) := by decide +kernel
theorem d_L_308 : decode J_L.2.1 308 = .ok (.iadd, 1) := by decide +kernel
theorem d_L_309 : decode J_L.2.1 309 = .ok (.iaload, 1) := by decide +kernel
theorem d_L_310 : decode J_L.2.1 310 = .ok (.aload_n 0, 1) := by decide +kernel
theorem d_L_311 : decode J_L.2.1 311 = .ok (.iload_n 3, 1) := by decide +kernel
theorem d_L_312 : decode J_L.2.1 312 = .ok (.iconst 3, 1) := by decide +kernel
theorem d_L_313 : decode J_L.2.1 313 = .ok (.iadd, 1) := by decide +kernel
theorem d_L_314 : decode J_L.2.1 314 = .ok (.iaload, 1) := by decide +kernel
theorem d_L_315 : decode J_L.2.1 315 = .ok (.invokevirtual 27, 3) := by decide +kernel
theorem d_L_318 : decode J_L.2.1 318 = .ok (.if_icmp .eq 1449, 3) := by decide +kernel
theorem d_L_321 : decode J_L.2.1 321 = .ok (.iconst 0, 1) := by decide +kernel
theorem d_L_322 : decode J_L.2.1 322 = .ok (.ireturn, 1) := by decide +kernel
theorem d_L_323 : decode J_L.2.1 323 = .ok (.aload_n 1, 1) := by decide +kernel
theorem d_L_324 : decode J_L.2.1 324 = .ok (.aload_n 0, 1) := by decide +kernel
theorem d_L_325 : decode J_L.2.1 325 = .ok (.iload_n 3, 1) := by decide +kernel
theorem d_L_326 : decode J_L.2.1 326 = .ok (.iconst 1, 1) := by decide +kernel
theorem d_L_327 : decode J_L.2.1 327 = .ok (.iadd, 1) := by decide +kernel
theorem d_L_328 : decode J_L.2.1 328 = .ok (.iaload, 1) := by decide +kernel
theorem d_L_329 : decode J_L.2.1 329 = .ok (.aload_n 0, 1) := by decide +kernel
theorem d_L_330 : decode J_L.2.1 330 = .ok (.iload_n 3, 1) := by decide +kernel
theorem d_L_331 : decode J_L.2.1 331 = .ok (.iconst 2, 1) := by decide +kernel
theorem d_L_332 : decode J_L.2.1 332 = .ok (.iadd, 1) := by decide +kernel
theorem d_L_333 : decode J_L.2.1 333 = .ok (.iaload, 1) := by decide +kernel
theorem d_L_334 : decode J_L.2.1 334 = .ok (.aload_n 0, 1) := by decide +kernel
theorem d_L_335 : decode J_L.2.1 335 = .ok (.iload_n 3, 1) := by decide +kernel
theorem d_L_336 : decode J_L.2.1 336 = .ok (.iconst 3, 1) := by decide +kernel
theorem d_L_337 : decode J_L.2.1 337 = .ok (.iadd, 1) := by decide +kernel
theorem d_L_338 : decode J_L.2.1 338 = .ok (.iaload, 1) := by decide +kernel
theorem d_L_339 : decode J_L.2.1 339 = .ok (.invokevirtual 28, 3) := by decide +kernel
theorem d_L_342 : decode J_L.2.1 342 = .ok (.aload_n 2, 1) := by decide +kernel
theorem d_L_343 : decode J_L.2.1 343 = .ok (.aload_n 0, 1) := by decide +kernel
theorem d_L_344 : decode J_L.2.1 344 = .ok (.iload_n 3, 1) := by decide +kernel
theorem d_L_345 : decode J_L.2.1 345 = .ok (.iconst 1, 1) := by decide +kernel
theorem d_L_346 : decode J_L.2.1 346 = .ok (.iadd, 1) := by decide +kernel
theorem d_L_347 : decode J_L.2.1 347 = .ok (.iaload, 1) := by decide +kernel
theorem d_L_348 : decode J_L.2.1 348 = .ok (.aload_n 0, 1) := by decide +kernel
theorem d_L_349 : decode J_L.2.1 349 = .ok (.iload_n 3, 1) := by decide +kernel
theorem d_L_350 : decode J_L.2.1 350 = .ok (.iconst 2, 1) := by decide +kernel
theorem d_L_351 : decode J_L.2.1 351 = .ok (.iadd, 1) := by decide +kernel
theorem d_L_352 : decode J_L.2.1 352 = .ok (.iaload, 1) := by decide +kernel
theorem d_L_353 : decode J_L.2.1 353 = .ok (.aload_n 0, 1) := by decide +kernel
theorem d_L_354 : decode J_L.2.1 354 = .ok (.iload_n 3, 1) := by decide +kernel
theorem d_L_355 : decode J_L.2.1 355 = .ok (.iconst 3, 1) := by decide +kernel
theorem d_L_356 : decode J_L.2.1 356 = .ok (.iadd, 1) := by decide +kernel
theorem d_L_357 : decode J_L.2.1 357 = .ok (.iaload, 1) := by decide +kernel
theorem d_L_358 : decode J_L.2.1 358 = .ok (.invokevirtual 31, 3) := by decide +kernel
theorem d_L_361 : decode J_L.2.1 361 = .ok (.if_icmp .eq 1406, 3) := by decide +kernel
theorem d_L_364 : decode J_L.2.1 364 = .ok (.iconst 0, 1) := by decide +kernel
theorem d_L_365 : decode J_L.2.1 365 = .ok (.ireturn, 1) := by decide +kernel
theorem d_L_366 : decode J_L.2.1 366 = .ok (.aload_n 1, 1) := by decide +kernel
theorem d_L_367 : decode J_L.2.1 367 = .ok (.aload_n 0, 1) := by decide +kernel
theorem d_L_368 : decode J_L.2.1 368 = .ok (.iload_n 3, 1) := by decide +kernel
theorem d_L_369 : decode J_L.2.1 369 = .ok (.iconst 1, 1) := by decide +kernel
theorem d_L_370 : decode J_L.2.1 370 = .ok (.iadd, 1) := by decide +kernel
theorem d_L_371 : decode J_L.2.1 371 = .ok (.iaload, 1) := by decide +kernel
theorem d_L_372 : decode J_L.2.1 372 = .ok (.aload_n 0, 1) := by decide +kernel
theorem d_L_373 : decode J_L.2.1 373 = .ok (.iload_n 3, 1) := by decide +kernel
theorem d_L_374 : decode J_L.2.1 374 = .ok (.iconst 2, 1) := by decide +kernel
theorem d_L_375 : decode J_L.2.1 375 = .ok (.iadd, 1) := by decide +kernel
theorem d_L_376 : decode J_L.2.1 376 = .ok (.iaload, 1) := by decide +kernel
theorem d_L_377 : decode J_L.2.1 377 = .ok (.invokevirtual 32, 3) := by decide +kernel
theorem d_L_380 : decode J_L.2.1 380 = .ok (.aload_n 2, 1) := by decide +kernel
theorem d_L_381 : decode J_L.2.1 381 = .ok (.aload_n 0, 1) := by decide +kernel
theorem d_L_382 : decode J_L.2.1 382 = .ok (.iload_n 3, 1) := by decide +kernel
theorem d_L_383 : decode J_L.2.1 383 = .ok (.iconst 1, 1) := by decide +kernel
theorem d_L_384 : decode J_L.2.1 384 = .ok (.iadd, 1) := by decide +kernel
theorem d_L_385 : decode J_L.2.1 385 = .ok (.iaload, 1) := by decide +kernel
theorem d_L_386 : decode J_L.2.1 386 = .ok (.aload_n 0, 1) := by decide +kernel
theorem d_L_387 : decode J_L.2.1 387 = .ok (.iload_n 3, 1) := by decide +kernel
theorem d_L_388 : decode J_L.2.1 388 = .ok (.iconst 2, 1) := by decide +kernel
theorem d_L_389 : decode J_L.2.1 389 = .ok (.iadd, 1) := by decide +kernel
theorem d_L_390 : decode J_L.2.1 390 = .ok (.iaload, 1) := by decide +kernel
theorem d_L_391 : decode J_L.2.1 391 = .ok (.invokevirtual 35, 3) := by decide +kernel
theorem d_L_394 : decode J_L.2.1 394 = .ok (.if_icmp .eq 1373, 3) := by decide +kernel
theorem d_L_397 : decode J_L.2.1 397 = .ok (.iconst 0, 1) := by decide +kernel
theorem d_L_398 : decode J_L.2.1 398 = .ok (.ireturn, 1) := by decide +kernel
theorem d_L_399 : decode J_L.2.1 399 = .ok (.aload_n 1, 1) := by decide +kernel
theorem d_L_400 : decode J_L.2.1 400 = .ok (.aload_n 0, 1) := by decide +kernel
theorem d_L_401 : decode J_L.2.1 401 = .ok (.iload_n 3, 1) := by decide +kernel
theorem d_L_402 : decode J_L.2.1 402 = .ok (.iconst 1, 1) := by decide +kernel
theorem d_L_403 : decode J_L.2.1 403 = .ok (.iadd, 1) := by decide +kernel
theorem d_L_404 : decode J_L.2.1 404 = .ok (.iaload, 1) := by decide +kernel
theorem d_L_405 : decode J_L.2.1 405 = .ok (.aload_n 0, 1) := by decide +kernel
theorem d_L_406 : decode J_L.2.1 406 = .ok (.iload_n 3, 1) := by decide +kernel
theorem d_L_407 : decode J_L.2.1 407 = .ok (.iconst 2, 1) := by decide +kernel
theorem d_L_408 : decode J_L.2.1 408 = .ok (.iadd, 1) := by decide +kernel
theorem d_L_409 : decode J_L.2.1 409 = .ok (.iaload, 1) := by decide +kernel
theorem d_L_410 : decode J_L.2.1 410 = .ok (.invokevirtual 36, 3) := by decide +kernel
theorem d_L_413 : decode J_L.2.1 413 = .ok (.aload_n 2, 1) := by decide +kernel
theorem d_L_414 : decode J_L.2.1 414 = .ok (.aload_n 0, 1) := by decide +kernel
theorem d_L_415 : decode J_L.2.1 415 = .ok (.iload_n 3, 1) := by decide +kernel
theorem d_L_416 : decode J_L.2.1 416 = .ok (.iconst 1, 1) := by decide +kernel
theorem d_L_417 : decode J_L.2.1 417 = .ok (.iadd, 1) := by decide +kernel
theorem d_L_418 : decode J_L.2.1 418 = .ok (.iaload, 1) := by decide +kernel
theorem d_L_419 : decode J_L.2.1 419 = .ok (.aload_n 0, 1) := by decide +kernel
theorem d_L_420 : decode J_L.2.1 420 = .ok (.iload_n 3, 1) := by decide +kernel
theorem d_L_421 : decode J_L.2.1 421 = .ok (.iconst 2, 1) := by decide +kernel
theorem d_L_422 : decode J_L.2.1 422 = .ok (.iadd, 1) := by decide +kernel
theorem d_L_423 : decode J_L.2.1 423 = .ok (.iaload, 1) := by decide +kernel
theorem d_L_424 : decode J_L.2.1 424 = .ok (.invokevirtual 39, 3) := by decide +kernel
theorem d_L_427 : decode J_L.2.1 427 = .ok (.if_icmp .eq 1340, 3) := by decide +kernel
theorem d_L_430 : decode J_L.2.1 430 = .ok (.iconst 0, 1) := by decide +kernel
theorem d_L_431 : decode J_L.2.1 431 = .ok (.ireturn, 1) := by decide +kernel
theorem d_L_432 : decode J_L.2.1 432 = .ok (.aload_n 1, 1) := by decide +kernel
theorem d_L_433 : decode J_L.2.1 433 = .ok (.invokevirtual 40, 3) := by decide +kernel
theorem d_L_436 : decode J_L.2.1 436 = .ok (.aload_n 2, 1) := by decide +kernel
theorem d_L_437 : decode J_L.2.1 437 = .ok (.invokevirtual 44, 3) := by decide +kernel
theorem d_L_440 : decode J_L.2.1 440 = .ok (.if_icmp .eq 1327, 3) := by decide +kernel
theorem d_L_443 : decode J_L.2.1 443 = .ok (.iconst 0, 1) := by decide +kernel
theorem d_L_444 : decode J_L.2.1 444 = .ok (.ireturn, 1) := by decide +kernel
theorem d_L_445 : decode J_L.2.1 445 = .ok (.aload_n 1, 1) := by decide +kernel
theorem d_L_446 : decode J_L.2.1 446 = .ok (.aload_n 0, 1) := by decide +kernel
theorem d_L_447 : decode J_L.2.1 447 = .ok (.iload_n 3, 1) := by decide +kernel
theorem d_L_448 : decode J_L.2.1 448 = .ok (.iconst 1, 1) := by decide +kernel
theorem d_L_449 : decode J_L.2.1 449 = .ok (.iadd, 1) := by decide +kernel
theorem d_L_450 : decode J_L.2.1 450 = .ok (.iaload, 1) := by decide +kernel
theorem d_L_451 : decode J_L.2.1 451 = .ok (.aload_n 0, 1) := by decide +kernel
theorem d_L_452 : decode J_L.2.1 452 = .ok (.iload_n 3, 1) := by decide +kernel
theorem d_L_453 : decode J_L.2.1 453 = .ok (.iconst 2, 1) := by decide +kernel
theorem d_L_454 : decode J_L.2.1 454 = .ok (.iadd, 1) := by decide +kernel
theorem d_L_455 : decode J_L.2.1 455 = .ok (.iaload, 1) := by decide +kernel
theorem d_L_456 : decode J_L.2.1 456 = .ok (.invokevirtual 45, 3) := by decide +kernel
theorem d_L_459 : decode J_L.2.1 459 = .ok (.aload_n 2, 1) := by decide +kernel
theorem d_L_460 : decode J_L.2.1 460 = .ok (.aload_n 0, 1) := by decide +kernel
theorem d_L_461 : decode J_L.2.1 461 = .ok (.iload_n 3, 1) := by decide +kernel
theorem d_L_462 : decode J_L.2.1 462 = .ok (.iconst 1, 1) := by decide +kernel
theorem d_L_463 : decode J_L.2.1 463 = .ok (.iadd, 1) := by decide +kernel
theorem d_L_464 : decode J_L.2.1 464 = .ok (.iaload, 1) := by decide +kernel
theorem d_L_465 : decode J_L.2.1 465 = .ok (.aload_n 0, 1) := by decide +kernel
theorem d_L_466 : decode J_L.2.1 466 = .ok (.iload_n 3, 1) := by decide +kernel
theorem d_L_467 : decode J_L.2.1 467 = .ok (.iconst 2, 1) := by decide +kernel
theorem d_L_468 : decode J_L.2.1 468 = .ok (.iadd, 1) := by decide +kernel
theorem d_L_469 : decode J_L.2.1 469 = .ok (.iaload, 1) := by decide +kernel
theorem d_L_470 : decode J_L.2.1 470 = .ok (.invokevirtual 48, 3) := by decide +kernel
theorem d_L_473 : decode J_L.2.1 473 = .ok (.if_icmp .eq 1294, 3) := by decide +kernel
theorem d_L_476 : decode J_L.2.1 476 = .ok (.iconst 0, 1) := by decide +kernel
theorem d_L_477 : decode J_L.2.1 477 = .ok (.ireturn, 1) := by decide +kernel
theorem d_L_478 : decode J_L.2.1 478 = .ok (.aload_n 1, 1) := by decide +kernel
theorem d_L_479 : decode J_L.2.1 479 = .ok (.aload_n 0, 1) := by decide +kernel
theorem d_L_480 : decode J_L.2.1 480 = .ok (.iload_n 3, 1) := by decide +kernel
theorem d_L_481 : decode J_L.2.1 481 = .ok (.iconst 1, 1) := by decide +kernel
theorem d_L_482 : decode J_L.2.1 482 = .ok (.iadd, 1) := by decide +kernel
theorem d_L_483 : decode J_L.2.1 483 = .ok (.iaload, 1) := by decide +kernel
theorem d_L_484 : decode J_L.2.1 484 = .ok (.aload_n 0, 1) := by decide +kernel
theorem d_L_485 : decode J_L.2.1 485 = .ok (.iload_n 3, 1) := by decide +kernel
theorem d_L_486 : decode J_L.2.1 486 = .ok (.iconst 2, 1) := by decide +kernel
theorem d_L_487 : decode J_L.2.1 487 = .ok (.iadd, 1) := by decide +kernel
theorem d_L_488 : decode J_L.2.1 488 = .ok (.iaload, 1) := by decide +kernel
theorem d_L_489 : decode J_L.2.1 489 = .ok (.invokevirtual 49, 3) := by decide +kernel
theorem d_L_492 : decode J_L.2.1 492 = .ok (.aload_n 2, 1) := by decide +kernel
theorem d_L_493 : decode J_L.2.1 493 = .ok (.aload_n 0, 1) := by decide +kernel
theorem d_L_494 : decode J_L.2.1 494 = .ok (.iload_n 3, 1) := by decide +kernel
theorem d_L_495 : decode J_L.2.1 495 = .ok (.iconst 1, 1) := by decide +kernel
theorem d_L_496 : decode J_L.2.1 496 = .ok (.iadd, 1) := by decide +kernel
theorem d_L_497 : decode J_L.2.1 497 = .ok (.iaload, 1) := by decide +kernel
theorem d_L_498 : decode J_L.2.1 498 = .ok (.aload_n 0, 1) := by decide +kernel
theorem d_L_499 : decode J_L.2.1 499 = .ok (.iload_n 3, 1) := by decide +kernel
theorem d_L_500 : decode J_L.2.1 500 = .ok (.iconst 2, 1) := by decide +kernel
theorem d_L_501 : decode J_L.2.1 501 = .ok (.iadd, 1) := by decide +kernel
theorem d_L_502 : decode J_L.2.1 502 = .ok (.iaload, 1) := by decide +kernel
theorem d_L_503 : decode J_L.2.1 503 = .ok (.invokevirtual 52, 3) := by decide +kernel
theorem d_L_506 : decode J_L.2.1 506 = .ok (.if_icmp .eq 1261, 3) := by decide +kernel
theorem d_L_509 : decode J_L.2.1 509 = .ok (.iconst 0, 1) := by decide +kernel
theorem d_L_510 : decode J_L.2.1 510 = .ok (.ireturn, 1) := by decide +kernel
theorem d_L_511 : decode J_L.2.1 511 = .ok (.aload_n 1, 1) := by decide +kernel
theorem d_L_512 : decode J_L.2.1 512 = .ok (.aload_n 0, 1) := by decide +kernel
theorem d_L_513 : decode J_L.2.1 513 = .ok (.iload_n 3, 1) := by decide +kernel
theorem d_L_514 : decode J_L.2.1 514 = .ok (.iconst 1, 1) := by decide +kernel
theorem d_L_515 : decode J_L.2.1 515 = .ok (.iadd, 1) := by decide +kernel
theorem d_L_516 : decode J_L.2.1 516 = .ok (.iaload, 1) := by decide +kernel
theorem d_L_517 : decode J_L.2.1 517 = .ok (.aload_n 0, 1) := by decide +kernel
theorem d_L_518 : decode J_L.2.1 518 = .ok (.iload_n 3, 1) := by decide +kernel
theorem d_L_519 : decode J_L.2.1 519 = .ok (.iconst 2, 1) := by decide +kernel
theorem d_L_520 : decode J_L.2.1 520 = .ok (.iadd, 1) := by decide +kernel
theorem d_L_521 : decode J_L.2.1 521 = .ok (.iaload, 1) := by decide +kernel
theorem d_L_522 : decode J_L.2.1 522 = .ok (.invokevirtual 53, 3) := by decide +kernel
theorem d_L_525 : decode J_L.2.1 525 = .ok (.aload_n 2, 1) := by decide +kernel
theorem d_L_526 : decode J_L.2.1 526 = .ok (.aload_n 0, 1) := by decide +kernel
theorem d_L_527 : decode J_L.2.1 527 = .ok (.iload_n 3, 1) := by decide +kernel
theorem d_L_528 : decode J_L.2.1 528 = .ok (.iconst 1, 1) := by decide +kernel
theorem d_L_529 : decode J_L.2.1 529 = .ok (.iadd, 1) := by decide +kernel
theorem d_L_530 : decode J_L.2.1 530 = .ok (.iaload, 1) := by decide +kernel
theorem d_L_531 : decode J_L.2.1 531 = .ok (.aload_n 0, 1) := by decide +kernel
theorem d_L_532 : decode J_L.2.1 532 = .ok (.iload_n 3, 1) := by decide +kernel
theorem d_L_533 : decode J_L.2.1 533 = .ok (.iconst 2, 1) := by decide +kernel
theorem d_L_534 : decode J_L.2.1 534 = .ok (.iadd, 1) := by decide +kernel
theorem d_L_535 : decode J_L.2.1 535 = .ok (.iaload, 1) := by decide +kernel
theorem d_L_536 : decode J_L.2.1 536 = .ok (.invokevirtual 56, 3) := by decide +kernel
theorem d_L_539 : decode J_L.2.1 539 = .ok (.if_icmp .eq 1228, 3) := by decide +kernel
theorem d_L_542 : decode J_L.2.1 542 = .ok (.iconst 0, 1) := by decide +kernel
theorem d_L_543 : decode J_L.2.1 543 = .ok (.ireturn, 1) := by decide +kernel
theorem d_L_544 : decode J_L.2.1 544 = .ok (.aload_n 1, 1) := by decide +kernel
theorem d_L_545 : decode J_L.2.1 545 = .ok (.aload_n 0, 1) := by decide +kernel
theorem d_L_546 : decode J_L.2.1 546 = .ok (.iload_n 3, 1) := by decide +kernel
theorem d_L_547 : decode J_L.2.1 547 = .ok (.iconst 1, 1) := by decide +kernel
theorem d_L_548 : decode J_L.2.1 548 = .ok (.iadd, 1) := by decide +kernel
theorem d_L_549 : decode J_L.2.1 549 = .ok (.iaload, 1) := by decide +kernel
theorem d_L_550 : decode J_L.2.1 550 = .ok (.aload_n 0, 1) := by decide +kernel
theorem d_L_551 : decode J_L.2.1 551 = .ok (.iload_n 3, 1) := by decide +kernel
theorem d_L_552 : decode J_L.2.1 552 = .ok (.iconst 2, 1) := by decide +kernel
theorem d_L_553 : decode J_L.2.1 553 = .ok (.iadd, 1) := by decide +kernel
theorem d_L_554 : decode J_L.2.1 554 = .ok (.iaload, 1) := by decide +kernel
theorem d_L_555 : decode J_L.2.1 555 = .ok (.aload_n 0, 1) := by decide +kernel
theorem d_L_556 : decode J_L.2.1 556 = .ok (.iload_n 3, 1) := by decide +kernel
theorem d_L_557 : decode J_L.2.1 557 = .ok (.iconst 3, 1) := by decide +kernel
theorem d_L_558 : decode J_L.2.1 558 = .ok (.iadd, 1) := by decide +kernel
theorem d_L_559 : decode J_L.2.1 559 = .ok (.iaload, 1) := by decide +kernel
theorem d_L_560 : decode J_L.2.1 560 = .ok (.aload_n 0, 1) := by decide +kernel
theorem d_L_561 : decode J_L.2.1 561 = .ok (.iload_n 3, 1) := by decide +kernel
theorem d_L_562 : decode J_L.2.1 562 = .ok (.iconst 4, 1) := by decide +kernel
theorem d_L_563 : decode J_L.2.1 563 = .ok (.iadd, 1) := by decide +kernel
theorem d_L_564 : decode J_L.2.1 564 = .ok (.iaload, 1) := by decide +kernel
theorem d_L_565 : decode J_L.2.1 565 = .ok (.invokevirtual 57, 3) := by decide +kernel
theorem d_L_568 : decode J_L.2.1 568 = .ok (.aload_n 2, 1) := by decide +kernel
theorem d_L_569 : decode J_L.2.1 569 = .ok (.aload_n 0, 1) := by decide +kernel
theorem d_L_570 : decode J_L.2.1 570 = .ok (.iload_n 3, 1) := by decide +kernel
theorem d_L_571 : decode J_L.2.1 571 = .ok (.iconst 1, 1) := by decide +kernel
theorem d_L_572 : decode J_L.2.1 572 = .ok (.iadd, 1) := by decide +kernel
theorem d_L_573 : decode J_L.2.1 573 = .ok (.iaload, 1) := by decide +kernel
theorem d_L_574 : decode J_L.2.1 574 = .ok (.aload_n 0, 1) := by decide +kernel
theorem d_L_575 : decode J_L.2.1 575 = .ok (.iload_n 3, 1) := by decide +kernel
theorem d_L_576 : decode J_L.2.1 576 = .ok (.iconst 2, 1) := by decide +kernel
theorem d_L_577 : decode J_L.2.1 577 = .ok (.iadd, 1) := by decide +kernel
theorem d_L_578 : decode J_L.2.1 578 = .ok (.iaload, 1) := by decide +kernel
theorem d_L_579 : decode J_L.2.1 579 = .ok (.aload_n 0, 1) := by decide +kernel
theorem d_L_580 : decode J_L.2.1 580 = .ok (.iload_n 3, 1) := by decide +kernel
theorem d_L_581 : decode J_L.2.1 581 = .ok (.iconst 3, 1) := by decide +kernel
theorem d_L_582 : decode J_L.2.1 582 = .ok (.iadd, 1) := by decide +kernel
theorem d_L_583 : decode J_L.2.1 583 = .ok (.iaload, 1) := by decide +kernel
theorem d_L_584 : decode J_L.2.1 584 = .ok (.aload_n 0, 1) := by decide +kernel
theorem d_L_585 : decode J_L.2.1 585 = .ok (.iload_n 3, 1) := by decide +kernel
theorem d_L_586 : decode J_L.2.1 586 = .ok (.iconst 4, 1) := by decide +kernel
theorem d_L_587 : decode J_L.2.1 587 = .ok (.iadd, 1) := by decide +kernel
theorem d_L_588 : decode J_L.2.1 588 = .ok (.iaload, 1) := by decide +kernel
theorem d_L_589 : decode J_L.2.1 589 = .ok (.invokevirtual 61, 3) := by decide +kernel
theorem d_L_592 : decode J_L.2.1 592 = .ok (.if_icmp .eq 1175, 3) := by decide +kernel
theorem d_L_595 : decode J_L.2.1 595 = .ok (.iconst 0, 1) := by decide +kernel
theorem d_L_596 : decode J_L.2.1 596 = .ok (.ireturn, 1) := by decide +kernel
theorem d_L_597 : decode J_L.2.1 597 = .ok (.aload_n 1, 1) := by decide +kernel
theorem d_L_598 : decode J_L.2.1 598 = .ok (.aload_n 0, 1) := by decide +kernel
theorem d_L_599 : decode J_L.2.1 599 = .ok (.iload_n 3, 1) := by decide +kernel
theorem d_L_600 : decode J_L.2.1 600 = .ok (.iconst 1, 1) := by decide +kernel
theorem d_L_601 : decode J_L.2.1 601 = .ok (.iadd, 1) := by decide +kernel
theorem d_L_602 : decode J_L.2.1 602 = .ok (.iaload, 1) := by decide +kernel
theorem d_L_603 : decode J_L.2.1 603 = .ok (.aload_n 0, 1) := by decide +kernel
theorem d_L_604 : decode J_L.2.1 604 = .ok (.iload_n 3, 1) := by decide +kernel
theorem d_L_605 : decode J_L.2.1 605 = .ok (.iconst 2, 1) := by decide +kernel
theorem d_L_606 : decode J_L.2.1 606 = .ok (.iadd, 1) := by decide +kernel
theorem d_L_607 : decode J_L.2.1 607 = .ok (.iaload, 1) := by decide +kernel
theorem d_L_608 : decode J_L.2.1 608 = .ok (.aload_n 0, 1) := by decide +kernel
theorem d_L_609 : decode J_L.2.1 609 = .ok (.iload_n 3, 1) := by decide +kernel
theorem d_L_610 : decode J_L.2.1 610 = .ok (.iconst 3, 1) := by decide +kernel
theorem d_L_611 : decode J_L.2.1 611 = .ok (.iadd, 1) := by decide +kernel
theorem d_L_612 : decode J_L.2.1 612 = .ok (.iaload, 1) := by decide +kernel
theorem d_L_613 : decode J_L.2.1 613 = .ok (.aload_n 0, 1) := by decide +kernel
theorem d_L_614 : decode J_L.2.1 614 = .ok (.iload_n 3, 1) := by decide +kernel
theorem d_L_615 : decode J_L.2.1 615 = .ok (.iconst 4, 1) := by decide +kernel
theorem d_L_616 : decode J_L.2.1 616 = .ok (.iadd, 1) := by decide +kernel
theorem d_L_617 : decode J_L.2.1 617 = .ok (.iaload, 1) := by decide +kernel
theorem d_L_618 : decode J_L.2.1 618 = .ok (.invokevirtual 62, 3) := by decide +kernel
theorem d_L_621 : decode J_L.2.1 621 = .ok (.aload_n 2, 1) := by decide +kernel
theorem d_L_622 : decode J_L.2.1 622 = .ok (.aload_n 0, 1) := by decide +kernel
theorem d_L_623 : decode J_L.2.1 623 = .ok (.iload_n 3, 1) := by decide +kernel
theorem d_L_624 : decode J_L.2.1 624 = .ok (.iconst 1, 1) := by decide +kernel
theorem d_L_625 : decode J_L.2.1 625 = .ok (.iadd, 1) := by decide +kernel
theorem d_L_626 : decode J_L.2.1 626 = .ok (.iaload, 1) := by decide +kernel
theorem d_L_627 : decode J_L.2.1 627 = .ok (.aload_n 0, 1) := by decide +kernel
theorem d_L_628 : decode J_L.2.1 628 = .ok (.iload_n 3, 1) := by decide +kernel
theorem d_L_629 : decode J_L.2.1 629 = .ok (.iconst 2, 1) := by decide +kernel
theorem d_L_630 : decode J_L.2.1 630 = .ok (.iadd, 1) := by decide +kernel
theorem d_L_631 : decode J_L.2.1 631 = .ok (.iaload, 1) := by decide +kernel
theorem d_L_632 : decode J_L.2.1 632 = .ok (.aload_n 0, 1) := by decide +kernel
theorem d_L_633 : decode J_L.2.1 633 = .ok (.iload_n 3, 1) := by decide +kernel
theorem d_L_634 : decode J_L.2.1 634 = .ok (.iconst 3, 1) := by decide +kernel
theorem d_L_635 : decode J_L.2.1 635 = .ok (.iadd, 1) := by decide +kernel
theorem d_L_636 : decode J_L.2.1 636 = .ok (.iaload, 1) := by decide +kernel
theorem d_L_637 : decode J_L.2.1 637 = .ok (.aload_n 0, 1) := by decide +kernel
theorem d_L_638 : decode J_L.2.1 638 = .ok (.iload_n 3, 1) := by decide +kernel
theorem d_L_639 : decode J_L.2.1 639 = .ok (.iconst 4, 1) := by decide +kernel
theorem d_L_640 : decode J_L.2.1 640 = .ok (.iadd, 1) := by decide +kernel
theorem d_L_641 : decode J_L.2.1 641 = .ok (.iaload, 1) := by decide +kernel
theorem d_L_642 : decode J_L.2.1 642 = .ok (.invokevirtual 65, 3) := by decide +kernel
theorem d_L_645 : decode J_L.2.1 645 = .ok (.if_icmp .eq 1122, 3) := by decide +kernel
theorem d_L_648 : decode J_L.2.1 648 = .ok (.iconst 0, 1) := by decide +kernel
theorem d_L_649 : decode J_L.2.1 649 = .ok (.ireturn, 1) := by decide +kernel
theorem d_L_650 : decode J_L.2.1 650 = .ok (.aload_n 1, 1) := by decide +kernel
theorem d_L_651 : decode J_L.2.1 651 = .ok (.aload_n 0, 1) := by decide +kernel
theorem d_L_652 : decode J_L.2.1 652 = .ok (.iload_n 3, 1) := by decide +kernel
theorem d_L_653 : decode J_L.2.1 653 = .ok (.iconst 1, 1) := by decide +kernel
theorem d_L_654 : decode J_L.2.1 654 = .ok (.iadd, 1) := by decide +kernel
theorem d_L_655 : decode J_L.2.1 655 = .ok (.iaload, 1) := by decide +kernel
theorem d_L_656 : decode J_L.2.1 656 = .ok (.aload_n 0, 1) := by decide +kernel
theorem d_L_657 : decode J_L.2.1 657 = .ok (.iload_n 3, 1) := by decide +kernel
theorem d_L_658 : decode J_L.2.1 658 = .ok (.iconst 2, 1) := by decide +kernel
theorem d_L_659 : decode J_L.2.1 659 = .ok (.iadd, 1) := by decide +kernel
theorem d_L_660 : decode J_L.2.1 660 = .ok (.iaload, 1) := by decide +kernel
theorem d_L_661 : decode J_L.2.1 661 = .ok (.invokevirtual 66, 3) := by decide +kernel
theorem d_L_664 : decode J_L.2.1 664 = .ok (.aload_n 2, 1) := by decide +kernel
theorem d_L_665 : decode J_L.2.1 665 = .ok (.aload_n 0, 1) := by decide +kernel
theorem d_L_666 : decode J_L.2.1 666 = .ok (.iload_n 3, 1) := by decide +kernel
theorem d_L_667 : decode J_L.2.1 667 = .ok (.iconst 1, 1) := by decide +kernel
theorem d_L_668 : decode J_L.2.1 668 = .ok (.iadd, 1) := by decide +kernel
theorem d_L_669 : decode J_L.2.1 669 = .ok (.iaload, 1) := by decide +kernel
theorem d_L_670 : decode J_L.2.1 670 = .ok (.aload_n 0, 1) := by decide +kernel
theorem d_L_671 : decode J_L.2.1 671 = .ok (.iload_n 3, 1) := by decide +kernel
theorem d_L_672 : decode J_L.2.1 672 = .ok (.iconst 2, 1) := by decide +kernel
theorem d_L_673 : decode J_L.2.1 673 = .ok (.iadd, 1) := by decide +kernel
theorem d_L_674 : decode J_L.2.1 674 = .ok (.iaload, 1) := by decide +kernel
theorem d_L_675 : decode J_L.2.1 675 = .ok (.invokevirtual 69, 3) := by decide +kernel
theorem d_L_678 : decode J_L.2.1 678 = .ok (.if_icmp .eq 1089, 3) := by decide +kernel
theorem d_L_681 : decode J_L.2.1 681 = .ok (.iconst 0, 1) := by decide +kernel
theorem d_L_682 : decode J_L.2.1 682 = .ok (.ireturn, 1) := by decide +kernel
theorem d_L_683 : decode J_L.2.1 683 = .ok (.aload_n 1, 1) := by decide +kernel
theorem d_L_684 : decode J_L.2.1 684 = .ok (.aload_n 0, 1) := by decide +kernel
theorem d_L_685 : decode J_L.2.1 685 = .ok (.iload_n 3, 1) := by decide +kernel
theorem d_L_686 : decode J_L.2.1 686 = .ok (.iconst 1, 1) := by decide +kernel
theorem d_L_687 : decode J_L.2.1 687 = .ok (.iadd, 1) := by decide +kernel
theorem d_L_688 : decode J_L.2.1 688 = .ok (.iaload, 1) := by decide +kernel
theorem d_L_689 : decode J_L.2.1 689 = .ok (.aload_n 0, 1) := by decide +kernel
theorem d_L_690 : decode J_L.2.1 690 = .ok (.iload_n 3, 1) := by decide +kernel
theorem d_L_691 : decode J_L.2.1 691 = .ok (.iconst 2, 1) := by decide +kernel
theorem d_L_692 : decode J_L.2.1 692 = .ok (.iadd, 1) := by decide +kernel
theorem d_L_693 : decode J_L.2.1 693 = .ok (.iaload, 1) := by decide +kernel
theorem d_L_694 : decode J_L.2.1 694 = .ok (.aload_n 0, 1) := by decide +kernel
theorem d_L_695 : decode J_L.2.1 695 = .ok (.iload_n 3, 1) := by decide +kernel
theorem d_L_696 : decode J_L.2.1 696 = .ok (.iconst 3, 1) := by decide +kernel
theorem d_L_697 : decode J_L.2.1 697 = .ok (.iadd, 1) := by decide +kernel
theorem d_L_698 : decode J_L.2.1 698 = .ok (.iaload, 1) := by decide +kernel
theorem d_L_699 : decode J_L.2.1 699 = .ok (.invokevirtual 70, 3) := by decide +kernel
theorem d_L_702 : decode J_L.2.1 702 = .ok (.aload_n 2, 1) := by decide +kernel
theorem d_L_703 : decode J_L.2.1 703 = .ok (.aload_n 0, 1) := by decide +kernel
theorem d_L_704 : decode J_L.2.1 704 = .ok (.iload_n 3, 1) := by decide +kernel
theorem d_L_705 : decode J_L.2.1 705 = .ok (.iconst 1, 1) := by decide +kernel
theorem d_L_706 : decode J_L.2.1 706 = .ok (.iadd, 1) := by decide +kernel
theorem d_L_707 : decode J_L.2.1 707 = .ok (.iaload, 1) := by decide +kernel
theorem d_L_708 : decode J_L.2.1 708 = .ok (.aload_n 0, 1) := by decide +kernel
theorem d_L_709 : decode J_L.2.1 709 = .ok (.iload_n 3, 1) := by decide +kernel
theorem d_L_710 : decode J_L.2.1 710 = .ok (.iconst 2, 1) := by decide +kernel
theorem d_L_711 : decode J_L.2.1 711 = .ok (.iadd, 1) := by decide +kernel
theorem d_L_712 : decode J_L.2.1 712 = .ok (.iaload, 1) := by decide +kernel
theorem d_L_713 : decode J_L.2.1 713 = .ok (.aload_n 0, 1) := by decide +kernel
theorem d_L_714 : decode J_L.2.1 714 = .ok (.iload_n 3, 1) := by decide +kernel
theorem d_L_715 : decode J_L.2.1 715 = .ok (.iconst 3, 1) := by decide +kernel
theorem d_L_716 : decode J_L.2.1 716 = .ok (.iadd, 1) := by decide +kernel
theorem d_L_717 : decode J_L.2.1 717 = .ok (.iaload, 1) := by decide +kernel
theorem d_L_718 : decode J_L.2.1 718 = .ok (.invokevirtual 73, 3) := by decide +kernel
theorem d_L_721 : decode J_L.2.1 721 = .ok (.if_icmp .eq 1046, 3) := by decide +kernel
theorem d_L_724 : decode J_L.2.1 724 = .ok (.iconst 0, 1) := by decide +kernel
theorem d_L_725 : decode J_L.2.1 725 = .ok (.ireturn, 1) := by decide +kernel
theorem d_L_726 : decode J_L.2.1 726 = .ok (.aload_n 1, 1) := by decide +kernel
theorem d_L_727 : decode J_L.2.1 727 = .ok (.aload_n 0, 1) := by decide +kernel
theorem d_L_728 : decode J_L.2.1 728 = .ok (.iload_n 3, 1) := by decide +kernel
theorem d_L_729 : decode J_L.2.1 729 = .ok (.iconst 1, 1) := by decide +kernel
theorem d_L_730 : decode J_L.2.1 730 = .ok (.iadd, 1) := by decide +kernel
theorem d_L_731 : decode J_L.2.1 731 = .ok (.iaload, 1) := by decide +kernel
theorem d_L_732 : decode J_L.2.1 732 = .ok (.aload_n 0, 1) := by decide +kernel
theorem d_L_733 : decode J_L.2.1 733 = .ok (.iload_n 3, 1) := by decide +kernel
theorem d_L_734 : decode J_L.2.1 734 = .ok (.iconst 2, 1) := by decide +kernel
theorem d_L_735 : decode J_L.2.1 735 = .ok (.iadd, 1) := by decide +kernel
theorem d_L_736 : decode J_L.2.1 736 = .ok (.iaload, 1) := by decide +kernel
theorem d_L_737 : decode J_L.2.1 737 = .ok (.invokevirtual 74, 3) := by decide +kernel
theorem d_L_740 : decode J_L.2.1 740 = .ok (.aload_n 2, 1) := by decide +kernel
theorem d_L_741 : decode J_L.2.1 741 = .ok (.aload_n 0, 1) := by decide +kernel
theorem d_L_742 : decode J_L.2.1 742 = .ok (.iload_n 3, 1) := by decide +kernel
theorem d_L_743 : decode J_L.2.1 743 = .ok (.iconst 1, 1) := by decide +kernel
theorem d_L_744 : decode J_L.2.1 744 = .ok (.iadd, 1) := by decide +kernel
theorem d_L_745 : decode J_L.2.1 745 = .ok (.iaload, 1) := by decide +kernel
theorem d_L_746 : decode J_L.2.1 746 = .ok (.aload_n 0, 1) := by decide +kernel
theorem d_L_747 : decode J_L.2.1 747 = .ok (.iload_n 3, 1) := by decide +kernel
theorem d_L_748 : decode J_L.2.1 748 = .ok (.iconst 2, 1) := by decide +kernel
theorem d_L_749 : decode J_L.2.1 749 = .ok (.iadd, 1) := by decide +kernel
theorem d_L_750 : decode J_L.2.1 750 = .ok (.iaload, 1) := by decide +kernel
theorem d_L_751 : decode J_L.2.1 751 = .ok (.invokevirtual 77, 3) := by decide +kernel
theorem d_L_754 : decode J_L.2.1 754 = .ok (.if_icmp .eq 1013, 3) := by decide +kernel
theorem d_L_757 : decode J_L.2.1 757 = .ok (.iconst 0, 1) := by decide +kernel
theorem d_L_758 : decode J_L.2.1 758 = .ok (.ireturn, 1) := by decide +kernel
theorem d_L_759 : decode J_L.2.1 759 = .ok (.aload_n 1, 1) := by decide +kernel
theorem d_L_760 : decode J_L.2.1 760 = .ok (.aload_n 0, 1) := by decide +kernel
theorem d_L_761 : decode J_L.2.1 761 = .ok (.iload_n 3, 1) := by decide +kernel
theorem d_L_762 : decode J_L.2.1 762 = .ok (.iconst 1, 1) := by decide +kernel
theorem d_L_763 : decode J_L.2.1 763 = .ok (.iadd, 1) := by decide +kernel
theorem d_L_764 : decode J_L.2.1 764 = .ok (.iaload, 1) := by decide +kernel
theorem d_L_765 : decode J_L.2.1 765 = .ok (.aload_n 0, 1) := by decide +kernel
theorem d_L_766 : decode J_L.2.1 766 = .ok (.iload_n 3, 1) := by decide +kernel
theorem d_L_767 : decode J_L.2.1 767 = .ok (.iconst 2, 1) := by decide +kernel
theorem d_L_768 : decode J_L.2.1 768 = .ok (.iadd, 1) := by decide +kernel
theorem d_L_769 : decode J_L.2.1 769 = .ok (.iaload, 1) := by decide +kernel
theorem d_L_770 : decode J_L.2.1 770 = .ok (.aload_n 0, 1) := by decide +kernel
theorem d_L_771 : decode J_L.2.1 771 = .ok (.iload_n 3, 1) := by decide +kernel
theorem d_L_772 : decode J_L.2.1 772 = .ok (.iconst 3, 1) := by decide +kernel
theorem d_L_773 : decode J_L.2.1 773 = .ok (.iadd, 1) := by decide +kernel
theorem d_L_774 : decode J_L.2.1 774 = .ok (.iaload, 1) := by decide +kernel
theorem d_L_775 : decode J_L.2.1 775 = .ok (.invokevirtual 78, 3) := by decide +kernel
theorem d_L_778 : decode J_L.2.1 778 = .ok (.aload_n 2, 1) := by decide +kernel
theorem d_L_779 : decode J_L.2.1 779 = .ok (.aload_n 0, 1) := by decide +kernel
theorem d_L_780 : decode J_L.2.1 780 = .ok (.iload_n 3, 1) := by decide +kernel
theorem d_L_781 : decode J_L.2.1 781 = .ok (.iconst 1, 1) := by decide +kernel
theorem d_L_782 : decode J_L.2.1 782 = .ok (.iadd, 1) := by decide +kernel
theorem d_L_783 : decode J_L.2.1 783 = .ok (.iaload, 1) := by decide +kernel
theorem d_L_784 : decode J_L.2.1 784 = .ok (.aload_n 0, 1) := by decide +kernel
theorem d_L_785 : decode J_L.2.1 785 = .ok (.iload_n 3, 1) := by decide +kernel
theorem d_L_786 : decode J_L.2.1 786 = .ok (.iconst 2, 1) := by decide +kernel
theorem d_L_787 : decode J_L.2.1 787 = .ok (.iadd, 1) := by decide +kernel
theorem d_L_788 : decode J_L.2.1 788 = .ok (.iaload, 1) := by decide +kernel
theorem d_L_789 : decode J_L.2.1 789 = .ok (.aload_n 0, 1) := by decide +kernel
theorem d_L_790 : decode J_L.2.1 790 = .ok (.iload_n 3, 1) := by decide +kernel
theorem d_L_791 : decode J_L.2.1 791 = .ok (.iconst 3, 1) := by decide +kernel
theorem d_L_792 : decode J_L.2.1 792 = .ok (.iadd, 1) := by decide +kernel
theorem d_L_793 : decode J_L.2.1 793 = .ok (.iaload, 1) := by decide +kernel
theorem d_L_794 : decode J_L.2.1 794 = .ok (.invokevirtual 81, 3) := by decide +kernel
theorem d_L_797 : decode J_L.2.1 797 = .ok (.if_icmp .eq 970, 3) := by decide +kernel
theorem d_L_800 : decode J_L.2.1 800 = .ok (.iconst 0, 1) := by decide +kernel
theorem d_L_801 : decode J_L.2.1 801 = .ok (.ireturn, 1) := by decide +kernel
theorem d_L_802 : decode J_L.2.1 802 = .ok (.aload_n 1, 1) := by decide +kernel
theorem d_L_803 : decode J_L.2.1 803 = .ok (.aload_n 0, 1) := by decide +kernel
theorem d_L_804 : decode J_L.2.1 804 = .ok (.iload_n 3, 1) := by decide +kernel
theorem d_L_805 : decode J_L.2.1 805 = .ok (.iconst 1, 1) := by decide +kernel
theorem d_L_806 : decode J_L.2.1 806 = .ok (.iadd, 1) := by decide +kernel
theorem d_L_807 : decode J_L.2.1 807 = .ok (.iaload, 1) := by decide +kernel
theorem d_L_808 : decode J_L.2.1 808 = .ok (.aload_n 0, 1) := by decide +kernel
theorem d_L_809 : decode J_L.2.1 809 = .ok (.iload_n 3, 1) := by decide +kernel
theorem d_L_810 : decode J_L.2.1 810 = .ok (.iconst 2, 1) := by decide +kernel
theorem d_L_811 : decode J_L.2.1 811 = .ok (.iadd, 1) := by decide +kernel
theorem d_L_812 : decode J_L.2.1 812 = .ok (.iaload, 1) := by decide +kernel
theorem d_L_813 : decode J_L.2.1 813 = .ok (.invokevirtual 82, 3) := by decide +kernel
theorem d_L_816 : decode J_L.2.1 816 = .ok (.aload_n 2, 1) := by decide +kernel
theorem d_L_817 : decode J_L.2.1 817 = .ok (.aload_n 0, 1) := by decide +kernel
theorem d_L_818 : decode J_L.2.1 818 = .ok (.iload_n 3, 1) := by decide +kernel
theorem d_L_819 : decode J_L.2.1 819 = .ok (.iconst 1, 1) := by decide +kernel
theorem d_L_820 : decode J_L.2.1 820 = .ok (.iadd, 1) := by decide +kernel
theorem d_L_821 : decode J_L.2.1 821 = .ok (.iaload, 1) := by decide +kernel
theorem d_L_822 : decode J_L.2.1 822 = .ok (.aload_n 0, 1) := by decide +kernel
theorem d_L_823 : decode J_L.2.1 823 = .ok (.iload_n 3, 1) := by decide +kernel
theorem d_L_824 : decode J_L.2.1 824 = .ok (.iconst 2, 1) := by decide +kernel
theorem d_L_825 : decode J_L.2.1 825 = .ok (.iadd, 1) := by decide +kernel
theorem d_L_826 : decode J_L.2.1 826 = .ok (.iaload, 1) := by decide +kernel
theorem d_L_827 : decode J_L.2.1 827 = .ok (.invokevirtual 85, 3) := by decide +kernel
theorem d_L_830 : decode J_L.2.1 830 = .ok (.if_icmp .eq 937, 3) := by decide +kernel
theorem d_L_833 : decode J_L.2.1 833 = .ok (.iconst 0, 1) := by decide +kernel
theorem d_L_834 : decode J_L.2.1 834 = .ok (.ireturn, 1) := by decide +kernel
theorem d_L_835 : decode J_L.2.1 835 = .ok (.aload_n 1, 1) := by decide +kernel
theorem d_L_836 : decode J_L.2.1 836 = .ok (.aload_n 0, 1) := by decide +kernel
theorem d_L_837 : decode J_L.2.1 837 = .ok (.iload_n 3, 1) := by decide +kernel
theorem d_L_838 : decode J_L.2.1 838 = .ok (.iconst 1, 1) := by decide +kernel
theorem d_L_839 : decode J_L.2.1 839 = .ok (.iadd, 1) := by decide +kernel
theorem d_L_840 : decode J_L.2.1 840 = .ok (.iaload, 1) := by decide +kernel
theorem d_L_841 : decode J_L.2.1 841 = .ok (.aload_n 0, 1) := by decide +kernel
theorem d_L_842 : decode J_L.2.1 842 = .ok (.iload_n 3, 1) := by decide +kernel
theorem d_L_843 : decode J_L.2.1 843 = .ok (.iconst 2, 1) := by decide +kernel
theorem d_L_844 : decode J_L.2.1 844 = .ok (.iadd, 1) := by decide +kernel
theorem d_L_845 : decode J_L.2.1 845 = .ok (.iaload, 1) := by decide +kernel
theorem d_L_846 : decode J_L.2.1 846 = .ok (.aload_n 0, 1) := by decide +kernel
theorem d_L_847 : decode J_L.2.1 847 = .ok (.iload_n 3, 1) := by decide +kernel
theorem d_L_848 : decode J_L.2.1 848 = .ok (.iconst 3, 1) := by decide +kernel
theorem d_L_849 : decode J_L.2.1 849 = .ok (.iadd, 1) := by decide +kernel
theorem d_L_850 : decode J_L.2.1 850 = .ok (.iaload, 1) := by decide +kernel
theorem d_L_851 : decode J_L.2.1 851 = .ok (.invokevirtual 86, 3) := by decide +kernel
theorem d_L_854 : decode J_L.2.1 854 = .ok (.aload_n 2, 1) := by decide +kernel
theorem d_L_855 : decode J_L.2.1 855 = .ok (.aload_n 0, 1) := by decide +kernel
theorem d_L_856 : decode J_L.2.1 856 = .ok (.iload_n 3, 1) := by decide +kernel
theorem d_L_857 : decode J_L.2.1 857 = .ok (.iconst 1, 1) := by decide +kernel
theorem d_L_858 : decode J_L.2.1 858 = .ok (.iadd, 1) := by decide +kernel
theorem d_L_859 : decode J_L.2.1 859 = .ok (.iaload, 1) := by decide +kernel
theorem d_L_860 : decode J_L.2.1 860 = .ok (.aload_n 0, 1) := by decide +kernel
theorem d_L_861 : decode J_L.2.1 861 = .ok (.iload_n 3, 1) := by decide +kernel
theorem d_L_862 : decode J_L.2.1 862 = .ok (.iconst 2, 1) := by decide +kernel
theorem d_L_863 : decode J_L.2.1 863 = .ok (.iadd, 1) := by decide +kernel
theorem d_L_864 : decode J_L.2.1 864 = .ok (.iaload, 1) := by decide +kernel
theorem d_L_865 : decode J_L.2.1 865 = .ok (.aload_n 0, 1) := by decide +kernel
theorem d_L_866 : decode J_L.2.1 866 = .ok (.iload_n 3, 1) := by decide +kernel
theorem d_L_867 : decode J_L.2.1 867 = .ok (.iconst 3, 1) := by decide +kernel
theorem d_L_868 : decode J_L.2.1 868 = .ok (.iadd, 1) := by decide +kernel
theorem d_L_869 : decode J_L.2.1 869 = .ok (.iaload, 1) := by decide +kernel
theorem d_L_870 : decode J_L.2.1 870 = .ok (.invokevirtual 89, 3) := by decide +kernel
theorem d_L_873 : decode J_L.2.1 873 = .ok (.if_icmp .eq 894, 3) := by decide +kernel
theorem d_L_876 : decode J_L.2.1 876 = .ok (.iconst 0, 1) := by decide +kernel
theorem d_L_877 : decode J_L.2.1 877 = .ok (.ireturn, 1) := by decide +kernel
theorem d_L_878 : decode J_L.2.1 878 = .ok (.aload_n 1, 1) := by decide +kernel
theorem d_L_879 : decode J_L.2.1 879 = .ok (.aload_n 0, 1) := by decide +kernel
theorem d_L_880 : decode J_L.2.1 880 = .ok (.iload_n 3, 1) := by decide +kernel
theorem d_L_881 : decode J_L.2.1 881 = .ok (.iconst 1, 1) := by decide +kernel
theorem d_L_882 : decode J_L.2.1 882 = .ok (.iadd, 1) := by decide +kernel
theorem d_L_883 : decode J_L.2.1 883 = .ok (.iaload, 1) := by decide +kernel
theorem d_L_884 : decode J_L.2.1 884 = .ok (.aload_n 0, 1) := by decide +kernel
theorem d_L_885 : decode J_L.2.1 885 = .ok (.iload_n 3, 1) := by decide +kernel
theorem d_L_886 : decode J_L.2.1 886 = .ok (.iconst 2, 1) := by decide +kernel
theorem d_L_887 : decode J_L.2.1 887 = .ok (.iadd, 1) := by decide +kernel
theorem d_L_888 : decode J_L.2.1 888 = .ok (.iaload, 1) := by decide +kernel
theorem d_L_889 : decode J_L.2.1 889 = .ok (.aload_n 0, 1) := by decide +kernel
theorem d_L_890 : decode J_L.2.1 890 = .ok (.iload_n 3, 1) := by decide +kernel
theorem d_L_891 : decode J_L.2.1 891 = .ok (.iconst 3, 1) := by decide +kernel
theorem d_L_892 : decode J_L.2.1 892 = .ok (.iadd, 1) := by decide +kernel
theorem d_L_893 : decode J_L.2.1 893 = .ok (.iaload, 1) := by decide +kernel
theorem d_L_894 : decode J_L.2.1 894 = .ok (.invokevirtual 90, 3) := by decide +kernel
theorem d_L_897 : decode J_L.2.1 897 = .ok (.aload_n 2, 1) := by decide +kernel
theorem d_L_898 : decode J_L.2.1 898 = .ok (.aload_n 0, 1) := by decide +kernel
theorem d_L_899 : decode J_L.2.1 899 = .ok (.iload_n 3, 1) := by decide +kernel
theorem d_L_900 : decode J_L.2.1 900 = .ok (.iconst 1, 1) := by decide +kernel
theorem d_L_901 : decode J_L.2.1 901 = .ok (.iadd, 1) := by decide +kernel
theorem d_L_902 : decode J_L.2.1 902 = .ok (.iaload, 1) := by decide +kernel
theorem d_L_903 : decode J_L.2.1 903 = .ok (.aload_n 0, 1) := by decide +kernel
theorem d_L_904 : decode J_L.2.1 904 = .ok (.iload_n 3, 1) := by decide +kernel
theorem d_L_905 : decode J_L.2.1 905 = .ok (.iconst 2, 1) := by decide +kernel
theorem d_L_906 : decode J_L.2.1 906 = .ok (.iadd, 1) := by decide +kernel
theorem d_L_907 : decode J_L.2.1 907 = .ok (.iaload, 1) := by decide +kernel
theorem d_L_908 : decode J_L.2.1 908 = .ok (.aload_n 0, 1) := by decide +kernel
theorem d_L_909 : decode J_L.2.1 909 = .ok (.iload_n 3, 1) := by decide +kernel
theorem d_L_910 : decode J_L.2.1 910 = .ok (.iconst 3, 1) := by decide +kernel
theorem d_L_911 : decode J_L.2.1 911 = .ok (.iadd, 1) := by decide +kernel
theorem d_L_912 : decode J_L.2.1 912 = .ok (.iaload, 1) := by decide +kernel
theorem d_L_913 : decode J_L.2.1 913 = .ok (.invokevirtual 93, 3) := by decide +kernel
theorem d_L_916 : decode J_L.2.1 916 = .ok (.if_icmp .eq 851, 3) := by decide +kernel
theorem d_L_919 : decode J_L.2.1 919 = .ok (.iconst 0, 1) := by decide +kernel
theorem d_L_920 : decode J_L.2.1 920 = .ok (.ireturn, 1) := by decide +kernel
theorem d_L_921 : decode J_L.2.1 921 = .ok (.aload_n 1, 1) := by decide +kernel
theorem d_L_922 : decode J_L.2.1 922 = .ok (.aload_n 0, 1) := by decide +kernel
theorem d_L_923 : decode J_L.2.1 923 = .ok (.iload_n 3, 1) := by decide +kernel
theorem d_L_924 : decode J_L.2.1 924 = .ok (.iconst 1, 1) := by decide +kernel
theorem d_L_925 : decode J_L.2.1 925 = .ok (.iadd, 1) := by decide +kernel
theorem d_L_926 : decode J_L.2.1 926 = .ok (.iaload, 1) := by decide +kernel
theorem d_L_927 : decode J_L.2.1 927 = .ok (.aload_n 0, 1) := by decide +kernel
theorem d_L_928 : decode J_L.2.1 928 = .ok (.iload_n 3, 1) := by decide +kernel
theorem d_L_929 : decode J_L.2.1 929 = .ok (.iconst 2, 1) := by decide +kernel
theorem d_L_930 : decode J_L.2.1 930 = .ok (.iadd, 1) := by decide +kernel
theorem d_L_931 : decode J_L.2.1 931 = .ok (.iaload, 1) := by decide +kernel
theorem d_L_932 : decode J_L.2.1 932 = .ok (.aload_n 0, 1) := by decide +kernel
theorem d_L_933 : decode J_L.2.1 933 = .ok (.iload_n 3, 1) := by decide +kernel
theorem d_L_934 : decode J_L.2.1 934 = .ok (.iconst 3, 1) := by decide +kernel
theorem d_L_935 : decode J_L.2.1 935 = .ok (.iadd, 1) := by decide +kernel
theorem d_L_936 : decode J_L.2.1 936 = .ok (.iaload, 1) := by decide +kernel
theorem d_L_937 : decode J_L.2.1 937 = .ok (.invokevirtual 94, 3) := by decide +kernel
theorem d_L_940 : decode J_L.2.1 940 = .ok (.aload_n 2, 1) := by decide +kernel
theorem d_L_941 : decode J_L.2.1 941 = .ok (.aload_n 0, 1) := by decide +kernel
theorem d_L_942 : decode J_L.2.1 942 = .ok (.iload_n 3, 1) := by decide +kernel
theorem d_L_943 : decode J_L.2.1 943 = .ok (.iconst 1, 1) := by decide +kernel
theorem d_L_944 : decode J_L.2.1 944 = .ok (.iadd, 1) := by decide +kernel
theorem d_L_945 : decode J_L.2.1 945 = .ok (.iaload, 1) := by decide +kernel
theorem d_L_946 : decode J_L.2.1 946 = .ok (.aload_n 0, 1) := by decide +kernel
theorem d_L_947 : decode J_L.2.1 947 = .ok (.iload_n 3, 1) := by decide +kernel
theorem d_L_948 : decode J_L.2.1 948 = .ok (.iconst 2, 1) := by decide +kernel
theorem d_L_949 : decode J_L.2.1 949 = .ok (.iadd, 1) := by decide +kernel
theorem d_L_950 : decode J_L.2.1 950 = .ok (.iaload, 1) := by decide +kernel
theorem d_L_951 : decode J_L.2.1 951 = .ok (.aload_n 0, 1) := by decide +kernel
theorem d_L_952 : decode J_L.2.1 952 = .ok (.iload_n 3, 1) := by decide +kernel
theorem d_L_953 : decode J_L.2.1 953 = .ok (.iconst 3, 1) := by decide +kernel
theorem d_L_954 : decode J_L.2.1 954 = .ok (.iadd, 1) := by decide +kernel
theorem d_L_955 : decode J_L.2.1 955 = .ok (.iaload, 1) := by decide +kernel
theorem d_L_956 : decode J_L.2.1 956 = .ok (.invokevirtual 97, 3) := by decide +kernel
theorem d_L_959 : decode J_L.2.1 959 = .ok (.if_icmp .eq 808, 3) := by decide +kernel
theorem d_L_962 : decode J_L.2.1 962 = .ok (.iconst 0, 1) := by decide +kernel
theorem d_L_963 : decode J_L.2.1 963 = .ok (.ireturn, 1) := by decide +kernel
theorem d_L_964 : decode J_L.2.1 964 = .ok (.aload_n 1, 1) := by decide +kernel
theorem d_L_965 : decode J_L.2.1 965 = .ok (.aload_n 0, 1) := by decide +kernel
theorem d_L_966 : decode J_L.2.1 966 = .ok (.iload_n 3, 1) := by decide +kernel
theorem d_L_967 : decode J_L.2.1 967 = .ok (.iconst 1, 1) := by decide +kernel
theorem d_L_968 : decode J_L.2.1 968 = .ok (.iadd, 1) := by decide +kernel
theorem d_L_969 : decode J_L.2.1 969 = .ok (.iaload, 1) := by decide +kernel
theorem d_L_970 : decode J_L.2.1 970 = .ok (.aload_n 0, 1) := by decide +kernel
theorem d_L_971 : decode J_L.2.1 971 = .ok (.iload_n 3, 1) := by decide +kernel
theorem d_L_972 : decode J_L.2.1 972 = .ok (.iconst 2, 1) := by decide +kernel
theorem d_L_973 : decode J_L.2.1 973 = .ok (.iadd, 1) := by decide +kernel
theorem d_L_974 : decode J_L.2.1 974 = .ok (.iaload, 1) := by decide +kernel
theorem d_L_975 : decode J_L.2.1 975 = .ok (.aload_n 0, 1) := by decide +kernel
theorem d_L_976 : decode J_L.2.1 976 = .ok (.iload_n 3, 1) := by decide +kernel
theorem d_L_977 : decode J_L.2.1 977 = .ok (.iconst 3, 1) := by decide +kernel
theorem d_L_978 : decode J_L.2.1 978 = .ok (.iadd, 1) := by decide +kernel
theorem d_L_979 : decode J_L.2.1 979 = .ok (.iaload, 1) := by decide +kernel
theorem d_L_980 : decode J_L.2.1 980 = .ok (.invokevirtual 98, 3) := by decide +kernel
theorem d_L_983 : decode J_L.2.1 983 = .ok (.aload_n 2, 1) := by decide +kernel
theorem d_L_984 : decode J_L.2.1 984 = .ok (.aload_n 0, 1) := by decide +kernel
theorem d_L_985 : decode J_L.2.1 985 = .ok (.iload_n 3, 1) := by decide +kernel
theorem d_L_986 : decode J_L.2.1 986 = .ok (.iconst 1, 1) := by decide +kernel
theorem d_L_987 : decode J_L.2.1 987 = .ok (.iadd, 1) := by decide +kernel
theorem d_L_988 : decode J_L.2.1 988 = .ok (.iaload, 1) := by decide +kernel
theorem d_L_989 : decode J_L.2.1 989 = .ok (.aload_n 0, 1) := by decide +kernel
theorem d_L_990 : decode J_L.2.1 990 = .ok (.iload_n 3, 1) := by decide +kernel
theorem d_L_991 : decode J_L.2.1 991 = .ok (.iconst 2, 1) := by decide +kernel
theorem d_L_992 : decode J_L.2.1 992 = .ok (.iadd, 1) := by decide +kernel
theorem d_L_993 : decode J_L.2.1 993 = .ok (.iaload, 1) := by decide +kernel
theorem d_L_994 : decode J_L.2.1 994 = .ok (.aload_n 0, 1) := by decide +kernel
theorem d_L_995 : decode J_L.2.1 995 = .ok (.iload_n 3, 1) := by decide +kernel
theorem d_L_996 : decode J_L.2.1 996 = .ok (.iconst 3, 1) := by decide +kernel
theorem d_L_997 : decode J_L.2.1 997 = .ok (.iadd, 1) := by decide +kernel
theorem d_L_998 : decode J_L.2.1 998 = .ok (.iaload, 1) := by decide +kernel
theorem d_L_999 : decode J_L.2.1 999 = .ok (.invokevirtual 101, 3) := by decide +kernel
theorem d_L_1002 : decode J_L.2.1 1002 = .ok (.if_icmp .eq 765, 3) := by decide +kernel
theorem d_L_1005 : decode J_L.2.1 1005 = .ok (.iconst 0, 1) := by decide +kernel
theorem d_L_1006 : decode J_L.2.1 1006 = .ok (.ireturn, 1) := by decide +kernel
theorem d_L_1007 : decode J_L.2.1 1007 = .ok (.aload_n 1, 1) := by decide +kernel
theorem d_L_1008 : decode J_L.2.1 1008 = .ok (.aload_n 0, 1) := by decide +kernel
theorem d_L_1009 : decode J_L.2.1 1009 = .ok (.iload_n 3, 1) := by decide +kernel
theorem d_L_1010 : decode J_L.2.1 1010 = .ok (.iconst 1, 1) := by decide +kernel
theorem d_L_1011 : decode J_L.2.1 1011 = .ok (.iadd, 1) := by decide +kernel
theorem d_L_1012 : decode J_L.2.1 1012 = .ok (.iaload, 1) := by decide +kernel
theorem d_L_1013 : decode J_L.2.1 1013 = .ok (.aload_n 0, 1) := by decide +kernel
theorem d_L_1014 : decode J_L.2.1 1014 = .ok (.iload_n 3, 1) := by decide +kernel
theorem d_L_1015 : decode J_L.2.1 1015 = .ok (.iconst 2, 1) := by decide +kernel
theorem d_L_1016 : decode J_L.2.1 1016 = .ok (.iadd, 1) := by decide +kernel
theorem d_L_1017 : decode J_L.2.1 1017 = .ok (.iaload, 1) := by decide +kernel
theorem d_L_1018 : decode J_L.2.1 1018 = .ok (.invokevirtual 102, 3) := by decide +kernel
theorem d_L_1021 : decode J_L.2.1 1021 = .ok (.aload_n 2, 1) := by decide +kernel
theorem d_L_1022 : decode J_L.2.1 1022 = .ok (.aload_n 0, 1) := by decide +kernel
theorem d_L_1023 : decode J_L.2.1 1023 = .ok (.iload_n 3, 1) := by decide +kernel
theorem d_L_1024 : decode J_L.2.1 1024 = .ok (.iconst 1, 1) := by decide +kernel
theorem d_L_1025 : decode J_L.2.1 1025 = .ok (.iadd, 1) := by decide +kernel
theorem d_L_1026 : decode J_L.2.1 1026 = .ok (.iaload, 1) := by decide +kernel
theorem d_L_1027 : decode J_L.2.1 1027 = .ok (.aload_n 0, 1) := by decide +kernel
theorem d_L_1028 : decode J_L.2.1 1028 = .ok (.iload_n 3, 1) := by decide +kernel
theorem d_L_1029 : decode J_L.2.1 1029 = .ok (.iconst 2, 1) := by decide +kernel
theorem d_L_1030 : decode J_L.2.1 1030 = .ok (.iadd, 1) := by decide +kernel
theorem d_L_1031 : decode J_L.2.1 1031 = .ok (.iaload, 1) := by decide +kernel
theorem d_L_1032 : decode J_L.2.1 1032 = .ok (.invokevirtual 105, 3) := by decide +kernel
theorem d_L_1035 : decode J_L.2.1 1035 = .ok (.if_icmp .eq 732, 3) := by decide +kernel
theorem d_L_1038 : decode J_L.2.1 1038 = .ok (.iconst 0, 1) := by decide +kernel
theorem d_L_1039 : decode J_L.2.1 1039 = .ok (.ireturn, 1) := by decide +kernel
theorem d_L_1040 : decode J_L.2.1 1040 = .ok (.aload_n 1, 1) := by decide +kernel
theorem d_L_1041 : decode J_L.2.1 1041 = .ok (.aload_n 0, 1) := by decide +kernel
theorem d_L_1042 : decode J_L.2.1 1042 = .ok (.iload_n 3, 1) := by decide +kernel
theorem d_L_1043 : decode J_L.2.1 1043 = .ok (.iconst 1, 1) := by decide +kernel
theorem d_L_1044 : decode J_L.2.1 1044 = .ok (.iadd, 1) := by decide +kernel
theorem d_L_1045 : decode J_L.2.1 1045 = .ok (.iaload, 1) := by decide +kernel
theorem d_L_1046 : decode J_L.2.1 1046 = .ok (.invokevirtual 106, 3) := by decide +kernel
theorem d_L_1049 : decode J_L.2.1 1049 = .ok (.aload_n 2, 1) := by decide +kernel
theorem d_L_1050 : decode J_L.2.1 1050 = .ok (.aload_n 0, 1) := by decide +kernel
theorem d_L_1051 : decode J_L.2.1 1051 = .ok (.iload_n 3, 1) := by decide +kernel
theorem d_L_1052 : decode J_L.2.1 1052 = .ok (.iconst 1, 1) := by decide +kernel
theorem d_L_1053 : decode J_L.2.1 1053 = .ok (.iadd, 1) := by decide +kernel
theorem d_L_1054 : decode J_L.2.1 1054 = .ok (.iaload, 1) := by decide +kernel
theorem d_L_1055 : decode J_L.2.1 1055 = .ok (.invokevirtual 109, 3) := by decide +kernel
theorem d_L_1058 : decode J_L.2.1 1058 = .ok (.if_icmp .eq 709, 3) := by decide +kernel
theorem d_L_1061 : decode J_L.2.1 1061 = .ok (.iconst 0, 1) := by decide +kernel
theorem d_L_1062 : decode J_L.2.1 1062 = .ok (.ireturn, 1) := by decide +kernel
theorem d_L_1063 : decode J_L.2.1 1063 = .ok (.aload_n 1, 1) := by decide +kernel
theorem d_L_1064 : decode J_L.2.1 1064 = .ok (.aload_n 0, 1) := by decide +kernel
theorem d_L_1065 : decode J_L.2.1 1065 = .ok (.iload_n 3, 1) := by decide +kernel
theorem d_L_1066 : decode J_L.2.1 1066 = .ok (.iconst 1, 1) := by decide +kernel
theorem d_L_1067 : decode J_L.2.1 1067 = .ok (.iadd, 1) := by decide +kernel
theorem d_L_1068 : decode J_L.2.1 1068 = .ok (.iaload, 1) := by decide +kernel
theorem d_L_1069 : decode J_L.2.1 1069 = .ok (.aload_n 0, 1) := by decide +kernel
theorem d_L_1070 : decode J_L.2.1 1070 = .ok (.iload_n 3, 1) := by decide +kernel
theorem d_L_1071 : decode J_L.2.1 1071 = .ok (.iconst 2, 1) := by decide +kernel
theorem d_L_1072 : decode J_L.2.1 1072 = .ok (.iadd, 1) := by decide +kernel
theorem d_L_1073 : decode J_L.2.1 1073 = .ok (.iaload, 1) := by decide +kernel
theorem d_L_1074 : decode J_L.2.1 1074 = .ok (.invokevirtual 110, 3) := by decide +kernel
theorem d_L_1077 : decode J_L.2.1 1077 = .ok (.aload_n 2, 1) := by decide +kernel
theorem d_L_1078 : decode J_L.2.1 1078 = .ok (.aload_n 0, 1) := by decide +kernel
theorem d_L_1079 : decode J_L.2.1 1079 = .ok (.iload_n 3, 1) := by decide +kernel
theorem d_L_1080 : decode J_L.2.1 1080 = .ok (.iconst 1, 1) := by decide +kernel
theorem d_L_1081 : decode J_L.2.1 1081 = .ok (.iadd, 1) := by decide +kernel
theorem d_L_1082 : decode J_L.2.1 1082 = .ok (.iaload, 1) := by decide +kernel
theorem d_L_1083 : decode J_L.2.1 1083 = .ok (.aload_n 0, 1) := by decide +kernel
theorem d_L_1084 : decode J_L.2.1 1084 = .ok (.iload_n 3, 1) := by decide +kernel
theorem d_L_1085 : decode J_L.2.1 1085 = .ok (.iconst 2, 1) := by decide +kernel
theorem d_L_1086 : decode J_L.2.1 1086 = .ok (.iadd, 1) := by decide +kernel
theorem d_L_1087 : decode J_L.2.1 1087 = .ok (.iaload, 1) := by decide +kernel
theorem d_L_1088 : decode J_L.2.1 1088 = .ok (.invokevirtual 113, 3) := by decide +kernel
theorem d_L_1091 : decode J_L.2.1 1091 = .ok (.if_icmp .eq 676, 3) := by decide +kernel
theorem d_L_1094 : decode J_L.2.1 1094 = .ok (.iconst 0, 1) := by decide +kernel
theorem d_L_1095 : decode J_L.2.1 1095 = .ok (.ireturn, 1) := by decide +kernel
theorem d_L_1096 : decode J_L.2.1 1096 = .ok (.aload_n 1, 1) := by decide +kernel
theorem d_L_1097 : decode J_L.2.1 1097 = .ok (.invokevirtual 114, 3) := by decide +kernel
theorem d_L_1100 : decode J_L.2.1 1100 = .ok (.aload_n 2, 1) := by decide +kernel
theorem d_L_1101 : decode J_L.2.1 1101 = .ok (.invokevirtual 117, 3) := by decide +kernel
theorem d_L_1104 : decode J_L.2.1 1104 = .ok (.if_icmp .eq 663, 3) := by decide +kernel
theorem d_L_1107 : decode J_L.2.1 1107 = .ok (.iconst 0, 1) := by decide +kernel
theorem d_L_1108 : decode J_L.2.1 1108 = .ok (.ireturn, 1) := by decide +kernel
theorem d_L_1109 : decode J_L.2.1 1109 = .ok (.aload_n 1, 1) := by decide +kernel
theorem d_L_1110 : decode J_L.2.1 1110 = .ok (.aload_n 0, 1) := by decide +kernel
theorem d_L_1111 : decode J_L.2.1 1111 = .ok (.iload_n 3, 1) := by decide +kernel
theorem d_L_1112 : decode J_L.2.1 1112 = .ok (.iconst 1, 1) := by decide +kernel
theorem d_L_1113 : decode J_L.2.1 1113 = .ok (.iadd, 1) := by decide +kernel
theorem d_L_1114 : decode J_L.2.1 1114 = .ok (.iaload, 1) := by decide +kernel
theorem d_L_1115 : decode J_L.2.1 1115 = .ok (.aload_n 0, 1) := by decide +kernel
theorem d_L_1116 : decode J_L.2.1 1116 = .ok (.iload_n 3, 1) := by decide +kernel
theorem d_L_1117 : decode J_L.2.1 1117 = .ok (.iconst 2, 1) := by decide +kernel
theorem d_L_1118 : decode J_L.2.1 1118 = .ok (.iadd, 1) := by decide +kernel
theorem d_L_1119 : decode J_L.2.1 1119 = .ok (.iaload, 1) := by decide +kernel
theorem d_L_1120 : decode J_L.2.1 1120 = .ok (.aload_n 0, 1) := by decide +kernel
theorem d_L_1121 : decode J_L.2.1 1121 = .ok (.iload_n 3, 1) := by decide +kernel
theorem d_L_1122 : decode J_L.2.1 1122 = .ok (.iconst 3, 1) := by decide +kernel
theorem d_L_1123 : decode J_L.2.1 1123 = .ok (.iadd, 1) := by decide +kernel
theorem d_L_1124 : decode J_L.2.1 1124 = .ok (.iaload, 1) := by decide +kernel
theorem d_L_1125 : decode J_L.2.1 1125 = .ok (.invokevirtual 118, 3) := by decide +kernel
theorem d_L_1128 : decode J_L.2.1 1128 = .ok (.aload_n 2, 1) := by decide +kernel
theorem d_L_1129 : decode J_L.2.1 1129 = .ok (.aload_n 0, 1) := by decide +kernel
theorem d_L_1130 : decode J_L.2.1 1130 = .ok (.iload_n 3, 1) := by decide +kernel
theorem d_L_1131 : decode J_L.2.1 1131 = .ok (.iconst 1, 1) := by decide +kernel
theorem d_L_1132 : decode J_L.2.1 1132 = .ok (.iadd, 1) := by decide +kernel
theorem d_L_1133 : decode J_L.2.1 1133 = .ok (.iaload, 1) := by decide +kernel
theorem d_L_1134 : decode J_L.2.1 1134 = .ok (.aload_n 0, 1) := by decide +kernel
theorem d_L_1135 : decode J_L.2.1 1135 = .ok (.iload_n 3, 1) := by decide +kernel
theorem d_L_1136 : decode J_L.2.1 1136 = .ok (.iconst 2, 1) := by decide +kernel
theorem d_L_1137 : decode J_L.2.1 1137 = .ok (.iadd, 1) := by decide +kernel
theorem d_L_1138 : decode J_L.2.1 1138 = .ok (.iaload, 1) := by decide +kernel
theorem d_L_1139 : decode J_L.2.1 1139 = .ok (.aload_n 0, 1) := by decide +kernel
theorem d_L_1140 : decode J_L.2.1 1140 = .ok (.iload_n 3, 1) := by decide +kernel
theorem d_L_1141 : decode J_L.2.1 1141 = .ok (.iconst 3, 1) := by decide +kernel
theorem d_L_1142 : decode J_L.2.1 1142 = .ok (.iadd, 1) := by decide +kernel
theorem d_L_1143 : decode J_L.2.1 1143 = .ok (.iaload, 1) := by decide +kernel
theorem d_L_1144 : decode J_L.2.1 1144 = .ok (.invokevirtual 121, 3) := by decide +kernel
theorem d_L_1147 : decode J_L.2.1 1147 = .ok (.if_icmp .eq 620, 3) := by decide +kernel
theorem d_L_1150 : decode J_L.2.1 1150 = .ok (.iconst 0, 1) := by decide +kernel
theorem d_L_1151 : decode J_L.2.1 1151 = .ok (.ireturn, 1) := by decide +kernel
theorem d_L_1152 : decode J_L.2.1 1152 = .ok (.aload_n 1, 1) := by decide +kernel
theorem d_L_1153 : decode J_L.2.1 1153 = .ok (.aload_n 0, 1) := by decide +kernel
theorem d_L_1154 : decode J_L.2.1 1154 = .ok (.iload_n 3, 1) := by decide +kernel
theorem d_L_1155 : decode J_L.2.1 1155 = .ok (.iconst 1, 1) := by decide +kernel
theorem d_L_1156 : decode J_L.2.1 1156 = .ok (.iadd, 1) := by decide +kernel
theorem d_L_1157 : decode J_L.2.1 1157 = .ok (.iaload, 1) := by decide +kernel
theorem d_L_1158 : decode J_L.2.1 1158 = .ok (.invokevirtual 122, 3) := by decide +kernel
theorem d_L_1161 : decode J_L.2.1 1161 = .ok (.aload_n 2, 1) := by decide +kernel
theorem d_L_1162 : decode J_L.2.1 1162 = .ok (.aload_n 0, 1) := by decide +kernel
theorem d_L_1163 : decode J_L.2.1 1163 = .ok (.iload_n 3, 1) := by decide +kernel
theorem d_L_1164 : decode J_L.2.1 1164 = .ok (.iconst 1, 1) := by decide +kernel
theorem d_L_1165 : decode J_L.2.1 1165 = .ok (.iadd, 1) := by decide +kernel
theorem d_L_1166 : decode J_L.2.1 1166 = .ok (.iaload, 1) := by decide +kernel
theorem d_L_1167 : decode J_L.2.1 1167 = .ok (.invokevirtual 125, 3) := by decide +kernel
theorem d_L_1170 : decode J_L.2.1 1170 = .ok (.if_icmp .eq 597, 3) := by decide +kernel
theorem d_L_1173 : decode J_L.2.1 1173 = .ok (.iconst 0, 1) := by decide +kernel
theorem d_L_1174 : decode J_L.2.1 1174 = .ok (.ireturn, 1) := by decide +kernel
theorem d_L_1175 : decode J_L.2.1 1175 = .ok (.aload_n 1, 1) := by decide +kernel
theorem d_L_1176 : decode J_L.2.1 1176 = .ok (.aload_n 0, 1) := by decide +kernel
theorem d_L_1177 : decode J_L.2.1 1177 = .ok (.iload_n 3, 1) := by decide +kernel
theorem d_L_1178 : decode J_L.2.1 1178 = .ok (.iconst 1, 1) := by decide +kernel
theorem d_L_1179 : decode J_L.2.1 1179 = .ok (.iadd, 1) := by decide +kernel
theorem d_L_1180 : decode J_L.2.1 1180 = .ok (.iaload, 1) := by decide +kernel
theorem d_L_1181 : decode J_L.2.1 1181 = .ok (.aload_n 0, 1) := by decide +kernel
theorem d_L_1182 : decode J_L.2.1 1182 = .ok (.iload_n 3, 1) := by decide +kernel
theorem d_L_1183 : decode J_L.2.1 1183 = .ok (.iconst 2, 1) := by decide +kernel
theorem d_L_1184 : decode J_L.2.1 1184 = .ok (.iadd, 1) := by decide +kernel
theorem d_L_1185 : decode J_L.2.1 1185 = .ok (.iaload, 1) := by decide +kernel
theorem d_L_1186 : decode J_L.2.1 1186 = .ok (.invokevirtual 126, 3) := by decide +kernel
theorem d_L_1189 : decode J_L.2.1 1189 = .ok (.aload_n 2, 1) := by decide +kernel
theorem d_L_1190 : decode J_L.2.1 1190 = .ok (.aload_n 0, 1) := by decide +kernel
theorem d_L_1191 : decode J_L.2.1 1191 = .ok (.iload_n 3, 1) := by decide +kernel
theorem d_L_1192 : decode J_L.2.1 1192 = .ok (.iconst 1, 1) := by decide +kernel
theorem d_L_1193 : decode J_L.2.1 1193 = .ok (.iadd, 1) := by decide +kernel
theorem d_L_1194 : decode J_L.2.1 1194 = .ok (.iaload, 1) := by decide +kernel
theorem d_L_1195 : decode J_L.2.1 1195 = .ok (.aload_n 0, 1) := by decide +kernel
theorem d_L_1196 : decode J_L.2.1 1196 = .ok (.iload_n 3, 1) := by decide +kernel
theorem d_L_1197 : decode J_L.2.1 1197 = .ok (.iconst 2, 1) := by decide +kernel
theorem d_L_1198 : decode J_L.2.1 1198 = .ok (.iadd, 1) := by decide +kernel
theorem d_L_1199 : decode J_L.2.1 1199 = .ok (.iaload, 1) := by decide +kernel
theorem d_L_1200 : decode J_L.2.1 1200 = .ok (.invokevirtual 129, 3) := by decide +kernel
theorem d_L_1203 : decode J_L.2.1 1203 = .ok (.if_icmp .eq 564, 3) := by decide +kernel
theorem d_L_1206 : decode J_L.2.1 1206 = .ok (.iconst 0, 1) := by decide +kernel
theorem d_L_1207 : decode J_L.2.1 1207 = .ok (.ireturn, 1) := by decide +kernel
theorem d_L_1208 : decode J_L.2.1 1208 = .ok (.aload_n 1, 1) := by decide +kernel
theorem d_L_1209 : decode J_L.2.1 1209 = .ok (.aload_n 0, 1) := by decide +kernel
theorem d_L_1210 : decode J_L.2.1 1210 = .ok (.iload_n 3, 1) := by decide +kernel
theorem d_L_1211 : decode J_L.2.1 1211 = .ok (.iconst 1, 1) := by decide +kernel
theorem d_L_1212 : decode J_L.2.1 1212 = .ok (.iadd, 1) := by decide +kernel
theorem d_L_1213 : decode J_L.2.1 1213 = .ok (.iaload, 1) := by decide +kernel
theorem d_L_1214 : decode J_L.2.1 1214 = .ok (.aload_n 0, 1) := by decide +kernel
theorem d_L_1215 : decode J_L.2.1 1215 = .ok (.iload_n 3, 1) := by decide +kernel
theorem d_L_1216 : decode J_L.2.1 1216 = .ok (.iconst 2, 1) := by decide +kernel
theorem d_L_1217 : decode J_L.2.1 1217 = .ok (.iadd, 1) := by decide +kernel
theorem d_L_1218 : decode J_L.2.1 1218 = .ok (.iaload, 1) := by decide +kernel
theorem d_L_1219 : decode J_L.2.1 1219 = .ok (.aload_n 0, 1) := by decide +kernel
theorem d_L_1220 : decode J_L.2.1 1220 = .ok (.iload_n 3, 1) := by decide +kernel
theorem d_L_1221 : decode J_L.2.1 1221 = .ok (.iconst 3, 1) := by decide +kernel
theorem d_L_1222 : decode J_L.2.1 1222 = .ok (.iadd, 1) := by decide +kernel
theorem d_L_1223 : decode J_L.2.1 1223 = .ok (.iaload, 1) := by decide +kernel
theorem d_L_1224 : decode J_L.2.1 1224 = .ok (.aload_n 0, 1) := by decide +kernel
theorem d_L_1225 : decode J_L.2.1 1225 = .ok (.iload_n 3, 1) := by decide +kernel
theorem d_L_1226 : decode J_L.2.1 1226 = .ok (.iconst 4, 1) := by decide +kernel
theorem d_L_1227 : decode J_L.2.1 1227 = .ok (.iadd, 1) := by decide +kernel
theorem d_L_1228 : decode J_L.2.1 1228 = .ok (.iaload, 1) := by decide +kernel
theorem d_L_1229 : decode J_L.2.1 1229 = .ok (.invokevirtual 130, 3) := by decide +kernel
theorem d_L_1232 : decode J_L.2.1 1232 = .ok (.aload_n 2, 1) := by decide +kernel
theorem d_L_1233 : decode J_L.2.1 1233 = .ok (.aload_n 0, 1) := by decide +kernel
theorem d_L_1234 : decode J_L.2.1 1234 = .ok (.iload_n 3, 1) := by decide +kernel
theorem d_L_1235 : decode J_L.2.1 1235 = .ok (.iconst 1, 1) := by decide +kernel
theorem d_L_1236 : decode J_L.2.1 1236 = .ok (.iadd, 1) := by decide +kernel
theorem d_L_1237 : decode J_L.2.1 1237 = .ok (.iaload, 1) := by decide +kernel
theorem d_L_1238 : decode J_L.2.1 1238 = .ok (.aload_n 0, 1) := by decide +kernel
theorem d_L_1239 : decode J_L.2.1 1239 = .ok (.iload_n 3, 1) := by decide +kernel
theorem d_L_1240 : decode J_L.2.1 1240 = .ok (.iconst 2, 1) := by decide +kernel
theorem d_L_1241 : decode J_L.2.1 1241 = .ok (.iadd, 1) := by decide +kernel
theorem d_L_1242 : decode J_L.2.1 1242 = .ok (.iaload, 1) := by decide +kernel
theorem d_L_1243 : decode J_L.2.1 1243 = .ok (.aload_n 0, 1) := by decide +kernel
theorem d_L_1244 : decode J_L.2.1 1244 = .ok (.iload_n 3, 1) := by decide +kernel
theorem d_L_1245 : decode J_L.2.1 1245 = .ok (.iconst 3, 1) := by decide +kernel
theorem d_L_1246 : decode J_L.2.1 1246 = .ok (.iadd, 1) := by decide +kernel
theorem d_L_1247 : decode J_L.2.1 1247 = .ok (.iaload, 1) := by decide +kernel
theorem d_L_1248 : decode J_L.2.1 1248 = .ok (.aload_n 0, 1) := by decide +kernel
theorem d_L_1249 : decode J_L.2.1 1249 = .ok (.iload_n 3, 1) := by decide +kernel
theorem d_L_1250 : decode J_L.2.1 1250 = .ok (.iconst 4, 1) := by decide +kernel
theorem d_L_1251 : decode J_L.2.1 1251 = .ok (.iadd, 1) := by decide +kernel
theorem d_L_1252 : decode J_L.2.1 1252 = .ok (.iaload, 1) := by decide +kernel
theorem d_L_1253 : decode J_L.2.1 1253 = .ok (.invokevirtual 133, 3) := by decide +kernel
theorem d_L_1256 : decode J_L.2.1 1256 = .ok (.if_icmp .eq 511, 3) := by decide +kernel
theorem d_L_1259 : decode J_L.2.1 1259 = .ok (.iconst 0, 1) := by decide +kernel
theorem d_L_1260 : decode J_L.2.1 1260 = .ok (.ireturn, 1) := by decide +kernel
theorem d_L_1261 : decode J_L.2.1 1261 = .ok (.aload_n 1, 1) := by decide +kernel
theorem d_L_1262 : decode J_L.2.1 1262 = .ok (.aload_n 0, 1) := by decide +kernel
theorem d_L_1263 : decode J_L.2.1 1263 = .ok (.iload_n 3, 1) := by decide +kernel
theorem d_L_1264 : decode J_L.2.1 1264 = .ok (.iconst 1, 1) := by decide +kernel
theorem d_L_1265 : decode J_L.2.1 1265 = .ok (.iadd, 1) := by decide +kernel
theorem d_L_1266 : decode J_L.2.1 1266 = .ok (.iaload, 1) := by decide +kernel
theorem d_L_1267 : decode J_L.2.1 1267 = .ok (.aload_n 0, 1) := by decide +kernel
theorem d_L_1268 : decode J_L.2.1 1268 = .ok (.iload_n 3, 1) := by decide +kernel
theorem d_L_1269 : decode J_L.2.1 1269 = .ok (.iconst 2, 1) := by decide +kernel
theorem d_L_1270 : decode J_L.2.1 1270 = .ok (.iadd, 1) := by decide +kernel
theorem d_L_1271 : decode J_L.2.1 1271 = .ok (.iaload, 1) := by decide +kernel
theorem d_L_1272 : decode J_L.2.1 1272 = .ok (.invokevirtual 134, 3) := by decide +kernel
theorem d_L_1275 : decode J_L.2.1 1275 = .ok (.aload_n 2, 1) := by decide +kernel
theorem d_L_1276 : decode J_L.2.1 1276 = .ok (.aload_n 0, 1) := by decide +kernel
theorem d_L_1277 : decode J_L.2.1 1277 = .ok (.iload_n 3, 1) := by decide +kernel
theorem d_L_1278 : decode J_L.2.1 1278 = .ok (.iconst 1, 1) := by decide +kernel
theorem d_L_1279 : decode J_L.2.1 1279 = .ok (.iadd, 1) := by decide +kernel
theorem d_L_1280 : decode J_L.2.1 1280 = .ok (.iaload, 1) := by decide +kernel
theorem d_L_1281 : decode J_L.2.1 1281 = .ok (.aload_n 0, 1) := by decide +kernel
theorem d_L_1282 : decode J_L.2.1 1282 = .ok (.iload_n 3, 1) := by decide +kernel
theorem d_L_1283 : decode J_L.2.1 1283 = .ok (.iconst 2, 1) := by decide +kernel
theorem d_L_1284 : decode J_L.2.1 1284 = .ok (.iadd, 1) := by decide +kernel
theorem d_L_1285 : decode J_L.2.1 1285 = .ok (.iaload, 1) := by decide +kernel
theorem d_L_1286 : decode J_L.2.1 1286 = .ok (.invokevirtual 137, 3) := by decide +kernel
theorem d_L_1289 : decode J_L.2.1 1289 = .ok (.if_icmp .eq 478, 3) := by decide +kernel
theorem d_L_1292 : decode J_L.2.1 1292 = .ok (.iconst 0, 1) := by decide +kernel
theorem d_L_1293 : decode J_L.2.1 1293 = .ok (.ireturn, 1) := by decide +kernel
theorem d_L_1294 : decode J_L.2.1 1294 = .ok (.aload_n 1, 1) := by decide +kernel
theorem d_L_1295 : decode J_L.2.1 1295 = .ok (.aload_n 0, 1) := by decide +kernel
theorem d_L_1296 : decode J_L.2.1 1296 = .ok (.iload_n 3, 1) := by decide +kernel
theorem d_L_1297 : decode J_L.2.1 1297 = .ok (.iconst 1, 1) := by decide +kernel
theorem d_L_1298 : decode J_L.2.1 1298 = .ok (.iadd, 1) := by decide +kernel
theorem d_L_1299 : decode J_L.2.1 1299 = .ok (.iaload, 1) := by decide +kernel
theorem d_L_1300 : decode J_L.2.1 1300 = .ok (.aload_n 0, 1) := by decide +kernel
theorem d_L_1301 : decode J_L.2.1 1301 = .ok (.iload_n 3, 1) := by decide +kernel
theorem d_L_1302 : decode J_L.2.1 1302 = .ok (.iconst 2, 1) := by decide +kernel
theorem d_L_1303 : decode J_L.2.1 1303 = .ok (.iadd, 1) := by decide +kernel
theorem d_L_1304 : decode J_L.2.1 1304 = .ok (.iaload, 1) := by decide +kernel
theorem d_L_1305 : decode J_L.2.1 1305 = .ok (.aload_n 0, 1) := by decide +kernel
theorem d_L_1306 : decode J_L.2.1 1306 = .ok (.iload_n 3, 1) := by decide +kernel
theorem d_L_1307 : decode J_L.2.1 1307 = .ok (.iconst 3, 1) := by decide +kernel
theorem d_L_1308 : decode J_L.2.1 1308 = .ok (.iadd, 1) := by decide +kernel
theorem d_L_1309 : decode J_L.2.1 1309 = .ok (.iaload, 1) := by decide +kernel
theorem d_L_1310 : decode J_L.2.1 1310 = .ok (.invokevirtual 138, 3) := by decide +kernel
theorem d_L_1313 : decode J_L.2.1 1313 = .ok (.aload_n 2, 1) := by decide +kernel
theorem d_L_1314 : decode J_L.2.1 1314 = .ok (.aload_n 0, 1) := by decide +kernel
theorem d_L_1315 : decode J_L.2.1 1315 = .ok (.iload_n 3, 1) := by decide +kernel
theorem d_L_1316 : decode J_L.2.1 1316 = .ok (.iconst 1, 1) := by decide +kernel
theorem d_L_1317 : decode J_L.2.1 1317 = .ok (.iadd, 1) := by decide +kernel
theorem d_L_1318 : decode J_L.2.1 1318 = .ok (.iaload, 1) := by decide +kernel
theorem d_L_1319 : decode J_L.2.1 1319 = .ok (.aload_n 0, 1) := by decide +kernel
theorem d_L_1320 : decode J_L.2.1 1320 = .ok (.iload_n 3, 1) := by decide +kernel
theorem d_L_1321 : decode J_L.2.1 1321 = .ok (.iconst 2, 1) := by decide +kernel
theorem d_L_1322 : decode J_L.2.1 1322 = .ok (.iadd, 1) := by decide +kernel
theorem d_L_1323 : decode J_L.2.1 1323 = .ok (.iaload, 1) := by decide +kernel
theorem d_L_1324 : decode J_L.2.1 1324 = .ok (.aload_n 0, 1) := by decide +kernel
theorem d_L_1325 : decode J_L.2.1 1325 = .ok (.iload_n 3, 1) := by decide +kernel
theorem d_L_1326 : decode J_L.2.1 1326 = .ok (.iconst 3, 1) := by decide +kernel
theorem d_L_1327 : decode J_L.2.1 1327 = .ok (.iadd, 1) := by decide +kernel
theorem d_L_1328 : decode J_L.2.1 1328 = .ok (.iaload, 1) := by decide +kernel
theorem d_L_1329 : decode J_L.2.1 1329 = .ok (.invokevirtual 141, 3) := by decide +kernel
theorem d_L_1332 : decode J_L.2.1 1332 = .ok (.if_icmp .eq 435, 3) := by decide +kernel
theorem d_L_1335 : decode J_L.2.1 1335 = .ok (.iconst 0, 1) := by decide +kernel
theorem d_L_1336 : decode J_L.2.1 1336 = .ok (.ireturn, 1) := by decide +kernel
theorem d_L_1337 : decode J_L.2.1 1337 = .ok (.aload_n 1, 1) := by decide +kernel
theorem d_L_1338 : decode J_L.2.1 1338 = .ok (.invokevirtual 142, 3) := by decide +kernel
theorem d_L_1341 : decode J_L.2.1 1341 = .ok (.aload_n 2, 1) := by decide +kernel
theorem d_L_1342 : decode J_L.2.1 1342 = .ok (.invokevirtual 145, 3) := by decide +kernel
theorem d_L_1345 : decode J_L.2.1 1345 = .ok (.if_icmp .eq 422, 3) := by decide +kernel
theorem d_L_1348 : decode J_L.2.1 1348 = .ok (.iconst 0, 1) := by decide +kernel
theorem d_L_1349 : decode J_L.2.1 1349 = .ok (.ireturn, 1) := by decide +kernel
theorem d_L_1350 : decode J_L.2.1 1350 = .ok (.aload_n 1, 1) := by decide +kernel
theorem d_L_1351 : decode J_L.2.1 1351 = .ok (.aload_n 0, 1) := by decide +kernel
theorem d_L_1352 : decode J_L.2.1 1352 = .ok (.iload_n 3, 1) := by decide +kernel
theorem d_L_1353 : decode J_L.2.1 1353 = .ok (.iconst 1, 1) := by decide +kernel
theorem d_L_1354 : decode J_L.2.1 1354 = .ok (.iadd, 1) := by decide +kernel
theorem d_L_1355 : decode J_L.2.1 1355 = .ok (.iaload, 1) := by decide +kernel
theorem d_L_1356 : decode J_L.2.1 1356 = .ok (.invokevirtual 146, 3) := by decide +kernel
theorem d_L_1359 : decode J_L.2.1 1359 = .ok (.aload_n 2, 1) := by decide +kernel
theorem d_L_1360 : decode J_L.2.1 1360 = .ok (.aload_n 0, 1) := by decide +kernel
theorem d_L_1361 : decode J_L.2.1 1361 = .ok (.iload_n 3, 1) := by decide +kernel
theorem d_L_1362 : decode J_L.2.1 1362 = .ok (.iconst 1, 1) := by decide +kernel
theorem d_L_1363 : decode J_L.2.1 1363 = .ok (.iadd, 1) := by decide +kernel
theorem d_L_1364 : decode J_L.2.1 1364 = .ok (.iaload, 1) := by decide +kernel
theorem d_L_1365 : decode J_L.2.1 1365 = .ok (.invokevirtual 149, 3) := by decide +kernel
theorem d_L_1368 : decode J_L.2.1 1368 = .ok (.if_icmp .eq 399, 3) := by decide +kernel
theorem d_L_1371 : decode J_L.2.1 1371 = .ok (.iconst 0, 1) := by decide +kernel
theorem d_L_1372 : decode J_L.2.1 1372 = .ok (.ireturn, 1) := by decide +kernel
theorem d_L_1373 : decode J_L.2.1 1373 = .ok (.aload_n 1, 1) := by decide +kernel
theorem d_L_1374 : decode J_L.2.1 1374 = .ok (.invokevirtual 150, 3) := by decide +kernel
theorem d_L_1377 : decode J_L.2.1 1377 = .ok (.aload_n 2, 1) := by decide +kernel
theorem d_L_1378 : decode J_L.2.1 1378 = .ok (.invokevirtual 153, 3) := by decide +kernel
theorem d_L_1381 : decode J_L.2.1 1381 = .ok (.if_icmp .eq 386, 3) := by decide +kernel
theorem d_L_1384 : decode J_L.2.1 1384 = .ok (.iconst 0, 1) := by decide +kernel
theorem d_L_1385 : decode J_L.2.1 1385 = .ok (.ireturn, 1) := by decide +kernel
theorem d_L_1386 : decode J_L.2.1 1386 = .ok (.aload_n 1, 1) := by decide +kernel
theorem d_L_1387 : decode J_L.2.1 1387 = .ok (.invokevirtual 154, 3) := by decide +kernel
theorem d_L_1390 : decode J_L.2.1 1390 = .ok (.aload_n 2, 1) := by decide +kernel
theorem d_L_1391 : decode J_L.2.1 1391 = .ok (.invokevirtual 157, 3) := by decide +kernel
theorem d_L_1394 : decode J_L.2.1 1394 = .ok (.if_icmp .eq 373, 3) := by decide +kernel
theorem d_L_1397 : decode J_L.2.1 1397 = .ok (.iconst 0, 1) := by decide +kernel
theorem d_L_1398 : decode J_L.2.1 1398 = .ok (.ireturn, 1) := by decide +kernel
theorem d_L_1399 : decode J_L.2.1 1399 = .ok (.aload_n 1, 1) := by decide +kernel
theorem d_L_1400 : decode J_L.2.1 1400 = .ok (.aload_n 0, 1) := by decide +kernel
theorem d_L_1401 : decode J_L.2.1 1401 = .ok (.iload_n 3, 1) := by decide +kernel
theorem d_L_1402 : decode J_L.2.1 1402 = .ok (.iconst 1, 1) := by decide +kernel
theorem d_L_1403 : decode J_L.2.1 1403 = .ok (.iadd, 1) := by decide +kernel
theorem d_L_1404 : decode J_L.2.1 1404 = .ok (.iaload, 1) := by decide +kernel
theorem d_L_1405 : decode J_L.2.1 1405 = .ok (.aload_n 0, 1) := by decide +kernel
theorem d_L_1406 : decode J_L.2.1 1406 = .ok (.iload_n 3, 1) := by decide +kernel
theorem d_L_1407 : decode J_L.2.1 1407 = .ok (.iconst 2, 1) := by decide +kernel
theorem d_L_1408 : decode J_L.2.1 1408 = .ok (.iadd, 1) := by decide +kernel
theorem d_L_1409 : decode J_L.2.1 1409 = .ok (.iaload, 1) := by decide +kernel
theorem d_L_1410 : decode J_L.2.1 1410 = .ok (.aload_n 0, 1) := by decide +kernel
theorem d_L_1411 : decode J_L.2.1 1411 = .ok (.iload_n 3, 1) := by decide +kernel
theorem d_L_1412 : decode J_L.2.1 1412 = .ok (.iconst 3, 1) := by decide +kernel
theorem d_L_1413 : decode J_L.2.1 1413 = .ok (.iadd, 1) := by decide +kernel
theorem d_L_1414 : decode J_L.2.1 1414 = .ok (.iaload, 1) := by decide +kernel
theorem d_L_1415 : decode J_L.2.1 1415 = .ok (.invokevirtual 158, 3) := by decide +kernel
theorem d_L_1418 : decode J_L.2.1 1418 = .ok (.aload_n 2, 1) := by decide +kernel
theorem d_L_1419 : decode J_L.2.1 1419 = .ok (.aload_n 0, 1) := by decide +kernel
theorem d_L_1420 : decode J_L.2.1 1420 = .ok (.iload_n 3, 1) := by decide +kernel
theorem d_L_1421 : decode J_L.2.1 1421 = .ok (.iconst 1, 1) := by decide +kernel
theorem d_L_1422 : decode J_L.2.1 1422 = .ok (.iadd, 1) := by decide +kernel
theorem d_L_1423 : decode J_L.2.1 1423 = .ok (.iaload, 1) := by decide +kernel
theorem d_L_1424 : decode J_L.2.1 1424 = .ok (.aload_n 0, 1) := by decide +kernel
theorem d_L_1425 : decode J_L.2.1 1425 = .ok (.iload_n 3, 1) := by decide +kernel
theorem d_L_1426 : decode J_L.2.1 1426 = .ok (.iconst 2, 1) := by decide +kernel
theorem d_L_1427 : decode J_L.2.1 1427 = .ok (.iadd, 1) := by decide +kernel
theorem d_L_1428 : decode J_L.2.1 1428 = .ok (.iaload, 1) := by decide +kernel
theorem d_L_1429 : decode J_L.2.1 1429 = .ok (.aload_n 0, 1) := by decide +kernel
theorem d_L_1430 : decode J_L.2.1 1430 = .ok (.iload_n 3, 1) := by decide +kernel
theorem d_L_1431 : decode J_L.2.1 1431 = .ok (.iconst 3, 1) := by decide +kernel
theorem d_L_1432 : decode J_L.2.1 1432 = .ok (.iadd, 1) := by decide +kernel
theorem d_L_1433 : decode J_L.2.1 1433 = .ok (.iaload, 1) := by decide +kernel
theorem d_L_1434 : decode J_L.2.1 1434 = .ok (.invokevirtual 161, 3) := by decide +kernel
theorem d_L_1437 : decode J_L.2.1 1437 = .ok (.if_icmp .eq 330, 3) := by decide +kernel
theorem d_L_1440 : decode J_L.2.1 1440 = .ok (.iconst 0, 1) := by decide +kernel
theorem d_L_1441 : decode J_L.2.1 1441 = .ok (.ireturn, 1) := by decide +kernel
theorem d_L_1442 : decode J_L.2.1 1442 = .ok (.aload_n 1, 1) := by decide +kernel
theorem d_L_1443 : decode J_L.2.1 1443 = .ok (.aload_n 0, 1) := by decide +kernel
theorem d_L_1444 : decode J_L.2.1 1444 = .ok (.iload_n 3, 1) := by decide +kernel
theorem d_L_1445 : decode J_L.2.1 1445 = .ok (.iconst 1, 1) := by decide +kernel
theorem d_L_1446 : decode J_L.2.1 1446 = .ok (.iadd, 1) := by decide +kernel
theorem d_L_1447 : decode J_L.2.1 1447 = .ok (.iaload, 1) := by decide +kernel
theorem d_L_1448 : decode J_L.2.1 1448 = .ok (.invokevirtual 162, 3) := by decide +kernel
theorem d_L_1451 : decode J_L.2.1 1451 = .ok (.aload_n 2, 1) := by decide +kernel
theorem d_L_1452 : decode J_L.2.1 1452 = .ok (.aload_n 0, 1) := by decide +kernel
theorem d_L_1453 : decode J_L.2.1 1453 = .ok (.iload_n 3, 1) := by decide +kernel
theorem d_L_1454 : decode J_L.2.1 1454 = .ok (.iconst 1, 1) := by decide +kernel
theorem d_L_1455 : decode J_L.2.1 1455 = .ok (.iadd, 1) := by decide +kernel
theorem d_L_1456 : decode J_L.2.1 1456 = .ok (.iaload, 1) := by decide +kernel
theorem d_L_1457 : decode J_L.2.1 1457 = .ok (.invokevirtual 165, 3) := by decide +kernel
theorem d_L_1460 : decode J_L.2.1 1460 = .ok (.if_icmp .eq 307, 3) := by decide +kernel
theorem d_L_1463 : decode J_L.2.1 1463 = .ok (.iconst 0, 1) := by decide +kernel
theorem d_L_1464 : decode J_L.2.1 1464 = .ok (.ireturn, 1) := by decide +kernel
theorem d_L_1465 : decode J_L.2.1 1465 = .ok (.aload_n 1, 1) := by decide +kernel
theorem d_L_1466 : decode J_L.2.1 1466 = .ok (.aload_n 0, 1) := by decide +kernel
theorem d_L_1467 : decode J_L.2.1 1467 = .ok (.iload_n 3, 1) := by decide +kernel
theorem d_L_1468 : decode J_L.2.1 1468 = .ok (.iconst 1, 1) := by decide +kernel
theorem d_L_1469 : decode J_L.2.1 1469 = .ok (.iadd, 1) := by decide +kernel
theorem d_L_1470 : decode J_L.2.1 1470 = .ok (.iaload, 1) := by decide +kernel
theorem d_L_1471 : decode J_L.2.1 1471 = .ok (.aload_n 0, 1) := by decide +kernel
theorem d_L_1472 : decode J_L.2.1 1472 = .ok (.iload_n 3, 1) := by decide +kernel
theorem d_L_1473 : decode J_L.2.1 1473 = .ok (.iconst 2, 1) := by decide +kernel
theorem d_L_1474 : decode J_L.2.1 1474 = .ok (.iadd, 1) := by decide +kernel
theorem d_L_1475 : decode J_L.2.1 1475 = .ok (.iaload, 1) := by decide +kernel
theorem d_L_1476 : decode J_L.2.1 1476 = .ok (.invokevirtual 166, 3) := by decide +kernel
theorem d_L_1479 : decode J_L.2.1 1479 = .ok (.aload_n 2, 1) := by decide +kernel
theorem d_L_1480 : decode J_L.2.1 1480 = .ok (.aload_n 0, 1) := by decide +kernel
theorem d_L_1481 : decode J_L.2.1 1481 = .ok (.iload_n 3, 1) := by decide +kernel
theorem d_L_1482 : decode J_L.2.1 1482 = .ok (.iconst 1, 1) := by decide +kernel
theorem d_L_1483 : decode J_L.2.1 1483 = .ok (.iadd, 1) := by decide +kernel
theorem d_L_1484 : decode J_L.2.1 1484 = .ok (.iaload, 1) := by decide +kernel
theorem d_L_1485 : decode J_L.2.1 1485 = .ok (.aload_n 0, 1) := by decide +kernel
theorem d_L_1486 : decode J_L.2.1 1486 = .ok (.iload_n 3, 1) := by decide +kernel
theorem d_L_1487 : decode J_L.2.1 1487 = .ok (.iconst 2, 1) := by decide +kernel
theorem d_L_1488 : decode J_L.2.1 1488 = .ok (.iadd, 1) := by decide +kernel
theorem d_L_1489 : decode J_L.2.1 1489 = .ok (.iaload, 1) := by decide +kernel
theorem d_L_1490 : decode J_L.2.1 1490 = .ok (.invokevirtual 169, 3) := by decide +kernel
theorem d_L_1493 : decode J_L.2.1 1493 = .ok (.if_icmp .eq 274, 3) := by decide +kernel
theorem d_L_1496 : decode J_L.2.1 1496 = .ok (.iconst 0, 1) := by decide +kernel
theorem d_L_1497 : decode J_L.2.1 1497 = .ok (.ireturn, 1) := by decide +kernel
theorem d_L_1498 : decode J_L.2.1 1498 = .ok (.aload_n 1, 1) := by decide +kernel
theorem d_L_1499 : decode J_L.2.1 1499 = .ok (.aload_n 0, 1) := by decide +kernel
theorem d_L_1500 : decode J_L.2.1 1500 = .ok (.iload_n 3, 1) := by decide +kernel
theorem d_L_1501 : decode J_L.2.1 1501 = .ok (.iconst 1, 1) := by decide +kernel
theorem d_L_1502 : decode J_L.2.1 1502 = .ok (.iadd, 1) := by decide +kernel
theorem d_L_1503 : decode J_L.2.1 1503 = .ok (.iaload, 1) := by decide +kernel
theorem d_L_1504 : decode J_L.2.1 1504 = .ok (.aload_n 0, 1) := by decide +kernel
theorem d_L_1505 : decode J_L.2.1 1505 = .ok (.iload_n 3, 1) := by decide +kernel
theorem d_L_1506 : decode J_L.2.1 1506 = .ok (.iconst 2, 1) := by decide +kernel
theorem d_L_1507 : decode J_L.2.1 1507 = .ok (.iadd, 1) := by decide +kernel
theorem d_L_1508 : decode J_L.2.1 1508 = .ok (.iaload, 1) := by decide +kernel
theorem d_L_1509 : decode J_L.2.1 1509 = .ok (.aload_n 0, 1) := by decide +kernel
theorem d_L_1510 : decode J_L.2.1 1510 = .ok (.iload_n 3, 1) := by decide +kernel
theorem d_L_1511 : decode J_L.2.1 1511 = .ok (.iconst 3, 1) := by decide +kernel
theorem d_L_1512 : decode J_L.2.1 1512 = .ok (.iadd, 1) := by decide +kernel
theorem d_L_1513 : decode J_L.2.1 1513 = .ok (.iaload, 1) := by decide +kernel
theorem d_L_1514 : decode J_L.2.1 1514 = .ok (.invokevirtual 170, 3) := by decide +kernel
theorem d_L_1517 : decode J_L.2.1 1517 = .ok (.aload_n 2, 1) := by decide +kernel
theorem d_L_1518 : decode J_L.2.1 1518 = .ok (.aload_n 0, 1) := by decide +kernel
theorem d_L_1519 : decode J_L.2.1 1519 = .ok (.iload_n 3, 1) := by decide +kernel
theorem d_L_1520 : decode J_L.2.1 1520 = .ok (.iconst 1, 1) := by decide +kernel
theorem d_L_1521 : decode J_L.2.1 1521 = .ok (.iadd, 1) := by decide +kernel
theorem d_L_1522 : decode J_L.2.1 1522 = .ok (.iaload, 1) := by decide +kernel
theorem d_L_1523 : decode J_L.2.1 1523 = .ok (.aload_n 0, 1) := by decide +kernel
theorem d_L_1524 : decode J_L.2.1 1524 = .ok (.iload_n 3, 1) := by decide +kernel
theorem d_L_1525 : decode J_L.2.1 1525 = .ok (.iconst 2, 1) := by decide +kernel
theorem d_L_1526 : decode J_L.2.1 1526 = .ok (.iadd, 1) := by decide +kernel
theorem d_L_1527 : decode J_L.2.1 1527 = .ok (.iaload, 1) := by decide +kernel
theorem d_L_1528 : decode J_L.2.1 1528 = .ok (.aload_n 0, 1) := by decide +kernel
theorem d_L_1529 : decode J_L.2.1 1529 = .ok (.iload_n 3, 1) := by decide +kernel
theorem d_L_1530 : decode J_L.2.1 1530 = .ok (.iconst 3, 1) := by decide +kernel
theorem d_L_1531 : decode J_L.2.1 1531 = .ok (.iadd, 1) := by decide +kernel
theorem d_L_1532 : decode J_L.2.1 1532 = .ok (.iaload, 1) := by decide +kernel
theorem d_L_1533 : decode J_L.2.1 1533 = .ok (.invokevirtual 173, 3) := by decide +kernel
theorem d_L_1536 : decode J_L.2.1 1536 = .ok (.if_icmp .eq 231, 3) := by decide +kernel
theorem d_L_1539 : decode J_L.2.1 1539 = .ok (.iconst 0, 1) := by decide +kernel
theorem d_L_1540 : decode J_L.2.1 1540 = .ok (.ireturn, 1) := by decide +kernel
theorem d_L_1541 : decode J_L.2.1 1541 = .ok (.aload_n 1, 1) := by decide +kernel
theorem d_L_1542 : decode J_L.2.1 1542 = .ok (.aload_n 0, 1) := by decide +kernel
theorem d_L_1543 : decode J_L.2.1 1543 = .ok (.iload_n 3, 1) := by decide +kernel
theorem d_L_1544 : decode J_L.2.1 1544 = .ok (.iconst 1, 1) := by decide +kernel
theorem d_L_1545 : decode J_L.2.1 1545 = .ok (.iadd, 1) := by decide +kernel
theorem d_L_1546 : decode J_L.2.1 1546 = .ok (.iaload, 1) := by decide +kernel
theorem d_L_1547 : decode J_L.2.1 1547 = .ok (.aload_n 0, 1) := by decide +kernel
theorem d_L_1548 : decode J_L.2.1 1548 = .ok (.iload_n 3, 1) := by decide +kernel
theorem d_L_1549 : decode J_L.2.1 1549 = .ok (.iconst 2, 1) := by decide +kernel
theorem d_L_1550 : decode J_L.2.1 1550 = .ok (.iadd, 1) := by decide +kernel
theorem d_L_1551 : decode J_L.2.1 1551 = .ok (.iaload, 1) := by decide +kernel
theorem d_L_1552 : decode J_L.2.1 1552 = .ok (.aload_n 0, 1) := by decide +kernel
theorem d_L_1553 : decode J_L.2.1 1553 = .ok (.iload_n 3, 1) := by decide +kernel
theorem d_L_1554 : decode J_L.2.1 1554 = .ok (.iconst 3, 1) := by decide +kernel
theorem d_L_1555 : decode J_L.2.1 1555 = .ok (.iadd, 1) := by decide +kernel
theorem d_L_1556 : decode J_L.2.1 1556 = .ok (.iaload, 1) := by decide +kernel
theorem d_L_1557 : decode J_L.2.1 1557 = .ok (.i2l, 1) := by decide +kernel
theorem d_L_1558 : decode J_L.2.1 1558 = .ok (.bipush 32, 2) := by decide +kernel
theorem d_L_1560 : decode J_L.2.1 1560 = .ok (.lshl, 1) := by decide +kernel
theorem d_L_1561 : decode J_L.2.1 1561 = .ok (.aload_n 0, 1) := by decide +kernel
theorem d_L_1562 : decode J_L.2.1 1562 = .ok (.iload_n 3, 1) := by decide +kernel
theorem d_L_1563 : decode J_L.2.1 1563 = .ok (.iconst 4, 1) := by decide +kernel
theorem d_L_1564 : decode J_L.2.1 1564 = .ok (.iadd, 1) := by decide +kernel
theorem d_L_1565 : decode J_L.2.1 1565 = .ok (.iaload, 1) := by decide +kernel
theorem d_L_1566 : decode J_L.2.1 1566 = .ok (.i2l, 1) := by decide +kernel
theorem d_L_1567 : decode J_L.2.1 1567 = .ok (.ldc2_w 174, 3) := by decide +kernel
theorem d_L_1570 : decode J_L.2.1 1570 = .ok (.land, 1) := by decide +kernel
theorem d_L_1571 : decode J_L.2.1 1571 = .ok (.lor, 1) := by decide +kernel
theorem d_L_1572 : decode J_L.2.1 1572 = .ok (.invokevirtual 176, 3) := by decide +kernel
theorem d_L_1575 : decode J_L.2.1 1575 = .ok (.aload_n 2, 1) := by decide +kernel
theorem d_L_1576 : decode J_L.2.1 1576 = .ok (.aload_n 0, 1) := by decide +kernel
theorem d_L_1577 : decode J_L.2.1 1577 = .ok (.iload_n 3, 1) := by decide +kernel
theorem d_L_1578 : decode J_L.2.1 1578 = .ok (.iconst 1, 1) := by decide +kernel
theorem d_L_1579 : decode J_L.2.1 1579 = .ok (.iadd, 1) := by decide +kernel
theorem d_L_1580 : decode J_L.2.1 1580 = .ok (.iaload, 1) := by decide +kernel
theorem d_L_1581 : decode J_L.2.1 1581 = .ok (.aload_n 0, 1) := by decide +kernel
theorem d_L_1582 : decode J_L.2.1 1582 = .ok (.iload_n 3, 1) := by decide +kernel
theorem d_L_1583 : decode J_L.2.1 1583 = .ok (.iconst 2, 1) := by decide +kernel
theorem d_L_1584 : decode J_L.2.1 1584 = .ok (.iadd, 1) := by decide +kernel
theorem d_L_1585 : decode J_L.2.1 1585 = .ok (.iaload, 1) := by decide +kernel
theorem d_L_1586 : decode J_L.2.1 1586 = .ok (.aload_n 0, 1) := by decide +kernel
theorem d_L_1587 : decode J_L.2.1 1587 = .ok (.iload_n 3, 1) := by decide +kernel
theorem d_L_1588 : decode J_L.2.1 1588 = .ok (.iconst 3, 1) := by decide +kernel
theorem d_L_1589 : decode J_L.2.1 1589 = .ok (.iadd, 1) := by decide +kernel
theorem d_L_1590 : decode J_L.2.1 1590 = .ok (.iaload, 1) := by decide +kernel
theorem d_L_1591 : decode J_L.2.1 1591 = .ok (.i2l, 1) := by decide +kernel
theorem d_L_1592 : decode J_L.2.1 1592 = .ok (.bipush 32, 2) := by decide +kernel
theorem d_L_1594 : decode J_L.2.1 1594 = .ok (.lshl, 1) := by decide +kernel
theorem d_L_1595 : decode J_L.2.1 1595 = .ok (.aload_n 0, 1) := by decide +kernel
theorem d_L_1596 : decode J_L.2.1 1596 = .ok (.iload_n 3, 1) := by decide +kernel
theorem d_L_1597 : decode J_L.2.1 1597 = .ok (.iconst 4, 1) := by decide +kernel
theorem d_L_1598 : decode J_L.2.1 1598 = .ok (.iadd, 1) := by decide +kernel
theorem d_L_1599 : decode J_L.2.1 1599 = .ok (.iaload, 1) := by decide +kernel
theorem d_L_1600 : decode J_L.2.1 1600 = .ok (.i2l, 1) := by decide +kernel
theorem d_L_1601 : decode J_L.2.1 1601 = .ok (.ldc2_w 174, 3) := by decide +kernel
theorem d_L_1604 : decode J_L.2.1 1604 = .ok (.land, 1) := by decide +kernel
theorem d_L_1605 : decode J_L.2.1 1605 = .ok (.lor, 1) := by decide +kernel
theorem d_L_1606 : decode J_L.2.1 1606 = .ok (.invokevirtual 180, 3) := by decide +kernel
theorem d_L_1609 : decode J_L.2.1 1609 = .ok (.if_icmp .eq 158, 3) := by decide +kernel
theorem d_L_1612 : decode J_L.2.1 1612 = .ok (.iconst 0, 1) := by decide +kernel
theorem d_L_1613 : decode J_L.2.1 1613 = .ok (.ireturn, 1) := by decide +kernel
theorem d_L_1614 : decode J_L.2.1 1614 = .ok (.aload_n 1, 1) := by decide +kernel
theorem d_L_1615 : decode J_L.2.1 1615 = .ok (.aload_n 0, 1) := by decide +kernel
theorem d_L_1616 : decode J_L.2.1 1616 = .ok (.iload_n 3, 1) := by decide +kernel
theorem d_L_1617 : decode J_L.2.1 1617 = .ok (.iconst 1, 1) := by decide +kernel
theorem d_L_1618 : decode J_L.2.1 1618 = .ok (.iadd, 1) := by decide +kernel
theorem d_L_1619 : decode J_L.2.1 1619 = .ok (.iaload, 1) := by decide +kernel
theorem d_L_1620 : decode J_L.2.1 1620 = .ok (.aload_n 0, 1) := by decide +kernel
theorem d_L_1621 : decode J_L.2.1 1621 = .ok (.iload_n 3, 1) := by decide +kernel
theorem d_L_1622 : decode J_L.2.1 1622 = .ok (.iconst 2, 1) := by decide +kernel
theorem d_L_1623 : decode J_L.2.1 1623 = .ok (.iadd, 1) := by decide +kernel
theorem d_L_1624 : decode J_L.2.1 1624 = .ok (.iaload, 1) := by decide +kernel
theorem d_L_1625 : decode J_L.2.1 1625 = .ok (.invokevirtual 181, 3) := by decide +kernel
theorem d_L_1628 : decode J_L.2.1 1628 = .ok (.aload_n 2, 1) := by decide +kernel
theorem d_L_1629 : decode J_L.2.1 1629 = .ok (.aload_n 0, 1) := by decide +kernel
theorem d_L_1630 : decode J_L.2.1 1630 = .ok (.iload_n 3, 1) := by decide +kernel
theorem d_L_1631 : decode J_L.2.1 1631 = .ok (.iconst 1, 1) := by decide +kernel
theorem d_L_1632 : decode J_L.2.1 1632 = .ok (.iadd, 1) := by decide +kernel
theorem d_L_1633 : decode J_L.2.1 1633 = .ok (.iaload, 1) := by decide +kernel
theorem d_L_1634 : decode J_L.2.1 1634 = .ok (.aload_n 0, 1) := by decide +kernel
theorem d_L_1635 : decode J_L.2.1 1635 = .ok (.iload_n 3, 1) := by decide +kernel
theorem d_L_1636 : decode J_L.2.1 1636 = .ok (.iconst 2, 1) := by decide +kernel
theorem d_L_1637 : decode J_L.2.1 1637 = .ok (.iadd, 1) := by decide +kernel
theorem d_L_1638 : decode J_L.2.1 1638 = .ok (.iaload, 1) := by decide +kernel
theorem d_L_1639 : decode J_L.2.1 1639 = .ok (.invokevirtual 185, 3) := by decide +kernel
theorem d_L_1642 : decode J_L.2.1 1642 = .ok (.lcmp, 1) := by decide +kernel
theorem d_L_1643 : decode J_L.2.1 1643 = .ok (.ifCond .eq 124, 3) := by decide +kernel
theorem d_L_1646 : decode J_L.2.1 1646 = .ok (.iconst 0, 1) := by decide +kernel
theorem d_L_1647 : decode J_L.2.1 1647 = .ok (.ireturn, 1) := by decide +kernel
theorem d_L_1648 : decode J_L.2.1 1648 = .ok (.aload_n 1, 1) := by decide +kernel
theorem d_L_1649 : decode J_L.2.1 1649 = .ok (.aload_n 0, 1) := by decide +kernel
theorem d_L_1650 : decode J_L.2.1 1650 = .ok (.iload_n 3, 1) := by decide +kernel
theorem d_L_1651 : decode J_L.2.1 1651 = .ok (.iconst 1, 1) := by decide +kernel
theorem d_L_1652 : decode J_L.2.1 1652 = .ok (.iadd, 1) := by decide +kernel
theorem d_L_1653 : decode J_L.2.1 1653 = .ok (.iaload, 1) := by decide +kernel
theorem d_L_1654 : decode J_L.2.1 1654 = .ok (.aload_n 0, 1) := by decide +kernel
theorem d_L_1655 : decode J_L.2.1 1655 = .ok (.iload_n 3, 1) := by decide +kernel
theorem d_L_1656 : decode J_L.2.1 1656 = .ok (.iconst 2, 1) := by decide +kernel
theorem d_L_1657 : decode J_L.2.1 1657 = .ok (.iadd, 1) := by decide +kernel
theorem d_L_1658 : decode J_L.2.1 1658 = .ok (.iaload, 1) := by decide +kernel
theorem d_L_1659 : decode J_L.2.1 1659 = .ok (.aload_n 0, 1) := by decide +kernel
theorem d_L_1660 : decode J_L.2.1 1660 = .ok (.iload_n 3, 1) := by decide +kernel
theorem d_L_1661 : decode J_L.2.1 1661 = .ok (.iconst 3, 1) := by decide +kernel
theorem d_L_1662 : decode J_L.2.1 1662 = .ok (.iadd, 1) := by decide +kernel
theorem d_L_1663 : decode J_L.2.1 1663 = .ok (.iaload, 1) := by decide +kernel
theorem d_L_1664 : decode J_L.2.1 1664 = .ok (.aload_n 0, 1) := by decide +kernel
theorem d_L_1665 : decode J_L.2.1 1665 = .ok (.iload_n 3, 1) := by decide +kernel
theorem d_L_1666 : decode J_L.2.1 1666 = .ok (.iconst 4, 1) := by decide +kernel
theorem d_L_1667 : decode J_L.2.1 1667 = .ok (.iadd, 1) := by decide +kernel
theorem d_L_1668 : decode J_L.2.1 1668 = .ok (.iaload, 1) := by decide +kernel
theorem d_L_1669 : decode J_L.2.1 1669 = .ok (.aload_n 0, 1) := by decide +kernel
theorem d_L_1670 : decode J_L.2.1 1670 = .ok (.iload_n 3, 1) := by decide +kernel
theorem d_L_1671 : decode J_L.2.1 1671 = .ok (.iconst 5, 1) := by decide +kernel
theorem d_L_1672 : decode J_L.2.1 1672 = .ok (.iadd, 1) := by decide +kernel
theorem d_L_1673 : decode J_L.2.1 1673 = .ok (.iaload, 1) := by decide +kernel
theorem d_L_1674 : decode J_L.2.1 1674 = .ok (.invokevirtual 186, 3) := by decide +kernel
theorem d_L_1677 : decode J_L.2.1 1677 = .ok (.aload_n 2, 1) := by decide +kernel
theorem d_L_1678 : decode J_L.2.1 1678 = .ok (.aload_n 0, 1) := by decide +kernel
theorem d_L_1679 : decode J_L.2.1 1679 = .ok (.iload_n 3, 1) := by decide +kernel
theorem d_L_1680 : decode J_L.2.1 1680 = .ok (.iconst 1, 1) := by decide +kernel
theorem d_L_1681 : decode J_L.2.1 1681 = .ok (.iadd, 1) := by decide +kernel
theorem d_L_1682 : decode J_L.2.1 1682 = .ok (.iaload, 1) := by decide +kernel
theorem d_L_1683 : decode J_L.2.1 1683 = .ok (.aload_n 0, 1) := by decide +kernel
theorem d_L_1684 : decode J_L.2.1 1684 = .ok (.iload_n 3, 1) := by decide +kernel
theorem d_L_1685 : decode J_L.2.1 1685 = .ok (.iconst 2, 1) := by decide +kernel
theorem d_L_1686 : decode J_L.2.1 1686 = .ok (.iadd, 1) := by decide +kernel
theorem d_L_1687 : decode J_L.2.1 1687 = .ok (.iaload, 1) := by decide +kernel
theorem d_L_1688 : decode J_L.2.1 1688 = .ok (.aload_n 0, 1) := by decide +kernel
theorem d_L_1689 : decode J_L.2.1 1689 = .ok (.iload_n 3, 1) := by decide +kernel
theorem d_L_1690 : decode J_L.2.1 1690 = .ok (.iconst 3, 1) := by decide +kernel
theorem d_L_1691 : decode J_L.2.1 1691 = .ok (.iadd, 1) := by decide +kernel
theorem d_L_1692 : decode J_L.2.1 1692 = .ok (.iaload, 1) := by decide +kernel
theorem d_L_1693 : decode J_L.2.1 1693 = .ok (.aload_n 0, 1) := by decide +kernel
theorem d_L_1694 : decode J_L.2.1 1694 = .ok (.iload_n 3, 1) := by decide +kernel
theorem d_L_1695 : decode J_L.2.1 1695 = .ok (.iconst 4, 1) := by decide +kernel
theorem d_L_1696 : decode J_L.2.1 1696 = .ok (.iadd, 1) := by decide +kernel
theorem d_L_1697 : decode J_L.2.1 1697 = .ok (.iaload, 1) := by decide +kernel
theorem d_L_1698 : decode J_L.2.1 1698 = .ok (.aload_n 0, 1) := by decide +kernel
theorem d_L_1699 : decode J_L.2.1 1699 = .ok (.iload_n 3, 1) := by decide +kernel
theorem d_L_1700 : decode J_L.2.1 1700 = .ok (.iconst 5, 1) := by decide +kernel
theorem d_L_1701 : decode J_L.2.1 1701 = .ok (.iadd, 1) := by decide +kernel
theorem d_L_1702 : decode J_L.2.1 1702 = .ok (.iaload, 1) := by decide +kernel
theorem d_L_1703 : decode J_L.2.1 1703 = .ok (.invokevirtual 190, 3) := by decide +kernel
theorem d_L_1706 : decode J_L.2.1 1706 = .ok (.if_icmp .eq 61, 3) := by decide +kernel
theorem d_L_1709 : decode J_L.2.1 1709 = .ok (.iconst 0, 1) := by decide +kernel
theorem d_L_1710 : decode J_L.2.1 1710 = .ok (.ireturn, 1) := by decide +kernel
theorem d_L_1711 : decode J_L.2.1 1711 = .ok (.aload_n 1, 1) := by decide +kernel
theorem d_L_1712 : decode J_L.2.1 1712 = .ok (.aload_n 0, 1) := by decide +kernel
theorem d_L_1713 : decode J_L.2.1 1713 = .ok (.iload_n 3, 1) := by decide +kernel
theorem d_L_1714 : decode J_L.2.1 1714 = .ok (.iconst 1, 1) := by decide +kernel
theorem d_L_1715 : decode J_L.2.1 1715 = .ok (.iadd, 1) := by decide +kernel
theorem d_L_1716 : decode J_L.2.1 1716 = .ok (.iaload, 1) := by decide +kernel
theorem d_L_1717 : decode J_L.2.1 1717 = .ok (.aload_n 0, 1) := by decide +kernel
theorem d_L_1718 : decode J_L.2.1 1718 = .ok (.iload_n 3, 1) := by decide +kernel
theorem d_L_1719 : decode J_L.2.1 1719 = .ok (.iconst 2, 1) := by decide +kernel
theorem d_L_1720 : decode J_L.2.1 1720 = .ok (.iadd, 1) := by decide +kernel
theorem d_L_1721 : decode J_L.2.1 1721 = .ok (.iaload, 1) := by decide +kernel
theorem d_L_1722 : decode J_L.2.1 1722 = .ok (.invokevirtual 191, 3) := by decide +kernel
theorem d_L_1725 : decode J_L.2.1 1725 = .ok (.aload_n 2, 1) := by decide +kernel
theorem d_L_1726 : decode J_L.2.1 1726 = .ok (.aload_n 0, 1) := by decide +kernel
theorem d_L_1727 : decode J_L.2.1 1727 = .ok (.iload_n 3, 1) := by decide +kernel
theorem d_L_1728 : decode J_L.2.1 1728 = .ok (.iconst 1, 1) := by decide +kernel
theorem d_L_1729 : decode J_L.2.1 1729 = .ok (.iadd, 1) := by decide +kernel
theorem d_L_1730 : decode J_L.2.1 1730 = .ok (.iaload, 1) := by decide +kernel
theorem d_L_1731 : decode J_L.2.1 1731 = .ok (.aload_n 0, 1) := by decide +kernel
theorem d_L_1732 : decode J_L.2.1 1732 = .ok (.iload_n 3, 1) := by decide +kernel
theorem d_L_1733 : decode J_L.2.1 1733 = .ok (.iconst 2, 1) := by decide +kernel
theorem d_L_1734 : decode J_L.2.1 1734 = .ok (.iadd, 1) := by decide +kernel
theorem d_L_1735 : decode J_L.2.1 1735 = .ok (.iaload, 1) := by decide +kernel
theorem d_L_1736 : decode J_L.2.1 1736 = .ok (.invokevirtual 194, 3) := by decide +kernel
theorem d_L_1739 : decode J_L.2.1 1739 = .ok (.if_icmp .eq 28, 3) := by decide +kernel
theorem d_L_1742 : decode J_L.2.1 1742 = .ok (.iconst 0, 1) := by decide +kernel
theorem d_L_1743 : decode J_L.2.1 1743 = .ok (.ireturn, 1) := by decide +kernel
theorem d_L_1744 : decode J_L.2.1 1744 = .ok (.aload_n 1, 1) := by decide +kernel
theorem d_L_1745 : decode J_L.2.1 1745 = .ok (.aload_n 0, 1) := by decide +kernel
theorem d_L_1746 : decode J_L.2.1 1746 = .ok (.iload_n 3, 1) := by decide +kernel
theorem d_L_1747 : decode J_L.2.1 1747 = .ok (.iconst 1, 1) := by decide +kernel
theorem d_L_1748 : decode J_L.2.1 1748 = .ok (.iadd, 1) := by decide +kernel
theorem d_L_1749 : decode J_L.2.1 1749 = .ok (.iaload, 1) := by decide +kernel
theorem d_L_1750 : decode J_L.2.1 1750 = .ok (.invokevirtual 195, 3) := by decide +kernel
theorem d_L_1753 : decode J_L.2.1 1753 = .ok (.aload_n 2, 1) := by decide +kernel
theorem d_L_1754 : decode J_L.2.1 1754 = .ok (.aload_n 0, 1) := by decide +kernel
theorem d_L_1755 : decode J_L.2.1 1755 = .ok (.iload_n 3, 1) := by decide +kernel
theorem d_L_1756 : decode J_L.2.1 1756 = .ok (.iconst 1, 1) := by decide +kernel
theorem d_L_1757 : decode J_L.2.1 1757 = .ok (.iadd, 1) := by decide +kernel
theorem d_L_1758 : decode J_L.2.1 1758 = .ok (.iaload, 1) := by decide +kernel
theorem d_L_1759 : decode J_L.2.1 1759 = .ok (.invokevirtual 198, 3) := by decide +kernel
theorem d_L_1762 : decode J_L.2.1 1762 = .ok (.if_icmp .eq 5, 3) := by decide +kernel
theorem d_L_1765 : decode J_L.2.1 1765 = .ok (.iconst 0, 1) := by decide +kernel
theorem d_L_1766 : decode J_L.2.1 1766 = .ok (.ireturn, 1) := by decide +kernel
theorem d_L_1767 : decode J_L.2.1 1767 = .ok (.iinc 3 6, 3) := by decide +kernel
theorem d_L_1770 : decode J_L.2.1 1770 = .ok (.goto (-1752), 3) := by decide +kernel
theorem d_L_1773 : decode J_L.2.1 1773 = .ok (.iconst 1, 1) := by decide +kernel
theorem d_L_1774 : decode J_L.2.1 1774 = .ok (.ireturn, 1) := by decide +kernel
theorem lc_0 {X : oX} {d d1 d2 : Nat} {i : Int32} {r : Int32} {K K1 K2 K' : oK} {M M1 M2 M' : oM} (g1 : vp_in (i + 1) X.1) (hm1 : oMet X d1 J_X11_point [.ref 0, .int (X.2 (i + 1).toNatClampNeg)] K M (some (.int r)) K1 M1) (hm2 : oMet X d2 J_X12_point [.ref 59, .int (X.2 (i + 1).toNatClampNeg)] K1 M1 (some (.int r)) K2 M2) (hd1 : d1 < d) (hd2 : d2 < d) (hb1 : 0 < K.1) (hs1 : (K.2.2.1 0).1 = 11 + 6) (hb2 : 59 < K1.1) (hs2 : (K1.2.2.1 59).1 = 12 + 6) (hk1 : K.1 ≤ K1.1 ∧ K.2.1 ≤ K1.2.1) (hk2 : K1.1 ≤ K2.1 ∧ K1.2.1 ≤ K2.2.1) (hk3 : K2.1 ≤ K'.1 ∧ K2.2.1 ≤ K'.2.1)
    (kk : oEv X d J_L 18 [some (.ref 1000000), some (.ref 0), some (.ref 59), some (.int (i + 6))] [] K2 M2 (some (.int 1)) K' M') : oEv X d J_L 224 [some (.ref 1000000), some (.ref 0), some (.ref 59), some (.int i)] [] K M (some (.int 1)) K' M' := by
  refine oe_aload_n (pc := 224) d_L_224 rfl ?_
  refine oe_aload_n (pc := 225) d_L_225 rfl ?_
  refine oe_iload_n (pc := 226) d_L_226 rfl ?_
  refine oe_iconst (pc := 227) (v := 1) d_L_227 rfl ?_
  refine oe_iadd (pc := 228) d_L_228 ?_
  refine oe_sld (pc := 229) d_L_229 g1 ?_
  refine oe_callV (pc := 230) (ci := 11) d_L_230 hm1 hd1 ml_L_13 jJ_X11_point rfl rfl hb1 hs1 ock11 rfl (Nat.le_of_ble_eq_true rfl) ⟨hk1.1, Nat.le_trans hk2.1 hk3.1⟩ ⟨hk1.2, Nat.le_trans hk2.2 hk3.2⟩ ?_
  refine oe_aload_n (pc := 233) d_L_233 rfl ?_
  refine oe_aload_n (pc := 234) d_L_234 rfl ?_
  refine oe_iload_n (pc := 235) d_L_235 rfl ?_
  refine oe_iconst (pc := 236) (v := 1) d_L_236 rfl ?_
  refine oe_iadd (pc := 237) d_L_237 ?_
  refine oe_sld (pc := 238) d_L_238 g1 ?_
  refine oe_callV (pc := 239) (ci := 12) d_L_239 hm2 hd2 ml_L_17 jJ_X12_point rfl rfl hb2 hs2 ock12 rfl (Nat.le_of_ble_eq_true rfl) ⟨hk2.1, hk3.1⟩ ⟨hk2.2, hk3.2⟩ ?_
  refine oe_icmp_eq (pc := 242) (tgt := 1767) d_L_242 (by decide) (fun _ => ?_) (fun c => absurd rfl c)
  refine oe_iinc (pc := 1767) (v := i + 6) (L2 := [_, _, _, _]) d_L_1767 rfl rfl rfl (Nat.le_of_ble_eq_true rfl) rfl ?_
  exact oe_goto (pc := 1770) (tgt := 18) d_L_1770 (by decide) kk
theorem lc_1 {X : oX} {d d1 d2 : Nat} {i : Int32} {r : Int32} {K K1 K2 K' : oK} {M M1 M2 M' : oM} (g1 : vp_in (i + 1) X.1) (g2 : vp_in (i + 2) X.1) (hm1 : oMet X d1 J_X11_height [.ref 0, .int (X.2 (i + 1).toNatClampNeg), .int (X.2 (i + 2).toNatClampNeg)] K M (some (.int r)) K1 M1) (hm2 : oMet X d2 J_X12_height [.ref 59, .int (X.2 (i + 1).toNatClampNeg), .int (X.2 (i + 2).toNatClampNeg)] K1 M1 (some (.int r)) K2 M2) (hd1 : d1 < d) (hd2 : d2 < d) (hb1 : 0 < K.1) (hs1 : (K.2.2.1 0).1 = 11 + 6) (hb2 : 59 < K1.1) (hs2 : (K1.2.2.1 59).1 = 12 + 6) (hk1 : K.1 ≤ K1.1 ∧ K.2.1 ≤ K1.2.1) (hk2 : K1.1 ≤ K2.1 ∧ K1.2.1 ≤ K2.2.1) (hk3 : K2.1 ≤ K'.1 ∧ K2.2.1 ≤ K'.2.1)
    (kk : oEv X d J_L 18 [some (.ref 1000000), some (.ref 0), some (.ref 59), some (.int (i + 6))] [] K2 M2 (some (.int 1)) K' M') : oEv X d J_L 247 [some (.ref 1000000), some (.ref 0), some (.ref 59), some (.int i)] [] K M (some (.int 1)) K' M' := by
  refine oe_aload_n (pc := 247) d_L_247 rfl ?_
  refine oe_aload_n (pc := 248) d_L_248 rfl ?_
  refine oe_iload_n (pc := 249) d_L_249 rfl ?_
  refine oe_iconst (pc := 250) (v := 1) d_L_250 rfl ?_
  refine oe_iadd (pc := 251) d_L_251 ?_
  refine oe_sld (pc := 252) d_L_252 g1 ?_
  refine oe_aload_n (pc := 253) d_L_253 rfl ?_
  refine oe_iload_n (pc := 254) d_L_254 rfl ?_
  refine oe_iconst (pc := 255) (v := 2) d_L_255 rfl ?_
  refine oe_iadd (pc := 256) d_L_256 ?_
  refine oe_sld (pc := 257) d_L_257 g2 ?_
  refine oe_callV (pc := 258) (ci := 11) d_L_258 hm1 hd1 ml_L_18 jJ_X11_height rfl rfl hb1 hs1 ock11 rfl (Nat.le_of_ble_eq_true rfl) ⟨hk1.1, Nat.le_trans hk2.1 hk3.1⟩ ⟨hk1.2, Nat.le_trans hk2.2 hk3.2⟩ ?_
  refine oe_aload_n (pc := 261) d_L_261 rfl ?_
  refine oe_aload_n (pc := 262) d_L_262 rfl ?_
  refine oe_iload_n (pc := 263) d_L_263 rfl ?_
  refine oe_iconst (pc := 264) (v := 1) d_L_264 rfl ?_
  refine oe_iadd (pc := 265) d_L_265 ?_
  refine oe_sld (pc := 266) d_L_266 g1 ?_
  refine oe_aload_n (pc := 267) d_L_267 rfl ?_
  refine oe_iload_n (pc := 268) d_L_268 rfl ?_
  refine oe_iconst (pc := 269) (v := 2) d_L_269 rfl ?_
  refine oe_iadd (pc := 270) d_L_270 ?_
  refine oe_sld (pc := 271) d_L_271 g2 ?_
  refine oe_callV (pc := 272) (ci := 12) d_L_272 hm2 hd2 ml_L_22 jJ_X12_height rfl rfl hb2 hs2 ock12 rfl (Nat.le_of_ble_eq_true rfl) ⟨hk2.1, hk3.1⟩ ⟨hk2.2, hk3.2⟩ ?_
  refine oe_icmp_eq (pc := 275) (tgt := 1767) d_L_275 (by decide) (fun _ => ?_) (fun c => absurd rfl c)
  refine oe_iinc (pc := 1767) (v := i + 6) (L2 := [_, _, _, _]) d_L_1767 rfl rfl rfl (Nat.le_of_ble_eq_true rfl) rfl ?_
  exact oe_goto (pc := 1770) (tgt := 18) d_L_1770 (by decide) kk
theorem lc_2 {X : oX} {d d1 d2 : Nat} {i : Int32} {r : Int32} {K K1 K2 K' : oK} {M M1 M2 M' : oM} (g1 : vp_in (i + 1) X.1) (g2 : vp_in (i + 2) X.1) (g3 : vp_in (i + 3) X.1) (hm1 : oMet X d1 J_X11_way [.ref 0, .int (X.2 (i + 1).toNatClampNeg), .int (X.2 (i + 2).toNatClampNeg), .int (X.2 (i + 3).toNatClampNeg)] K M (some (.int r)) K1 M1) (hm2 : oMet X d2 J_X12_way [.ref 59, .int (X.2 (i + 1).toNatClampNeg), .int (X.2 (i + 2).toNatClampNeg), .int (X.2 (i + 3).toNatClampNeg)] K1 M1 (some (.int r)) K2 M2) (hd1 : d1 < d) (hd2 : d2 < d) (hb1 : 0 < K.1) (hs1 : (K.2.2.1 0).1 = 11 + 6) (hb2 : 59 < K1.1) (hs2 : (K1.2.2.1 59).1 = 12 + 6) (hk1 : K.1 ≤ K1.1 ∧ K.2.1 ≤ K1.2.1) (hk2 : K1.1 ≤ K2.1 ∧ K1.2.1 ≤ K2.2.1) (hk3 : K2.1 ≤ K'.1 ∧ K2.2.1 ≤ K'.2.1)
    (kk : oEv X d J_L 18 [some (.ref 1000000), some (.ref 0), some (.ref 59), some (.int (i + 6))] [] K2 M2 (some (.int 1)) K' M') : oEv X d J_L 280 [some (.ref 1000000), some (.ref 0), some (.ref 59), some (.int i)] [] K M (some (.int 1)) K' M' := by
  refine oe_aload_n (pc := 280) d_L_280 rfl ?_
  refine oe_aload_n (pc := 281) d_L_281 rfl ?_
  refine oe_iload_n (pc := 282) d_L_282 rfl ?_
  refine oe_iconst (pc := 283) (v := 1) d_L_283 rfl ?_
  refine oe_iadd (pc := 284) d_L_284 ?_
  refine oe_sld (pc := 285) d_L_285 g1 ?_
  refine oe_aload_n (pc := 286) d_L_286 rfl ?_
  refine oe_iload_n (pc := 287) d_L_287 rfl ?_
  refine oe_iconst (pc := 288) (v := 2) d_L_288 rfl ?_
  refine oe_iadd (pc := 289) d_L_289 ?_
  refine oe_sld (pc := 290) d_L_290 g2 ?_
  refine oe_aload_n (pc := 291) d_L_291 rfl ?_
  refine oe_iload_n (pc := 292) d_L_292 rfl ?_
  refine oe_iconst (pc := 293) (v := 3) d_L_293 rfl ?_
  refine oe_iadd (pc := 294) d_L_294 ?_
  refine oe_sld (pc := 295) d_L_295 g3 ?_
  refine oe_callV (pc := 296) (ci := 11) d_L_296 hm1 hd1 ml_L_23 jJ_X11_way rfl rfl hb1 hs1 ock11 rfl (Nat.le_of_ble_eq_true rfl) ⟨hk1.1, Nat.le_trans hk2.1 hk3.1⟩ ⟨hk1.2, Nat.le_trans hk2.2 hk3.2⟩ ?_
  refine oe_aload_n (pc := 299) d_L_299 rfl ?_
  refine oe_aload_n (pc := 300) d_L_300 rfl ?_
  refine oe_iload_n (pc := 301) d_L_301 rfl ?_
  refine oe_iconst (pc := 302) (v := 1) d_L_302 rfl ?_
  refine oe_iadd (pc := 303) d_L_303 ?_
  refine oe_sld (pc := 304) d_L_304 g1 ?_
  refine oe_aload_n (pc := 305) d_L_305 rfl ?_
  refine oe_iload_n (pc := 306) d_L_306 rfl ?_
  refine oe_iconst (pc := 307) (v := 2) d_L_307 rfl ?_
  refine oe_iadd (pc := 308) d_L_308 ?_
  refine oe_sld (pc := 309) d_L_309 g2 ?_
  refine oe_aload_n (pc := 310) d_L_310 rfl ?_
  refine oe_iload_n (pc := 311) d_L_311 rfl ?_
  refine oe_iconst (pc := 312) (v := 3) d_L_312 rfl ?_
  refine oe_iadd (pc := 313) d_L_313 ?_
  refine oe_sld (pc := 314) d_L_314 g3 ?_
  refine oe_callV (pc := 315) (ci := 12) d_L_315 hm2 hd2 ml_L_27 jJ_X12_way rfl rfl hb2 hs2 ock12 rfl (Nat.le_of_ble_eq_true rfl) ⟨hk2.1, hk3.1⟩ ⟨hk2.2, hk3.2⟩ ?_
  refine oe_icmp_eq (pc := 318) (tgt := 1767) d_L_318 (by decide) (fun _ => ?_) (fun c => absurd rfl c)
  refine oe_iinc (pc := 1767) (v := i + 6) (L2 := [_, _, _, _]) d_L_1767 rfl rfl rfl (Nat.le_of_ble_eq_true rfl) rfl ?_
  exact oe_goto (pc := 1770) (tgt := 18) d_L_1770 (by decide) kk
theorem lc_3 {X : oX} {d d1 d2 : Nat} {i : Int32} {r : Int32} {K K1 K2 K' : oK} {M M1 M2 M' : oM} (g1 : vp_in (i + 1) X.1) (g2 : vp_in (i + 2) X.1) (g3 : vp_in (i + 3) X.1) (hm1 : oMet X d1 J_X11_bore [.ref 0, .int (X.2 (i + 1).toNatClampNeg), .int (X.2 (i + 2).toNatClampNeg), .int (X.2 (i + 3).toNatClampNeg)] K M (some (.int r)) K1 M1) (hm2 : oMet X d2 J_X12_bore [.ref 59, .int (X.2 (i + 1).toNatClampNeg), .int (X.2 (i + 2).toNatClampNeg), .int (X.2 (i + 3).toNatClampNeg)] K1 M1 (some (.int r)) K2 M2) (hd1 : d1 < d) (hd2 : d2 < d) (hb1 : 0 < K.1) (hs1 : (K.2.2.1 0).1 = 11 + 6) (hb2 : 59 < K1.1) (hs2 : (K1.2.2.1 59).1 = 12 + 6) (hk1 : K.1 ≤ K1.1 ∧ K.2.1 ≤ K1.2.1) (hk2 : K1.1 ≤ K2.1 ∧ K1.2.1 ≤ K2.2.1) (hk3 : K2.1 ≤ K'.1 ∧ K2.2.1 ≤ K'.2.1)
    (kk : oEv X d J_L 18 [some (.ref 1000000), some (.ref 0), some (.ref 59), some (.int (i + 6))] [] K2 M2 (some (.int 1)) K' M') : oEv X d J_L 323 [some (.ref 1000000), some (.ref 0), some (.ref 59), some (.int i)] [] K M (some (.int 1)) K' M' := by
  refine oe_aload_n (pc := 323) d_L_323 rfl ?_
  refine oe_aload_n (pc := 324) d_L_324 rfl ?_
  refine oe_iload_n (pc := 325) d_L_325 rfl ?_
  refine oe_iconst (pc := 326) (v := 1) d_L_326 rfl ?_
  refine oe_iadd (pc := 327) d_L_327 ?_
  refine oe_sld (pc := 328) d_L_328 g1 ?_
  refine oe_aload_n (pc := 329) d_L_329 rfl ?_
  refine oe_iload_n (pc := 330) d_L_330 rfl ?_
  refine oe_iconst (pc := 331) (v := 2) d_L_331 rfl ?_
  refine oe_iadd (pc := 332) d_L_332 ?_
  refine oe_sld (pc := 333) d_L_333 g2 ?_
  refine oe_aload_n (pc := 334) d_L_334 rfl ?_
  refine oe_iload_n (pc := 335) d_L_335 rfl ?_
  refine oe_iconst (pc := 336) (v := 3) d_L_336 rfl ?_
  refine oe_iadd (pc := 337) d_L_337 ?_
  refine oe_sld (pc := 338) d_L_338 g3 ?_
  refine oe_callV (pc := 339) (ci := 11) d_L_339 hm1 hd1 ml_L_28 jJ_X11_bore rfl rfl hb1 hs1 ock11 rfl (Nat.le_of_ble_eq_true rfl) ⟨hk1.1, Nat.le_trans hk2.1 hk3.1⟩ ⟨hk1.2, Nat.le_trans hk2.2 hk3.2⟩ ?_
  refine oe_aload_n (pc := 342) d_L_342 rfl ?_
  refine oe_aload_n (pc := 343) d_L_343 rfl ?_
  refine oe_iload_n (pc := 344) d_L_344 rfl ?_
  refine oe_iconst (pc := 345) (v := 1) d_L_345 rfl ?_
  refine oe_iadd (pc := 346) d_L_346 ?_
  refine oe_sld (pc := 347) d_L_347 g1 ?_
  refine oe_aload_n (pc := 348) d_L_348 rfl ?_
  refine oe_iload_n (pc := 349) d_L_349 rfl ?_
  refine oe_iconst (pc := 350) (v := 2) d_L_350 rfl ?_
  refine oe_iadd (pc := 351) d_L_351 ?_
  refine oe_sld (pc := 352) d_L_352 g2 ?_
  refine oe_aload_n (pc := 353) d_L_353 rfl ?_
  refine oe_iload_n (pc := 354) d_L_354 rfl ?_
  refine oe_iconst (pc := 355) (v := 3) d_L_355 rfl ?_
  refine oe_iadd (pc := 356) d_L_356 ?_
  refine oe_sld (pc := 357) d_L_357 g3 ?_
  refine oe_callV (pc := 358) (ci := 12) d_L_358 hm2 hd2 ml_L_31 jJ_X12_bore rfl rfl hb2 hs2 ock12 rfl (Nat.le_of_ble_eq_true rfl) ⟨hk2.1, hk3.1⟩ ⟨hk2.2, hk3.2⟩ ?_
  refine oe_icmp_eq (pc := 361) (tgt := 1767) d_L_361 (by decide) (fun _ => ?_) (fun c => absurd rfl c)
  refine oe_iinc (pc := 1767) (v := i + 6) (L2 := [_, _, _, _]) d_L_1767 rfl rfl rfl (Nat.le_of_ble_eq_true rfl) rfl ?_
  exact oe_goto (pc := 1770) (tgt := 18) d_L_1770 (by decide) kk
theorem lc_4 {X : oX} {d d1 d2 : Nat} {i : Int32} {r : Int32} {K K1 K2 K' : oK} {M M1 M2 M' : oM} (g1 : vp_in (i + 1) X.1) (g2 : vp_in (i + 2) X.1) (hm1 : oMet X d1 J_X11_engine [.ref 0, .int (X.2 (i + 1).toNatClampNeg), .int (X.2 (i + 2).toNatClampNeg)] K M (some (.int r)) K1 M1) (hm2 : oMet X d2 J_X12_engine [.ref 59, .int (X.2 (i + 1).toNatClampNeg), .int (X.2 (i + 2).toNatClampNeg)] K1 M1 (some (.int r)) K2 M2) (hd1 : d1 < d) (hd2 : d2 < d) (hb1 : 0 < K.1) (hs1 : (K.2.2.1 0).1 = 11 + 6) (hb2 : 59 < K1.1) (hs2 : (K1.2.2.1 59).1 = 12 + 6) (hk1 : K.1 ≤ K1.1 ∧ K.2.1 ≤ K1.2.1) (hk2 : K1.1 ≤ K2.1 ∧ K1.2.1 ≤ K2.2.1) (hk3 : K2.1 ≤ K'.1 ∧ K2.2.1 ≤ K'.2.1)
    (kk : oEv X d J_L 18 [some (.ref 1000000), some (.ref 0), some (.ref 59), some (.int (i + 6))] [] K2 M2 (some (.int 1)) K' M') : oEv X d J_L 366 [some (.ref 1000000), some (.ref 0), some (.ref 59), some (.int i)] [] K M (some (.int 1)) K' M' := by
  refine oe_aload_n (pc := 366) d_L_366 rfl ?_
  refine oe_aload_n (pc := 367) d_L_367 rfl ?_
  refine oe_iload_n (pc := 368) d_L_368 rfl ?_
  refine oe_iconst (pc := 369) (v := 1) d_L_369 rfl ?_
  refine oe_iadd (pc := 370) d_L_370 ?_
  refine oe_sld (pc := 371) d_L_371 g1 ?_
  refine oe_aload_n (pc := 372) d_L_372 rfl ?_
  refine oe_iload_n (pc := 373) d_L_373 rfl ?_
  refine oe_iconst (pc := 374) (v := 2) d_L_374 rfl ?_
  refine oe_iadd (pc := 375) d_L_375 ?_
  refine oe_sld (pc := 376) d_L_376 g2 ?_
  refine oe_callV (pc := 377) (ci := 11) d_L_377 hm1 hd1 ml_L_32 jJ_X11_engine rfl rfl hb1 hs1 ock11 rfl (Nat.le_of_ble_eq_true rfl) ⟨hk1.1, Nat.le_trans hk2.1 hk3.1⟩ ⟨hk1.2, Nat.le_trans hk2.2 hk3.2⟩ ?_
  refine oe_aload_n (pc := 380) d_L_380 rfl ?_
  refine oe_aload_n (pc := 381) d_L_381 rfl ?_
  refine oe_iload_n (pc := 382) d_L_382 rfl ?_
  refine oe_iconst (pc := 383) (v := 1) d_L_383 rfl ?_
  refine oe_iadd (pc := 384) d_L_384 ?_
  refine oe_sld (pc := 385) d_L_385 g1 ?_
  refine oe_aload_n (pc := 386) d_L_386 rfl ?_
  refine oe_iload_n (pc := 387) d_L_387 rfl ?_
  refine oe_iconst (pc := 388) (v := 2) d_L_388 rfl ?_
  refine oe_iadd (pc := 389) d_L_389 ?_
  refine oe_sld (pc := 390) d_L_390 g2 ?_
  refine oe_callV (pc := 391) (ci := 12) d_L_391 hm2 hd2 ml_L_35 jJ_X12_engine rfl rfl hb2 hs2 ock12 rfl (Nat.le_of_ble_eq_true rfl) ⟨hk2.1, hk3.1⟩ ⟨hk2.2, hk3.2⟩ ?_
  refine oe_icmp_eq (pc := 394) (tgt := 1767) d_L_394 (by decide) (fun _ => ?_) (fun c => absurd rfl c)
  refine oe_iinc (pc := 1767) (v := i + 6) (L2 := [_, _, _, _]) d_L_1767 rfl rfl rfl (Nat.le_of_ble_eq_true rfl) rfl ?_
  exact oe_goto (pc := 1770) (tgt := 18) d_L_1770 (by decide) kk
theorem lc_5 {X : oX} {d d1 d2 : Nat} {i : Int32} {r : Int32} {K K1 K2 K' : oK} {M M1 M2 M' : oM} (g1 : vp_in (i + 1) X.1) (g2 : vp_in (i + 2) X.1) (hm1 : oMet X d1 J_X11_feed [.ref 0, .int (X.2 (i + 1).toNatClampNeg), .int (X.2 (i + 2).toNatClampNeg)] K M (some (.int r)) K1 M1) (hm2 : oMet X d2 J_X12_feed [.ref 59, .int (X.2 (i + 1).toNatClampNeg), .int (X.2 (i + 2).toNatClampNeg)] K1 M1 (some (.int r)) K2 M2) (hd1 : d1 < d) (hd2 : d2 < d) (hb1 : 0 < K.1) (hs1 : (K.2.2.1 0).1 = 11 + 6) (hb2 : 59 < K1.1) (hs2 : (K1.2.2.1 59).1 = 12 + 6) (hk1 : K.1 ≤ K1.1 ∧ K.2.1 ≤ K1.2.1) (hk2 : K1.1 ≤ K2.1 ∧ K1.2.1 ≤ K2.2.1) (hk3 : K2.1 ≤ K'.1 ∧ K2.2.1 ≤ K'.2.1)
    (kk : oEv X d J_L 18 [some (.ref 1000000), some (.ref 0), some (.ref 59), some (.int (i + 6))] [] K2 M2 (some (.int 1)) K' M') : oEv X d J_L 399 [some (.ref 1000000), some (.ref 0), some (.ref 59), some (.int i)] [] K M (some (.int 1)) K' M' := by
  refine oe_aload_n (pc := 399) d_L_399 rfl ?_
  refine oe_aload_n (pc := 400) d_L_400 rfl ?_
  refine oe_iload_n (pc := 401) d_L_401 rfl ?_
  refine oe_iconst (pc := 402) (v := 1) d_L_402 rfl ?_
  refine oe_iadd (pc := 403) d_L_403 ?_
  refine oe_sld (pc := 404) d_L_404 g1 ?_
  refine oe_aload_n (pc := 405) d_L_405 rfl ?_
  refine oe_iload_n (pc := 406) d_L_406 rfl ?_
  refine oe_iconst (pc := 407) (v := 2) d_L_407 rfl ?_
  refine oe_iadd (pc := 408) d_L_408 ?_
  refine oe_sld (pc := 409) d_L_409 g2 ?_
  refine oe_callV (pc := 410) (ci := 11) d_L_410 hm1 hd1 ml_L_36 jJ_X11_feed rfl rfl hb1 hs1 ock11 rfl (Nat.le_of_ble_eq_true rfl) ⟨hk1.1, Nat.le_trans hk2.1 hk3.1⟩ ⟨hk1.2, Nat.le_trans hk2.2 hk3.2⟩ ?_
  refine oe_aload_n (pc := 413) d_L_413 rfl ?_
  refine oe_aload_n (pc := 414) d_L_414 rfl ?_
  refine oe_iload_n (pc := 415) d_L_415 rfl ?_
  refine oe_iconst (pc := 416) (v := 1) d_L_416 rfl ?_
  refine oe_iadd (pc := 417) d_L_417 ?_
  refine oe_sld (pc := 418) d_L_418 g1 ?_
  refine oe_aload_n (pc := 419) d_L_419 rfl ?_
  refine oe_iload_n (pc := 420) d_L_420 rfl ?_
  refine oe_iconst (pc := 421) (v := 2) d_L_421 rfl ?_
  refine oe_iadd (pc := 422) d_L_422 ?_
  refine oe_sld (pc := 423) d_L_423 g2 ?_
  refine oe_callV (pc := 424) (ci := 12) d_L_424 hm2 hd2 ml_L_39 jJ_X12_feed rfl rfl hb2 hs2 ock12 rfl (Nat.le_of_ble_eq_true rfl) ⟨hk2.1, hk3.1⟩ ⟨hk2.2, hk3.2⟩ ?_
  refine oe_icmp_eq (pc := 427) (tgt := 1767) d_L_427 (by decide) (fun _ => ?_) (fun c => absurd rfl c)
  refine oe_iinc (pc := 1767) (v := i + 6) (L2 := [_, _, _, _]) d_L_1767 rfl rfl rfl (Nat.le_of_ble_eq_true rfl) rfl ?_
  exact oe_goto (pc := 1770) (tgt := 18) d_L_1770 (by decide) kk
theorem lc_6 {X : oX} {d d1 d2 : Nat} {i : Int32} {r : Int32} {K K1 K2 K' : oK} {M M1 M2 M' : oM}  (hm1 : oMet X d1 J_X11_table [.ref 0] K M (some (.int r)) K1 M1) (hm2 : oMet X d2 J_X12_table [.ref 59] K1 M1 (some (.int r)) K2 M2) (hd1 : d1 < d) (hd2 : d2 < d) (hb1 : 0 < K.1) (hs1 : (K.2.2.1 0).1 = 11 + 6) (hb2 : 59 < K1.1) (hs2 : (K1.2.2.1 59).1 = 12 + 6) (hk1 : K.1 ≤ K1.1 ∧ K.2.1 ≤ K1.2.1) (hk2 : K1.1 ≤ K2.1 ∧ K1.2.1 ≤ K2.2.1) (hk3 : K2.1 ≤ K'.1 ∧ K2.2.1 ≤ K'.2.1)
    (kk : oEv X d J_L 18 [some (.ref 1000000), some (.ref 0), some (.ref 59), some (.int (i + 6))] [] K2 M2 (some (.int 1)) K' M') : oEv X d J_L 432 [some (.ref 1000000), some (.ref 0), some (.ref 59), some (.int i)] [] K M (some (.int 1)) K' M' := by
  refine oe_aload_n (pc := 432) d_L_432 rfl ?_
  refine oe_callV (pc := 433) (ci := 11) d_L_433 hm1 hd1 ml_L_40 jJ_X11_table rfl rfl hb1 hs1 ock11 rfl (Nat.le_of_ble_eq_true rfl) ⟨hk1.1, Nat.le_trans hk2.1 hk3.1⟩ ⟨hk1.2, Nat.le_trans hk2.2 hk3.2⟩ ?_
  refine oe_aload_n (pc := 436) d_L_436 rfl ?_
  refine oe_callV (pc := 437) (ci := 12) d_L_437 hm2 hd2 ml_L_44 jJ_X12_table rfl rfl hb2 hs2 ock12 rfl (Nat.le_of_ble_eq_true rfl) ⟨hk2.1, hk3.1⟩ ⟨hk2.2, hk3.2⟩ ?_
  refine oe_icmp_eq (pc := 440) (tgt := 1767) d_L_440 (by decide) (fun _ => ?_) (fun c => absurd rfl c)
  refine oe_iinc (pc := 1767) (v := i + 6) (L2 := [_, _, _, _]) d_L_1767 rfl rfl rfl (Nat.le_of_ble_eq_true rfl) rfl ?_
  exact oe_goto (pc := 1770) (tgt := 18) d_L_1770 (by decide) kk
theorem lc_7 {X : oX} {d d1 d2 : Nat} {i : Int32} {r : Int32} {K K1 K2 K' : oK} {M M1 M2 M' : oM} (g1 : vp_in (i + 1) X.1) (g2 : vp_in (i + 2) X.1) (hm1 : oMet X d1 J_X11_loses [.ref 0, .int (X.2 (i + 1).toNatClampNeg), .int (X.2 (i + 2).toNatClampNeg)] K M (some (.int r)) K1 M1) (hm2 : oMet X d2 J_X12_loses [.ref 59, .int (X.2 (i + 1).toNatClampNeg), .int (X.2 (i + 2).toNatClampNeg)] K1 M1 (some (.int r)) K2 M2) (hd1 : d1 < d) (hd2 : d2 < d) (hb1 : 0 < K.1) (hs1 : (K.2.2.1 0).1 = 11 + 6) (hb2 : 59 < K1.1) (hs2 : (K1.2.2.1 59).1 = 12 + 6) (hk1 : K.1 ≤ K1.1 ∧ K.2.1 ≤ K1.2.1) (hk2 : K1.1 ≤ K2.1 ∧ K1.2.1 ≤ K2.2.1) (hk3 : K2.1 ≤ K'.1 ∧ K2.2.1 ≤ K'.2.1)
    (kk : oEv X d J_L 18 [some (.ref 1000000), some (.ref 0), some (.ref 59), some (.int (i + 6))] [] K2 M2 (some (.int 1)) K' M') : oEv X d J_L 445 [some (.ref 1000000), some (.ref 0), some (.ref 59), some (.int i)] [] K M (some (.int 1)) K' M' := by
  refine oe_aload_n (pc := 445) d_L_445 rfl ?_
  refine oe_aload_n (pc := 446) d_L_446 rfl ?_
  refine oe_iload_n (pc := 447) d_L_447 rfl ?_
  refine oe_iconst (pc := 448) (v := 1) d_L_448 rfl ?_
  refine oe_iadd (pc := 449) d_L_449 ?_
  refine oe_sld (pc := 450) d_L_450 g1 ?_
  refine oe_aload_n (pc := 451) d_L_451 rfl ?_
  refine oe_iload_n (pc := 452) d_L_452 rfl ?_
  refine oe_iconst (pc := 453) (v := 2) d_L_453 rfl ?_
  refine oe_iadd (pc := 454) d_L_454 ?_
  refine oe_sld (pc := 455) d_L_455 g2 ?_
  refine oe_callV (pc := 456) (ci := 11) d_L_456 hm1 hd1 ml_L_45 jJ_X11_loses rfl rfl hb1 hs1 ock11 rfl (Nat.le_of_ble_eq_true rfl) ⟨hk1.1, Nat.le_trans hk2.1 hk3.1⟩ ⟨hk1.2, Nat.le_trans hk2.2 hk3.2⟩ ?_
  refine oe_aload_n (pc := 459) d_L_459 rfl ?_
  refine oe_aload_n (pc := 460) d_L_460 rfl ?_
  refine oe_iload_n (pc := 461) d_L_461 rfl ?_
  refine oe_iconst (pc := 462) (v := 1) d_L_462 rfl ?_
  refine oe_iadd (pc := 463) d_L_463 ?_
  refine oe_sld (pc := 464) d_L_464 g1 ?_
  refine oe_aload_n (pc := 465) d_L_465 rfl ?_
  refine oe_iload_n (pc := 466) d_L_466 rfl ?_
  refine oe_iconst (pc := 467) (v := 2) d_L_467 rfl ?_
  refine oe_iadd (pc := 468) d_L_468 ?_
  refine oe_sld (pc := 469) d_L_469 g2 ?_
  refine oe_callV (pc := 470) (ci := 12) d_L_470 hm2 hd2 ml_L_48 jJ_X12_loses rfl rfl hb2 hs2 ock12 rfl (Nat.le_of_ble_eq_true rfl) ⟨hk2.1, hk3.1⟩ ⟨hk2.2, hk3.2⟩ ?_
  refine oe_icmp_eq (pc := 473) (tgt := 1767) d_L_473 (by decide) (fun _ => ?_) (fun c => absurd rfl c)
  refine oe_iinc (pc := 1767) (v := i + 6) (L2 := [_, _, _, _]) d_L_1767 rfl rfl rfl (Nat.le_of_ble_eq_true rfl) rfl ?_
  exact oe_goto (pc := 1770) (tgt := 18) d_L_1770 (by decide) kk
theorem lc_8 {X : oX} {d d1 d2 : Nat} {i : Int32} {r : Int32} {K K1 K2 K' : oK} {M M1 M2 M' : oM} (g1 : vp_in (i + 1) X.1) (g2 : vp_in (i + 2) X.1) (hm1 : oMet X d1 J_X11_lifts [.ref 0, .int (X.2 (i + 1).toNatClampNeg), .int (X.2 (i + 2).toNatClampNeg)] K M (some (.int r)) K1 M1) (hm2 : oMet X d2 J_X12_lifts [.ref 59, .int (X.2 (i + 1).toNatClampNeg), .int (X.2 (i + 2).toNatClampNeg)] K1 M1 (some (.int r)) K2 M2) (hd1 : d1 < d) (hd2 : d2 < d) (hb1 : 0 < K.1) (hs1 : (K.2.2.1 0).1 = 11 + 6) (hb2 : 59 < K1.1) (hs2 : (K1.2.2.1 59).1 = 12 + 6) (hk1 : K.1 ≤ K1.1 ∧ K.2.1 ≤ K1.2.1) (hk2 : K1.1 ≤ K2.1 ∧ K1.2.1 ≤ K2.2.1) (hk3 : K2.1 ≤ K'.1 ∧ K2.2.1 ≤ K'.2.1)
    (kk : oEv X d J_L 18 [some (.ref 1000000), some (.ref 0), some (.ref 59), some (.int (i + 6))] [] K2 M2 (some (.int 1)) K' M') : oEv X d J_L 478 [some (.ref 1000000), some (.ref 0), some (.ref 59), some (.int i)] [] K M (some (.int 1)) K' M' := by
  refine oe_aload_n (pc := 478) d_L_478 rfl ?_
  refine oe_aload_n (pc := 479) d_L_479 rfl ?_
  refine oe_iload_n (pc := 480) d_L_480 rfl ?_
  refine oe_iconst (pc := 481) (v := 1) d_L_481 rfl ?_
  refine oe_iadd (pc := 482) d_L_482 ?_
  refine oe_sld (pc := 483) d_L_483 g1 ?_
  refine oe_aload_n (pc := 484) d_L_484 rfl ?_
  refine oe_iload_n (pc := 485) d_L_485 rfl ?_
  refine oe_iconst (pc := 486) (v := 2) d_L_486 rfl ?_
  refine oe_iadd (pc := 487) d_L_487 ?_
  refine oe_sld (pc := 488) d_L_488 g2 ?_
  refine oe_callV (pc := 489) (ci := 11) d_L_489 hm1 hd1 ml_L_49 jJ_X11_lifts rfl rfl hb1 hs1 ock11 rfl (Nat.le_of_ble_eq_true rfl) ⟨hk1.1, Nat.le_trans hk2.1 hk3.1⟩ ⟨hk1.2, Nat.le_trans hk2.2 hk3.2⟩ ?_
  refine oe_aload_n (pc := 492) d_L_492 rfl ?_
  refine oe_aload_n (pc := 493) d_L_493 rfl ?_
  refine oe_iload_n (pc := 494) d_L_494 rfl ?_
  refine oe_iconst (pc := 495) (v := 1) d_L_495 rfl ?_
  refine oe_iadd (pc := 496) d_L_496 ?_
  refine oe_sld (pc := 497) d_L_497 g1 ?_
  refine oe_aload_n (pc := 498) d_L_498 rfl ?_
  refine oe_iload_n (pc := 499) d_L_499 rfl ?_
  refine oe_iconst (pc := 500) (v := 2) d_L_500 rfl ?_
  refine oe_iadd (pc := 501) d_L_501 ?_
  refine oe_sld (pc := 502) d_L_502 g2 ?_
  refine oe_callV (pc := 503) (ci := 12) d_L_503 hm2 hd2 ml_L_52 jJ_X12_lifts rfl rfl hb2 hs2 ock12 rfl (Nat.le_of_ble_eq_true rfl) ⟨hk2.1, hk3.1⟩ ⟨hk2.2, hk3.2⟩ ?_
  refine oe_icmp_eq (pc := 506) (tgt := 1767) d_L_506 (by decide) (fun _ => ?_) (fun c => absurd rfl c)
  refine oe_iinc (pc := 1767) (v := i + 6) (L2 := [_, _, _, _]) d_L_1767 rfl rfl rfl (Nat.le_of_ble_eq_true rfl) rfl ?_
  exact oe_goto (pc := 1770) (tgt := 18) d_L_1770 (by decide) kk
theorem lc_9 {X : oX} {d d1 d2 : Nat} {i : Int32} {r : Int32} {K K1 K2 K' : oK} {M M1 M2 M' : oM} (g1 : vp_in (i + 1) X.1) (g2 : vp_in (i + 2) X.1) (hm1 : oMet X d1 J_X11_laying [.ref 0, .int (X.2 (i + 1).toNatClampNeg), .int (X.2 (i + 2).toNatClampNeg)] K M (some (.int r)) K1 M1) (hm2 : oMet X d2 J_X12_laying [.ref 59, .int (X.2 (i + 1).toNatClampNeg), .int (X.2 (i + 2).toNatClampNeg)] K1 M1 (some (.int r)) K2 M2) (hd1 : d1 < d) (hd2 : d2 < d) (hb1 : 0 < K.1) (hs1 : (K.2.2.1 0).1 = 11 + 6) (hb2 : 59 < K1.1) (hs2 : (K1.2.2.1 59).1 = 12 + 6) (hk1 : K.1 ≤ K1.1 ∧ K.2.1 ≤ K1.2.1) (hk2 : K1.1 ≤ K2.1 ∧ K1.2.1 ≤ K2.2.1) (hk3 : K2.1 ≤ K'.1 ∧ K2.2.1 ≤ K'.2.1)
    (kk : oEv X d J_L 18 [some (.ref 1000000), some (.ref 0), some (.ref 59), some (.int (i + 6))] [] K2 M2 (some (.int 1)) K' M') : oEv X d J_L 511 [some (.ref 1000000), some (.ref 0), some (.ref 59), some (.int i)] [] K M (some (.int 1)) K' M' := by
  refine oe_aload_n (pc := 511) d_L_511 rfl ?_
  refine oe_aload_n (pc := 512) d_L_512 rfl ?_
  refine oe_iload_n (pc := 513) d_L_513 rfl ?_
  refine oe_iconst (pc := 514) (v := 1) d_L_514 rfl ?_
  refine oe_iadd (pc := 515) d_L_515 ?_
  refine oe_sld (pc := 516) d_L_516 g1 ?_
  refine oe_aload_n (pc := 517) d_L_517 rfl ?_
  refine oe_iload_n (pc := 518) d_L_518 rfl ?_
  refine oe_iconst (pc := 519) (v := 2) d_L_519 rfl ?_
  refine oe_iadd (pc := 520) d_L_520 ?_
  refine oe_sld (pc := 521) d_L_521 g2 ?_
  refine oe_callV (pc := 522) (ci := 11) d_L_522 hm1 hd1 ml_L_53 jJ_X11_laying rfl rfl hb1 hs1 ock11 rfl (Nat.le_of_ble_eq_true rfl) ⟨hk1.1, Nat.le_trans hk2.1 hk3.1⟩ ⟨hk1.2, Nat.le_trans hk2.2 hk3.2⟩ ?_
  refine oe_aload_n (pc := 525) d_L_525 rfl ?_
  refine oe_aload_n (pc := 526) d_L_526 rfl ?_
  refine oe_iload_n (pc := 527) d_L_527 rfl ?_
  refine oe_iconst (pc := 528) (v := 1) d_L_528 rfl ?_
  refine oe_iadd (pc := 529) d_L_529 ?_
  refine oe_sld (pc := 530) d_L_530 g1 ?_
  refine oe_aload_n (pc := 531) d_L_531 rfl ?_
  refine oe_iload_n (pc := 532) d_L_532 rfl ?_
  refine oe_iconst (pc := 533) (v := 2) d_L_533 rfl ?_
  refine oe_iadd (pc := 534) d_L_534 ?_
  refine oe_sld (pc := 535) d_L_535 g2 ?_
  refine oe_callV (pc := 536) (ci := 12) d_L_536 hm2 hd2 ml_L_56 jJ_X12_laying rfl rfl hb2 hs2 ock12 rfl (Nat.le_of_ble_eq_true rfl) ⟨hk2.1, hk3.1⟩ ⟨hk2.2, hk3.2⟩ ?_
  refine oe_icmp_eq (pc := 539) (tgt := 1767) d_L_539 (by decide) (fun _ => ?_) (fun c => absurd rfl c)
  refine oe_iinc (pc := 1767) (v := i + 6) (L2 := [_, _, _, _]) d_L_1767 rfl rfl rfl (Nat.le_of_ble_eq_true rfl) rfl ?_
  exact oe_goto (pc := 1770) (tgt := 18) d_L_1770 (by decide) kk
theorem lc_10 {X : oX} {d d1 d2 : Nat} {i : Int32} {r : Int32} {K K1 K2 K' : oK} {M M1 M2 M' : oM} (g1 : vp_in (i + 1) X.1) (g2 : vp_in (i + 2) X.1) (g3 : vp_in (i + 3) X.1) (g4 : vp_in (i + 4) X.1) (hm1 : oMet X d1 J_X11_part [.ref 0, .int (X.2 (i + 1).toNatClampNeg), .int (X.2 (i + 2).toNatClampNeg), .int (X.2 (i + 3).toNatClampNeg), .int (X.2 (i + 4).toNatClampNeg)] K M (some (.int r)) K1 M1) (hm2 : oMet X d2 J_X12_part [.ref 59, .int (X.2 (i + 1).toNatClampNeg), .int (X.2 (i + 2).toNatClampNeg), .int (X.2 (i + 3).toNatClampNeg), .int (X.2 (i + 4).toNatClampNeg)] K1 M1 (some (.int r)) K2 M2) (hd1 : d1 < d) (hd2 : d2 < d) (hb1 : 0 < K.1) (hs1 : (K.2.2.1 0).1 = 11 + 6) (hb2 : 59 < K1.1) (hs2 : (K1.2.2.1 59).1 = 12 + 6) (hk1 : K.1 ≤ K1.1 ∧ K.2.1 ≤ K1.2.1) (hk2 : K1.1 ≤ K2.1 ∧ K1.2.1 ≤ K2.2.1) (hk3 : K2.1 ≤ K'.1 ∧ K2.2.1 ≤ K'.2.1)
    (kk : oEv X d J_L 18 [some (.ref 1000000), some (.ref 0), some (.ref 59), some (.int (i + 6))] [] K2 M2 (some (.int 1)) K' M') : oEv X d J_L 544 [some (.ref 1000000), some (.ref 0), some (.ref 59), some (.int i)] [] K M (some (.int 1)) K' M' := by
  refine oe_aload_n (pc := 544) d_L_544 rfl ?_
  refine oe_aload_n (pc := 545) d_L_545 rfl ?_
  refine oe_iload_n (pc := 546) d_L_546 rfl ?_
  refine oe_iconst (pc := 547) (v := 1) d_L_547 rfl ?_
  refine oe_iadd (pc := 548) d_L_548 ?_
  refine oe_sld (pc := 549) d_L_549 g1 ?_
  refine oe_aload_n (pc := 550) d_L_550 rfl ?_
  refine oe_iload_n (pc := 551) d_L_551 rfl ?_
  refine oe_iconst (pc := 552) (v := 2) d_L_552 rfl ?_
  refine oe_iadd (pc := 553) d_L_553 ?_
  refine oe_sld (pc := 554) d_L_554 g2 ?_
  refine oe_aload_n (pc := 555) d_L_555 rfl ?_
  refine oe_iload_n (pc := 556) d_L_556 rfl ?_
  refine oe_iconst (pc := 557) (v := 3) d_L_557 rfl ?_
  refine oe_iadd (pc := 558) d_L_558 ?_
  refine oe_sld (pc := 559) d_L_559 g3 ?_
  refine oe_aload_n (pc := 560) d_L_560 rfl ?_
  refine oe_iload_n (pc := 561) d_L_561 rfl ?_
  refine oe_iconst (pc := 562) (v := 4) d_L_562 rfl ?_
  refine oe_iadd (pc := 563) d_L_563 ?_
  refine oe_sld (pc := 564) d_L_564 g4 ?_
  refine oe_callV (pc := 565) (ci := 11) d_L_565 hm1 hd1 ml_L_57 jJ_X11_part rfl rfl hb1 hs1 ock11 rfl (Nat.le_of_ble_eq_true rfl) ⟨hk1.1, Nat.le_trans hk2.1 hk3.1⟩ ⟨hk1.2, Nat.le_trans hk2.2 hk3.2⟩ ?_
  refine oe_aload_n (pc := 568) d_L_568 rfl ?_
  refine oe_aload_n (pc := 569) d_L_569 rfl ?_
  refine oe_iload_n (pc := 570) d_L_570 rfl ?_
  refine oe_iconst (pc := 571) (v := 1) d_L_571 rfl ?_
  refine oe_iadd (pc := 572) d_L_572 ?_
  refine oe_sld (pc := 573) d_L_573 g1 ?_
  refine oe_aload_n (pc := 574) d_L_574 rfl ?_
  refine oe_iload_n (pc := 575) d_L_575 rfl ?_
  refine oe_iconst (pc := 576) (v := 2) d_L_576 rfl ?_
  refine oe_iadd (pc := 577) d_L_577 ?_
  refine oe_sld (pc := 578) d_L_578 g2 ?_
  refine oe_aload_n (pc := 579) d_L_579 rfl ?_
  refine oe_iload_n (pc := 580) d_L_580 rfl ?_
  refine oe_iconst (pc := 581) (v := 3) d_L_581 rfl ?_
  refine oe_iadd (pc := 582) d_L_582 ?_
  refine oe_sld (pc := 583) d_L_583 g3 ?_
  refine oe_aload_n (pc := 584) d_L_584 rfl ?_
  refine oe_iload_n (pc := 585) d_L_585 rfl ?_
  refine oe_iconst (pc := 586) (v := 4) d_L_586 rfl ?_
  refine oe_iadd (pc := 587) d_L_587 ?_
  refine oe_sld (pc := 588) d_L_588 g4 ?_
  refine oe_callV (pc := 589) (ci := 12) d_L_589 hm2 hd2 ml_L_61 jJ_X12_part rfl rfl hb2 hs2 ock12 rfl (Nat.le_of_ble_eq_true rfl) ⟨hk2.1, hk3.1⟩ ⟨hk2.2, hk3.2⟩ ?_
  refine oe_icmp_eq (pc := 592) (tgt := 1767) d_L_592 (by decide) (fun _ => ?_) (fun c => absurd rfl c)
  refine oe_iinc (pc := 1767) (v := i + 6) (L2 := [_, _, _, _]) d_L_1767 rfl rfl rfl (Nat.le_of_ble_eq_true rfl) rfl ?_
  exact oe_goto (pc := 1770) (tgt := 18) d_L_1770 (by decide) kk
theorem lc_11 {X : oX} {d d1 d2 : Nat} {i : Int32} {r : Int32} {K K1 K2 K' : oK} {M M1 M2 M' : oM} (g1 : vp_in (i + 1) X.1) (g2 : vp_in (i + 2) X.1) (g3 : vp_in (i + 3) X.1) (g4 : vp_in (i + 4) X.1) (hm1 : oMet X d1 J_X11_parts [.ref 0, .int (X.2 (i + 1).toNatClampNeg), .int (X.2 (i + 2).toNatClampNeg), .int (X.2 (i + 3).toNatClampNeg), .int (X.2 (i + 4).toNatClampNeg)] K M (some (.int r)) K1 M1) (hm2 : oMet X d2 J_X12_parts [.ref 59, .int (X.2 (i + 1).toNatClampNeg), .int (X.2 (i + 2).toNatClampNeg), .int (X.2 (i + 3).toNatClampNeg), .int (X.2 (i + 4).toNatClampNeg)] K1 M1 (some (.int r)) K2 M2) (hd1 : d1 < d) (hd2 : d2 < d) (hb1 : 0 < K.1) (hs1 : (K.2.2.1 0).1 = 11 + 6) (hb2 : 59 < K1.1) (hs2 : (K1.2.2.1 59).1 = 12 + 6) (hk1 : K.1 ≤ K1.1 ∧ K.2.1 ≤ K1.2.1) (hk2 : K1.1 ≤ K2.1 ∧ K1.2.1 ≤ K2.2.1) (hk3 : K2.1 ≤ K'.1 ∧ K2.2.1 ≤ K'.2.1)
    (kk : oEv X d J_L 18 [some (.ref 1000000), some (.ref 0), some (.ref 59), some (.int (i + 6))] [] K2 M2 (some (.int 1)) K' M') : oEv X d J_L 597 [some (.ref 1000000), some (.ref 0), some (.ref 59), some (.int i)] [] K M (some (.int 1)) K' M' := by
  refine oe_aload_n (pc := 597) d_L_597 rfl ?_
  refine oe_aload_n (pc := 598) d_L_598 rfl ?_
  refine oe_iload_n (pc := 599) d_L_599 rfl ?_
  refine oe_iconst (pc := 600) (v := 1) d_L_600 rfl ?_
  refine oe_iadd (pc := 601) d_L_601 ?_
  refine oe_sld (pc := 602) d_L_602 g1 ?_
  refine oe_aload_n (pc := 603) d_L_603 rfl ?_
  refine oe_iload_n (pc := 604) d_L_604 rfl ?_
  refine oe_iconst (pc := 605) (v := 2) d_L_605 rfl ?_
  refine oe_iadd (pc := 606) d_L_606 ?_
  refine oe_sld (pc := 607) d_L_607 g2 ?_
  refine oe_aload_n (pc := 608) d_L_608 rfl ?_
  refine oe_iload_n (pc := 609) d_L_609 rfl ?_
  refine oe_iconst (pc := 610) (v := 3) d_L_610 rfl ?_
  refine oe_iadd (pc := 611) d_L_611 ?_
  refine oe_sld (pc := 612) d_L_612 g3 ?_
  refine oe_aload_n (pc := 613) d_L_613 rfl ?_
  refine oe_iload_n (pc := 614) d_L_614 rfl ?_
  refine oe_iconst (pc := 615) (v := 4) d_L_615 rfl ?_
  refine oe_iadd (pc := 616) d_L_616 ?_
  refine oe_sld (pc := 617) d_L_617 g4 ?_
  refine oe_callV (pc := 618) (ci := 11) d_L_618 hm1 hd1 ml_L_62 jJ_X11_parts rfl rfl hb1 hs1 ock11 rfl (Nat.le_of_ble_eq_true rfl) ⟨hk1.1, Nat.le_trans hk2.1 hk3.1⟩ ⟨hk1.2, Nat.le_trans hk2.2 hk3.2⟩ ?_
  refine oe_aload_n (pc := 621) d_L_621 rfl ?_
  refine oe_aload_n (pc := 622) d_L_622 rfl ?_
  refine oe_iload_n (pc := 623) d_L_623 rfl ?_
  refine oe_iconst (pc := 624) (v := 1) d_L_624 rfl ?_
  refine oe_iadd (pc := 625) d_L_625 ?_
  refine oe_sld (pc := 626) d_L_626 g1 ?_
  refine oe_aload_n (pc := 627) d_L_627 rfl ?_
  refine oe_iload_n (pc := 628) d_L_628 rfl ?_
  refine oe_iconst (pc := 629) (v := 2) d_L_629 rfl ?_
  refine oe_iadd (pc := 630) d_L_630 ?_
  refine oe_sld (pc := 631) d_L_631 g2 ?_
  refine oe_aload_n (pc := 632) d_L_632 rfl ?_
  refine oe_iload_n (pc := 633) d_L_633 rfl ?_
  refine oe_iconst (pc := 634) (v := 3) d_L_634 rfl ?_
  refine oe_iadd (pc := 635) d_L_635 ?_
  refine oe_sld (pc := 636) d_L_636 g3 ?_
  refine oe_aload_n (pc := 637) d_L_637 rfl ?_
  refine oe_iload_n (pc := 638) d_L_638 rfl ?_
  refine oe_iconst (pc := 639) (v := 4) d_L_639 rfl ?_
  refine oe_iadd (pc := 640) d_L_640 ?_
  refine oe_sld (pc := 641) d_L_641 g4 ?_
  refine oe_callV (pc := 642) (ci := 12) d_L_642 hm2 hd2 ml_L_65 jJ_X12_parts rfl rfl hb2 hs2 ock12 rfl (Nat.le_of_ble_eq_true rfl) ⟨hk2.1, hk3.1⟩ ⟨hk2.2, hk3.2⟩ ?_
  refine oe_icmp_eq (pc := 645) (tgt := 1767) d_L_645 (by decide) (fun _ => ?_) (fun c => absurd rfl c)
  refine oe_iinc (pc := 1767) (v := i + 6) (L2 := [_, _, _, _]) d_L_1767 rfl rfl rfl (Nat.le_of_ble_eq_true rfl) rfl ?_
  exact oe_goto (pc := 1770) (tgt := 18) d_L_1770 (by decide) kk
theorem lc_12 {X : oX} {d d1 d2 : Nat} {i : Int32} {r : Int32} {K K1 K2 K' : oK} {M M1 M2 M' : oM} (g1 : vp_in (i + 1) X.1) (g2 : vp_in (i + 2) X.1) (hm1 : oMet X d1 J_X11_of [.ref 0, .int (X.2 (i + 1).toNatClampNeg), .int (X.2 (i + 2).toNatClampNeg)] K M (some (.int r)) K1 M1) (hm2 : oMet X d2 J_X12_of [.ref 59, .int (X.2 (i + 1).toNatClampNeg), .int (X.2 (i + 2).toNatClampNeg)] K1 M1 (some (.int r)) K2 M2) (hd1 : d1 < d) (hd2 : d2 < d) (hb1 : 0 < K.1) (hs1 : (K.2.2.1 0).1 = 11 + 6) (hb2 : 59 < K1.1) (hs2 : (K1.2.2.1 59).1 = 12 + 6) (hk1 : K.1 ≤ K1.1 ∧ K.2.1 ≤ K1.2.1) (hk2 : K1.1 ≤ K2.1 ∧ K1.2.1 ≤ K2.2.1) (hk3 : K2.1 ≤ K'.1 ∧ K2.2.1 ≤ K'.2.1)
    (kk : oEv X d J_L 18 [some (.ref 1000000), some (.ref 0), some (.ref 59), some (.int (i + 6))] [] K2 M2 (some (.int 1)) K' M') : oEv X d J_L 650 [some (.ref 1000000), some (.ref 0), some (.ref 59), some (.int i)] [] K M (some (.int 1)) K' M' := by
  refine oe_aload_n (pc := 650) d_L_650 rfl ?_
  refine oe_aload_n (pc := 651) d_L_651 rfl ?_
  refine oe_iload_n (pc := 652) d_L_652 rfl ?_
  refine oe_iconst (pc := 653) (v := 1) d_L_653 rfl ?_
  refine oe_iadd (pc := 654) d_L_654 ?_
  refine oe_sld (pc := 655) d_L_655 g1 ?_
  refine oe_aload_n (pc := 656) d_L_656 rfl ?_
  refine oe_iload_n (pc := 657) d_L_657 rfl ?_
  refine oe_iconst (pc := 658) (v := 2) d_L_658 rfl ?_
  refine oe_iadd (pc := 659) d_L_659 ?_
  refine oe_sld (pc := 660) d_L_660 g2 ?_
  refine oe_callV (pc := 661) (ci := 11) d_L_661 hm1 hd1 ml_L_66 jJ_X11_of rfl rfl hb1 hs1 ock11 rfl (Nat.le_of_ble_eq_true rfl) ⟨hk1.1, Nat.le_trans hk2.1 hk3.1⟩ ⟨hk1.2, Nat.le_trans hk2.2 hk3.2⟩ ?_
  refine oe_aload_n (pc := 664) d_L_664 rfl ?_
  refine oe_aload_n (pc := 665) d_L_665 rfl ?_
  refine oe_iload_n (pc := 666) d_L_666 rfl ?_
  refine oe_iconst (pc := 667) (v := 1) d_L_667 rfl ?_
  refine oe_iadd (pc := 668) d_L_668 ?_
  refine oe_sld (pc := 669) d_L_669 g1 ?_
  refine oe_aload_n (pc := 670) d_L_670 rfl ?_
  refine oe_iload_n (pc := 671) d_L_671 rfl ?_
  refine oe_iconst (pc := 672) (v := 2) d_L_672 rfl ?_
  refine oe_iadd (pc := 673) d_L_673 ?_
  refine oe_sld (pc := 674) d_L_674 g2 ?_
  refine oe_callV (pc := 675) (ci := 12) d_L_675 hm2 hd2 ml_L_69 jJ_X12_of rfl rfl hb2 hs2 ock12 rfl (Nat.le_of_ble_eq_true rfl) ⟨hk2.1, hk3.1⟩ ⟨hk2.2, hk3.2⟩ ?_
  refine oe_icmp_eq (pc := 678) (tgt := 1767) d_L_678 (by decide) (fun _ => ?_) (fun c => absurd rfl c)
  refine oe_iinc (pc := 1767) (v := i + 6) (L2 := [_, _, _, _]) d_L_1767 rfl rfl rfl (Nat.le_of_ble_eq_true rfl) rfl ?_
  exact oe_goto (pc := 1770) (tgt := 18) d_L_1770 (by decide) kk
theorem lc_13 {X : oX} {d d1 d2 : Nat} {i : Int32} {r : Int32} {K K1 K2 K' : oK} {M M1 M2 M' : oM} (g1 : vp_in (i + 1) X.1) (g2 : vp_in (i + 2) X.1) (g3 : vp_in (i + 3) X.1) (hm1 : oMet X d1 J_X11_pressure [.ref 0, .int (X.2 (i + 1).toNatClampNeg), .int (X.2 (i + 2).toNatClampNeg), .int (X.2 (i + 3).toNatClampNeg)] K M (some (.int r)) K1 M1) (hm2 : oMet X d2 J_X12_pressure [.ref 59, .int (X.2 (i + 1).toNatClampNeg), .int (X.2 (i + 2).toNatClampNeg), .int (X.2 (i + 3).toNatClampNeg)] K1 M1 (some (.int r)) K2 M2) (hd1 : d1 < d) (hd2 : d2 < d) (hb1 : 0 < K.1) (hs1 : (K.2.2.1 0).1 = 11 + 6) (hb2 : 59 < K1.1) (hs2 : (K1.2.2.1 59).1 = 12 + 6) (hk1 : K.1 ≤ K1.1 ∧ K.2.1 ≤ K1.2.1) (hk2 : K1.1 ≤ K2.1 ∧ K1.2.1 ≤ K2.2.1) (hk3 : K2.1 ≤ K'.1 ∧ K2.2.1 ≤ K'.2.1)
    (kk : oEv X d J_L 18 [some (.ref 1000000), some (.ref 0), some (.ref 59), some (.int (i + 6))] [] K2 M2 (some (.int 1)) K' M') : oEv X d J_L 683 [some (.ref 1000000), some (.ref 0), some (.ref 59), some (.int i)] [] K M (some (.int 1)) K' M' := by
  refine oe_aload_n (pc := 683) d_L_683 rfl ?_
  refine oe_aload_n (pc := 684) d_L_684 rfl ?_
  refine oe_iload_n (pc := 685) d_L_685 rfl ?_
  refine oe_iconst (pc := 686) (v := 1) d_L_686 rfl ?_
  refine oe_iadd (pc := 687) d_L_687 ?_
  refine oe_sld (pc := 688) d_L_688 g1 ?_
  refine oe_aload_n (pc := 689) d_L_689 rfl ?_
  refine oe_iload_n (pc := 690) d_L_690 rfl ?_
  refine oe_iconst (pc := 691) (v := 2) d_L_691 rfl ?_
  refine oe_iadd (pc := 692) d_L_692 ?_
  refine oe_sld (pc := 693) d_L_693 g2 ?_
  refine oe_aload_n (pc := 694) d_L_694 rfl ?_
  refine oe_iload_n (pc := 695) d_L_695 rfl ?_
  refine oe_iconst (pc := 696) (v := 3) d_L_696 rfl ?_
  refine oe_iadd (pc := 697) d_L_697 ?_
  refine oe_sld (pc := 698) d_L_698 g3 ?_
  refine oe_callV (pc := 699) (ci := 11) d_L_699 hm1 hd1 ml_L_70 jJ_X11_pressure rfl rfl hb1 hs1 ock11 rfl (Nat.le_of_ble_eq_true rfl) ⟨hk1.1, Nat.le_trans hk2.1 hk3.1⟩ ⟨hk1.2, Nat.le_trans hk2.2 hk3.2⟩ ?_
  refine oe_aload_n (pc := 702) d_L_702 rfl ?_
  refine oe_aload_n (pc := 703) d_L_703 rfl ?_
  refine oe_iload_n (pc := 704) d_L_704 rfl ?_
  refine oe_iconst (pc := 705) (v := 1) d_L_705 rfl ?_
  refine oe_iadd (pc := 706) d_L_706 ?_
  refine oe_sld (pc := 707) d_L_707 g1 ?_
  refine oe_aload_n (pc := 708) d_L_708 rfl ?_
  refine oe_iload_n (pc := 709) d_L_709 rfl ?_
  refine oe_iconst (pc := 710) (v := 2) d_L_710 rfl ?_
  refine oe_iadd (pc := 711) d_L_711 ?_
  refine oe_sld (pc := 712) d_L_712 g2 ?_
  refine oe_aload_n (pc := 713) d_L_713 rfl ?_
  refine oe_iload_n (pc := 714) d_L_714 rfl ?_
  refine oe_iconst (pc := 715) (v := 3) d_L_715 rfl ?_
  refine oe_iadd (pc := 716) d_L_716 ?_
  refine oe_sld (pc := 717) d_L_717 g3 ?_
  refine oe_callV (pc := 718) (ci := 12) d_L_718 hm2 hd2 ml_L_73 jJ_X12_pressure rfl rfl hb2 hs2 ock12 rfl (Nat.le_of_ble_eq_true rfl) ⟨hk2.1, hk3.1⟩ ⟨hk2.2, hk3.2⟩ ?_
  refine oe_icmp_eq (pc := 721) (tgt := 1767) d_L_721 (by decide) (fun _ => ?_) (fun c => absurd rfl c)
  refine oe_iinc (pc := 1767) (v := i + 6) (L2 := [_, _, _, _]) d_L_1767 rfl rfl rfl (Nat.le_of_ble_eq_true rfl) rfl ?_
  exact oe_goto (pc := 1770) (tgt := 18) d_L_1770 (by decide) kk
theorem lc_14 {X : oX} {d d1 d2 : Nat} {i : Int32} {r : Int32} {K K1 K2 K' : oK} {M M1 M2 M' : oM} (g1 : vp_in (i + 1) X.1) (g2 : vp_in (i + 2) X.1) (hm1 : oMet X d1 J_X11_flow [.ref 0, .int (X.2 (i + 1).toNatClampNeg), .int (X.2 (i + 2).toNatClampNeg)] K M (some (.int r)) K1 M1) (hm2 : oMet X d2 J_X12_flow [.ref 59, .int (X.2 (i + 1).toNatClampNeg), .int (X.2 (i + 2).toNatClampNeg)] K1 M1 (some (.int r)) K2 M2) (hd1 : d1 < d) (hd2 : d2 < d) (hb1 : 0 < K.1) (hs1 : (K.2.2.1 0).1 = 11 + 6) (hb2 : 59 < K1.1) (hs2 : (K1.2.2.1 59).1 = 12 + 6) (hk1 : K.1 ≤ K1.1 ∧ K.2.1 ≤ K1.2.1) (hk2 : K1.1 ≤ K2.1 ∧ K1.2.1 ≤ K2.2.1) (hk3 : K2.1 ≤ K'.1 ∧ K2.2.1 ≤ K'.2.1)
    (kk : oEv X d J_L 18 [some (.ref 1000000), some (.ref 0), some (.ref 59), some (.int (i + 6))] [] K2 M2 (some (.int 1)) K' M') : oEv X d J_L 726 [some (.ref 1000000), some (.ref 0), some (.ref 59), some (.int i)] [] K M (some (.int 1)) K' M' := by
  refine oe_aload_n (pc := 726) d_L_726 rfl ?_
  refine oe_aload_n (pc := 727) d_L_727 rfl ?_
  refine oe_iload_n (pc := 728) d_L_728 rfl ?_
  refine oe_iconst (pc := 729) (v := 1) d_L_729 rfl ?_
  refine oe_iadd (pc := 730) d_L_730 ?_
  refine oe_sld (pc := 731) d_L_731 g1 ?_
  refine oe_aload_n (pc := 732) d_L_732 rfl ?_
  refine oe_iload_n (pc := 733) d_L_733 rfl ?_
  refine oe_iconst (pc := 734) (v := 2) d_L_734 rfl ?_
  refine oe_iadd (pc := 735) d_L_735 ?_
  refine oe_sld (pc := 736) d_L_736 g2 ?_
  refine oe_callV (pc := 737) (ci := 11) d_L_737 hm1 hd1 ml_L_74 jJ_X11_flow rfl rfl hb1 hs1 ock11 rfl (Nat.le_of_ble_eq_true rfl) ⟨hk1.1, Nat.le_trans hk2.1 hk3.1⟩ ⟨hk1.2, Nat.le_trans hk2.2 hk3.2⟩ ?_
  refine oe_aload_n (pc := 740) d_L_740 rfl ?_
  refine oe_aload_n (pc := 741) d_L_741 rfl ?_
  refine oe_iload_n (pc := 742) d_L_742 rfl ?_
  refine oe_iconst (pc := 743) (v := 1) d_L_743 rfl ?_
  refine oe_iadd (pc := 744) d_L_744 ?_
  refine oe_sld (pc := 745) d_L_745 g1 ?_
  refine oe_aload_n (pc := 746) d_L_746 rfl ?_
  refine oe_iload_n (pc := 747) d_L_747 rfl ?_
  refine oe_iconst (pc := 748) (v := 2) d_L_748 rfl ?_
  refine oe_iadd (pc := 749) d_L_749 ?_
  refine oe_sld (pc := 750) d_L_750 g2 ?_
  refine oe_callV (pc := 751) (ci := 12) d_L_751 hm2 hd2 ml_L_77 jJ_X12_flow rfl rfl hb2 hs2 ock12 rfl (Nat.le_of_ble_eq_true rfl) ⟨hk2.1, hk3.1⟩ ⟨hk2.2, hk3.2⟩ ?_
  refine oe_icmp_eq (pc := 754) (tgt := 1767) d_L_754 (by decide) (fun _ => ?_) (fun c => absurd rfl c)
  refine oe_iinc (pc := 1767) (v := i + 6) (L2 := [_, _, _, _]) d_L_1767 rfl rfl rfl (Nat.le_of_ble_eq_true rfl) rfl ?_
  exact oe_goto (pc := 1770) (tgt := 18) d_L_1770 (by decide) kk
theorem lc_15 {X : oX} {d d1 d2 : Nat} {i : Int32} {r : Int32} {K K1 K2 K' : oK} {M M1 M2 M' : oM} (g1 : vp_in (i + 1) X.1) (g2 : vp_in (i + 2) X.1) (g3 : vp_in (i + 3) X.1) (hm1 : oMet X d1 J_X11_judge [.ref 0, .int (X.2 (i + 1).toNatClampNeg), .int (X.2 (i + 2).toNatClampNeg), .int (X.2 (i + 3).toNatClampNeg)] K M (some (.int r)) K1 M1) (hm2 : oMet X d2 J_X12_judge [.ref 59, .int (X.2 (i + 1).toNatClampNeg), .int (X.2 (i + 2).toNatClampNeg), .int (X.2 (i + 3).toNatClampNeg)] K1 M1 (some (.int r)) K2 M2) (hd1 : d1 < d) (hd2 : d2 < d) (hb1 : 0 < K.1) (hs1 : (K.2.2.1 0).1 = 11 + 6) (hb2 : 59 < K1.1) (hs2 : (K1.2.2.1 59).1 = 12 + 6) (hk1 : K.1 ≤ K1.1 ∧ K.2.1 ≤ K1.2.1) (hk2 : K1.1 ≤ K2.1 ∧ K1.2.1 ≤ K2.2.1) (hk3 : K2.1 ≤ K'.1 ∧ K2.2.1 ≤ K'.2.1)
    (kk : oEv X d J_L 18 [some (.ref 1000000), some (.ref 0), some (.ref 59), some (.int (i + 6))] [] K2 M2 (some (.int 1)) K' M') : oEv X d J_L 759 [some (.ref 1000000), some (.ref 0), some (.ref 59), some (.int i)] [] K M (some (.int 1)) K' M' := by
  refine oe_aload_n (pc := 759) d_L_759 rfl ?_
  refine oe_aload_n (pc := 760) d_L_760 rfl ?_
  refine oe_iload_n (pc := 761) d_L_761 rfl ?_
  refine oe_iconst (pc := 762) (v := 1) d_L_762 rfl ?_
  refine oe_iadd (pc := 763) d_L_763 ?_
  refine oe_sld (pc := 764) d_L_764 g1 ?_
  refine oe_aload_n (pc := 765) d_L_765 rfl ?_
  refine oe_iload_n (pc := 766) d_L_766 rfl ?_
  refine oe_iconst (pc := 767) (v := 2) d_L_767 rfl ?_
  refine oe_iadd (pc := 768) d_L_768 ?_
  refine oe_sld (pc := 769) d_L_769 g2 ?_
  refine oe_aload_n (pc := 770) d_L_770 rfl ?_
  refine oe_iload_n (pc := 771) d_L_771 rfl ?_
  refine oe_iconst (pc := 772) (v := 3) d_L_772 rfl ?_
  refine oe_iadd (pc := 773) d_L_773 ?_
  refine oe_sld (pc := 774) d_L_774 g3 ?_
  refine oe_callV (pc := 775) (ci := 11) d_L_775 hm1 hd1 ml_L_78 jJ_X11_judge rfl rfl hb1 hs1 ock11 rfl (Nat.le_of_ble_eq_true rfl) ⟨hk1.1, Nat.le_trans hk2.1 hk3.1⟩ ⟨hk1.2, Nat.le_trans hk2.2 hk3.2⟩ ?_
  refine oe_aload_n (pc := 778) d_L_778 rfl ?_
  refine oe_aload_n (pc := 779) d_L_779 rfl ?_
  refine oe_iload_n (pc := 780) d_L_780 rfl ?_
  refine oe_iconst (pc := 781) (v := 1) d_L_781 rfl ?_
  refine oe_iadd (pc := 782) d_L_782 ?_
  refine oe_sld (pc := 783) d_L_783 g1 ?_
  refine oe_aload_n (pc := 784) d_L_784 rfl ?_
  refine oe_iload_n (pc := 785) d_L_785 rfl ?_
  refine oe_iconst (pc := 786) (v := 2) d_L_786 rfl ?_
  refine oe_iadd (pc := 787) d_L_787 ?_
  refine oe_sld (pc := 788) d_L_788 g2 ?_
  refine oe_aload_n (pc := 789) d_L_789 rfl ?_
  refine oe_iload_n (pc := 790) d_L_790 rfl ?_
  refine oe_iconst (pc := 791) (v := 3) d_L_791 rfl ?_
  refine oe_iadd (pc := 792) d_L_792 ?_
  refine oe_sld (pc := 793) d_L_793 g3 ?_
  refine oe_callV (pc := 794) (ci := 12) d_L_794 hm2 hd2 ml_L_81 jJ_X12_judge rfl rfl hb2 hs2 ock12 rfl (Nat.le_of_ble_eq_true rfl) ⟨hk2.1, hk3.1⟩ ⟨hk2.2, hk3.2⟩ ?_
  refine oe_icmp_eq (pc := 797) (tgt := 1767) d_L_797 (by decide) (fun _ => ?_) (fun c => absurd rfl c)
  refine oe_iinc (pc := 1767) (v := i + 6) (L2 := [_, _, _, _]) d_L_1767 rfl rfl rfl (Nat.le_of_ble_eq_true rfl) rfl ?_
  exact oe_goto (pc := 1770) (tgt := 18) d_L_1770 (by decide) kk
theorem lc_16 {X : oX} {d d1 d2 : Nat} {i : Int32} {r : Int32} {K K1 K2 K' : oK} {M M1 M2 M' : oM} (g1 : vp_in (i + 1) X.1) (g2 : vp_in (i + 2) X.1) (hm1 : oMet X d1 J_X11_bound [.ref 0, .int (X.2 (i + 1).toNatClampNeg), .int (X.2 (i + 2).toNatClampNeg)] K M (some (.int r)) K1 M1) (hm2 : oMet X d2 J_X12_bound [.ref 59, .int (X.2 (i + 1).toNatClampNeg), .int (X.2 (i + 2).toNatClampNeg)] K1 M1 (some (.int r)) K2 M2) (hd1 : d1 < d) (hd2 : d2 < d) (hb1 : 0 < K.1) (hs1 : (K.2.2.1 0).1 = 11 + 6) (hb2 : 59 < K1.1) (hs2 : (K1.2.2.1 59).1 = 12 + 6) (hk1 : K.1 ≤ K1.1 ∧ K.2.1 ≤ K1.2.1) (hk2 : K1.1 ≤ K2.1 ∧ K1.2.1 ≤ K2.2.1) (hk3 : K2.1 ≤ K'.1 ∧ K2.2.1 ≤ K'.2.1)
    (kk : oEv X d J_L 18 [some (.ref 1000000), some (.ref 0), some (.ref 59), some (.int (i + 6))] [] K2 M2 (some (.int 1)) K' M') : oEv X d J_L 802 [some (.ref 1000000), some (.ref 0), some (.ref 59), some (.int i)] [] K M (some (.int 1)) K' M' := by
  refine oe_aload_n (pc := 802) d_L_802 rfl ?_
  refine oe_aload_n (pc := 803) d_L_803 rfl ?_
  refine oe_iload_n (pc := 804) d_L_804 rfl ?_
  refine oe_iconst (pc := 805) (v := 1) d_L_805 rfl ?_
  refine oe_iadd (pc := 806) d_L_806 ?_
  refine oe_sld (pc := 807) d_L_807 g1 ?_
  refine oe_aload_n (pc := 808) d_L_808 rfl ?_
  refine oe_iload_n (pc := 809) d_L_809 rfl ?_
  refine oe_iconst (pc := 810) (v := 2) d_L_810 rfl ?_
  refine oe_iadd (pc := 811) d_L_811 ?_
  refine oe_sld (pc := 812) d_L_812 g2 ?_
  refine oe_callV (pc := 813) (ci := 11) d_L_813 hm1 hd1 ml_L_82 jJ_X11_bound rfl rfl hb1 hs1 ock11 rfl (Nat.le_of_ble_eq_true rfl) ⟨hk1.1, Nat.le_trans hk2.1 hk3.1⟩ ⟨hk1.2, Nat.le_trans hk2.2 hk3.2⟩ ?_
  refine oe_aload_n (pc := 816) d_L_816 rfl ?_
  refine oe_aload_n (pc := 817) d_L_817 rfl ?_
  refine oe_iload_n (pc := 818) d_L_818 rfl ?_
  refine oe_iconst (pc := 819) (v := 1) d_L_819 rfl ?_
  refine oe_iadd (pc := 820) d_L_820 ?_
  refine oe_sld (pc := 821) d_L_821 g1 ?_
  refine oe_aload_n (pc := 822) d_L_822 rfl ?_
  refine oe_iload_n (pc := 823) d_L_823 rfl ?_
  refine oe_iconst (pc := 824) (v := 2) d_L_824 rfl ?_
  refine oe_iadd (pc := 825) d_L_825 ?_
  refine oe_sld (pc := 826) d_L_826 g2 ?_
  refine oe_callV (pc := 827) (ci := 12) d_L_827 hm2 hd2 ml_L_85 jJ_X12_bound rfl rfl hb2 hs2 ock12 rfl (Nat.le_of_ble_eq_true rfl) ⟨hk2.1, hk3.1⟩ ⟨hk2.2, hk3.2⟩ ?_
  refine oe_icmp_eq (pc := 830) (tgt := 1767) d_L_830 (by decide) (fun _ => ?_) (fun c => absurd rfl c)
  refine oe_iinc (pc := 1767) (v := i + 6) (L2 := [_, _, _, _]) d_L_1767 rfl rfl rfl (Nat.le_of_ble_eq_true rfl) rfl ?_
  exact oe_goto (pc := 1770) (tgt := 18) d_L_1770 (by decide) kk
theorem lc_17 {X : oX} {d d1 d2 : Nat} {i : Int32} {r : Int32} {K K1 K2 K' : oK} {M M1 M2 M' : oM} (g1 : vp_in (i + 1) X.1) (g2 : vp_in (i + 2) X.1) (g3 : vp_in (i + 3) X.1) (hm1 : oMet X d1 J_X11_most [.ref 0, .int (X.2 (i + 1).toNatClampNeg), .int (X.2 (i + 2).toNatClampNeg), .int (X.2 (i + 3).toNatClampNeg)] K M (some (.int r)) K1 M1) (hm2 : oMet X d2 J_X12_most [.ref 59, .int (X.2 (i + 1).toNatClampNeg), .int (X.2 (i + 2).toNatClampNeg), .int (X.2 (i + 3).toNatClampNeg)] K1 M1 (some (.int r)) K2 M2) (hd1 : d1 < d) (hd2 : d2 < d) (hb1 : 0 < K.1) (hs1 : (K.2.2.1 0).1 = 11 + 6) (hb2 : 59 < K1.1) (hs2 : (K1.2.2.1 59).1 = 12 + 6) (hk1 : K.1 ≤ K1.1 ∧ K.2.1 ≤ K1.2.1) (hk2 : K1.1 ≤ K2.1 ∧ K1.2.1 ≤ K2.2.1) (hk3 : K2.1 ≤ K'.1 ∧ K2.2.1 ≤ K'.2.1)
    (kk : oEv X d J_L 18 [some (.ref 1000000), some (.ref 0), some (.ref 59), some (.int (i + 6))] [] K2 M2 (some (.int 1)) K' M') : oEv X d J_L 835 [some (.ref 1000000), some (.ref 0), some (.ref 59), some (.int i)] [] K M (some (.int 1)) K' M' := by
  refine oe_aload_n (pc := 835) d_L_835 rfl ?_
  refine oe_aload_n (pc := 836) d_L_836 rfl ?_
  refine oe_iload_n (pc := 837) d_L_837 rfl ?_
  refine oe_iconst (pc := 838) (v := 1) d_L_838 rfl ?_
  refine oe_iadd (pc := 839) d_L_839 ?_
  refine oe_sld (pc := 840) d_L_840 g1 ?_
  refine oe_aload_n (pc := 841) d_L_841 rfl ?_
  refine oe_iload_n (pc := 842) d_L_842 rfl ?_
  refine oe_iconst (pc := 843) (v := 2) d_L_843 rfl ?_
  refine oe_iadd (pc := 844) d_L_844 ?_
  refine oe_sld (pc := 845) d_L_845 g2 ?_
  refine oe_aload_n (pc := 846) d_L_846 rfl ?_
  refine oe_iload_n (pc := 847) d_L_847 rfl ?_
  refine oe_iconst (pc := 848) (v := 3) d_L_848 rfl ?_
  refine oe_iadd (pc := 849) d_L_849 ?_
  refine oe_sld (pc := 850) d_L_850 g3 ?_
  refine oe_callV (pc := 851) (ci := 11) d_L_851 hm1 hd1 ml_L_86 jJ_X11_most rfl rfl hb1 hs1 ock11 rfl (Nat.le_of_ble_eq_true rfl) ⟨hk1.1, Nat.le_trans hk2.1 hk3.1⟩ ⟨hk1.2, Nat.le_trans hk2.2 hk3.2⟩ ?_
  refine oe_aload_n (pc := 854) d_L_854 rfl ?_
  refine oe_aload_n (pc := 855) d_L_855 rfl ?_
  refine oe_iload_n (pc := 856) d_L_856 rfl ?_
  refine oe_iconst (pc := 857) (v := 1) d_L_857 rfl ?_
  refine oe_iadd (pc := 858) d_L_858 ?_
  refine oe_sld (pc := 859) d_L_859 g1 ?_
  refine oe_aload_n (pc := 860) d_L_860 rfl ?_
  refine oe_iload_n (pc := 861) d_L_861 rfl ?_
  refine oe_iconst (pc := 862) (v := 2) d_L_862 rfl ?_
  refine oe_iadd (pc := 863) d_L_863 ?_
  refine oe_sld (pc := 864) d_L_864 g2 ?_
  refine oe_aload_n (pc := 865) d_L_865 rfl ?_
  refine oe_iload_n (pc := 866) d_L_866 rfl ?_
  refine oe_iconst (pc := 867) (v := 3) d_L_867 rfl ?_
  refine oe_iadd (pc := 868) d_L_868 ?_
  refine oe_sld (pc := 869) d_L_869 g3 ?_
  refine oe_callV (pc := 870) (ci := 12) d_L_870 hm2 hd2 ml_L_89 jJ_X12_most rfl rfl hb2 hs2 ock12 rfl (Nat.le_of_ble_eq_true rfl) ⟨hk2.1, hk3.1⟩ ⟨hk2.2, hk3.2⟩ ?_
  refine oe_icmp_eq (pc := 873) (tgt := 1767) d_L_873 (by decide) (fun _ => ?_) (fun c => absurd rfl c)
  refine oe_iinc (pc := 1767) (v := i + 6) (L2 := [_, _, _, _]) d_L_1767 rfl rfl rfl (Nat.le_of_ble_eq_true rfl) rfl ?_
  exact oe_goto (pc := 1770) (tgt := 18) d_L_1770 (by decide) kk
theorem lc_18 {X : oX} {d d1 d2 : Nat} {i : Int32} {r : Int32} {K K1 K2 K' : oK} {M M1 M2 M' : oM} (g1 : vp_in (i + 1) X.1) (g2 : vp_in (i + 2) X.1) (g3 : vp_in (i + 3) X.1) (hm1 : oMet X d1 J_X11_worth [.ref 0, .int (X.2 (i + 1).toNatClampNeg), .int (X.2 (i + 2).toNatClampNeg), .int (X.2 (i + 3).toNatClampNeg)] K M (some (.int r)) K1 M1) (hm2 : oMet X d2 J_X12_worth [.ref 59, .int (X.2 (i + 1).toNatClampNeg), .int (X.2 (i + 2).toNatClampNeg), .int (X.2 (i + 3).toNatClampNeg)] K1 M1 (some (.int r)) K2 M2) (hd1 : d1 < d) (hd2 : d2 < d) (hb1 : 0 < K.1) (hs1 : (K.2.2.1 0).1 = 11 + 6) (hb2 : 59 < K1.1) (hs2 : (K1.2.2.1 59).1 = 12 + 6) (hk1 : K.1 ≤ K1.1 ∧ K.2.1 ≤ K1.2.1) (hk2 : K1.1 ≤ K2.1 ∧ K1.2.1 ≤ K2.2.1) (hk3 : K2.1 ≤ K'.1 ∧ K2.2.1 ≤ K'.2.1)
    (kk : oEv X d J_L 18 [some (.ref 1000000), some (.ref 0), some (.ref 59), some (.int (i + 6))] [] K2 M2 (some (.int 1)) K' M') : oEv X d J_L 878 [some (.ref 1000000), some (.ref 0), some (.ref 59), some (.int i)] [] K M (some (.int 1)) K' M' := by
  refine oe_aload_n (pc := 878) d_L_878 rfl ?_
  refine oe_aload_n (pc := 879) d_L_879 rfl ?_
  refine oe_iload_n (pc := 880) d_L_880 rfl ?_
  refine oe_iconst (pc := 881) (v := 1) d_L_881 rfl ?_
  refine oe_iadd (pc := 882) d_L_882 ?_
  refine oe_sld (pc := 883) d_L_883 g1 ?_
  refine oe_aload_n (pc := 884) d_L_884 rfl ?_
  refine oe_iload_n (pc := 885) d_L_885 rfl ?_
  refine oe_iconst (pc := 886) (v := 2) d_L_886 rfl ?_
  refine oe_iadd (pc := 887) d_L_887 ?_
  refine oe_sld (pc := 888) d_L_888 g2 ?_
  refine oe_aload_n (pc := 889) d_L_889 rfl ?_
  refine oe_iload_n (pc := 890) d_L_890 rfl ?_
  refine oe_iconst (pc := 891) (v := 3) d_L_891 rfl ?_
  refine oe_iadd (pc := 892) d_L_892 ?_
  refine oe_sld (pc := 893) d_L_893 g3 ?_
  refine oe_callV (pc := 894) (ci := 11) d_L_894 hm1 hd1 ml_L_90 jJ_X11_worth rfl rfl hb1 hs1 ock11 rfl (Nat.le_of_ble_eq_true rfl) ⟨hk1.1, Nat.le_trans hk2.1 hk3.1⟩ ⟨hk1.2, Nat.le_trans hk2.2 hk3.2⟩ ?_
  refine oe_aload_n (pc := 897) d_L_897 rfl ?_
  refine oe_aload_n (pc := 898) d_L_898 rfl ?_
  refine oe_iload_n (pc := 899) d_L_899 rfl ?_
  refine oe_iconst (pc := 900) (v := 1) d_L_900 rfl ?_
  refine oe_iadd (pc := 901) d_L_901 ?_
  refine oe_sld (pc := 902) d_L_902 g1 ?_
  refine oe_aload_n (pc := 903) d_L_903 rfl ?_
  refine oe_iload_n (pc := 904) d_L_904 rfl ?_
  refine oe_iconst (pc := 905) (v := 2) d_L_905 rfl ?_
  refine oe_iadd (pc := 906) d_L_906 ?_
  refine oe_sld (pc := 907) d_L_907 g2 ?_
  refine oe_aload_n (pc := 908) d_L_908 rfl ?_
  refine oe_iload_n (pc := 909) d_L_909 rfl ?_
  refine oe_iconst (pc := 910) (v := 3) d_L_910 rfl ?_
  refine oe_iadd (pc := 911) d_L_911 ?_
  refine oe_sld (pc := 912) d_L_912 g3 ?_
  refine oe_callV (pc := 913) (ci := 12) d_L_913 hm2 hd2 ml_L_93 jJ_X12_worth rfl rfl hb2 hs2 ock12 rfl (Nat.le_of_ble_eq_true rfl) ⟨hk2.1, hk3.1⟩ ⟨hk2.2, hk3.2⟩ ?_
  refine oe_icmp_eq (pc := 916) (tgt := 1767) d_L_916 (by decide) (fun _ => ?_) (fun c => absurd rfl c)
  refine oe_iinc (pc := 1767) (v := i + 6) (L2 := [_, _, _, _]) d_L_1767 rfl rfl rfl (Nat.le_of_ble_eq_true rfl) rfl ?_
  exact oe_goto (pc := 1770) (tgt := 18) d_L_1770 (by decide) kk
theorem lc_19 {X : oX} {d d1 d2 : Nat} {i : Int32} {r : Int32} {K K1 K2 K' : oK} {M M1 M2 M' : oM} (g1 : vp_in (i + 1) X.1) (g2 : vp_in (i + 2) X.1) (g3 : vp_in (i + 3) X.1) (hm1 : oMet X d1 J_X11_helps [.ref 0, .int (X.2 (i + 1).toNatClampNeg), .int (X.2 (i + 2).toNatClampNeg), .int (X.2 (i + 3).toNatClampNeg)] K M (some (.int r)) K1 M1) (hm2 : oMet X d2 J_X12_helps [.ref 59, .int (X.2 (i + 1).toNatClampNeg), .int (X.2 (i + 2).toNatClampNeg), .int (X.2 (i + 3).toNatClampNeg)] K1 M1 (some (.int r)) K2 M2) (hd1 : d1 < d) (hd2 : d2 < d) (hb1 : 0 < K.1) (hs1 : (K.2.2.1 0).1 = 11 + 6) (hb2 : 59 < K1.1) (hs2 : (K1.2.2.1 59).1 = 12 + 6) (hk1 : K.1 ≤ K1.1 ∧ K.2.1 ≤ K1.2.1) (hk2 : K1.1 ≤ K2.1 ∧ K1.2.1 ≤ K2.2.1) (hk3 : K2.1 ≤ K'.1 ∧ K2.2.1 ≤ K'.2.1)
    (kk : oEv X d J_L 18 [some (.ref 1000000), some (.ref 0), some (.ref 59), some (.int (i + 6))] [] K2 M2 (some (.int 1)) K' M') : oEv X d J_L 921 [some (.ref 1000000), some (.ref 0), some (.ref 59), some (.int i)] [] K M (some (.int 1)) K' M' := by
  refine oe_aload_n (pc := 921) d_L_921 rfl ?_
  refine oe_aload_n (pc := 922) d_L_922 rfl ?_
  refine oe_iload_n (pc := 923) d_L_923 rfl ?_
  refine oe_iconst (pc := 924) (v := 1) d_L_924 rfl ?_
  refine oe_iadd (pc := 925) d_L_925 ?_
  refine oe_sld (pc := 926) d_L_926 g1 ?_
  refine oe_aload_n (pc := 927) d_L_927 rfl ?_
  refine oe_iload_n (pc := 928) d_L_928 rfl ?_
  refine oe_iconst (pc := 929) (v := 2) d_L_929 rfl ?_
  refine oe_iadd (pc := 930) d_L_930 ?_
  refine oe_sld (pc := 931) d_L_931 g2 ?_
  refine oe_aload_n (pc := 932) d_L_932 rfl ?_
  refine oe_iload_n (pc := 933) d_L_933 rfl ?_
  refine oe_iconst (pc := 934) (v := 3) d_L_934 rfl ?_
  refine oe_iadd (pc := 935) d_L_935 ?_
  refine oe_sld (pc := 936) d_L_936 g3 ?_
  refine oe_callV (pc := 937) (ci := 11) d_L_937 hm1 hd1 ml_L_94 jJ_X11_helps rfl rfl hb1 hs1 ock11 rfl (Nat.le_of_ble_eq_true rfl) ⟨hk1.1, Nat.le_trans hk2.1 hk3.1⟩ ⟨hk1.2, Nat.le_trans hk2.2 hk3.2⟩ ?_
  refine oe_aload_n (pc := 940) d_L_940 rfl ?_
  refine oe_aload_n (pc := 941) d_L_941 rfl ?_
  refine oe_iload_n (pc := 942) d_L_942 rfl ?_
  refine oe_iconst (pc := 943) (v := 1) d_L_943 rfl ?_
  refine oe_iadd (pc := 944) d_L_944 ?_
  refine oe_sld (pc := 945) d_L_945 g1 ?_
  refine oe_aload_n (pc := 946) d_L_946 rfl ?_
  refine oe_iload_n (pc := 947) d_L_947 rfl ?_
  refine oe_iconst (pc := 948) (v := 2) d_L_948 rfl ?_
  refine oe_iadd (pc := 949) d_L_949 ?_
  refine oe_sld (pc := 950) d_L_950 g2 ?_
  refine oe_aload_n (pc := 951) d_L_951 rfl ?_
  refine oe_iload_n (pc := 952) d_L_952 rfl ?_
  refine oe_iconst (pc := 953) (v := 3) d_L_953 rfl ?_
  refine oe_iadd (pc := 954) d_L_954 ?_
  refine oe_sld (pc := 955) d_L_955 g3 ?_
  refine oe_callV (pc := 956) (ci := 12) d_L_956 hm2 hd2 ml_L_97 jJ_X12_helps rfl rfl hb2 hs2 ock12 rfl (Nat.le_of_ble_eq_true rfl) ⟨hk2.1, hk3.1⟩ ⟨hk2.2, hk3.2⟩ ?_
  refine oe_icmp_eq (pc := 959) (tgt := 1767) d_L_959 (by decide) (fun _ => ?_) (fun c => absurd rfl c)
  refine oe_iinc (pc := 1767) (v := i + 6) (L2 := [_, _, _, _]) d_L_1767 rfl rfl rfl (Nat.le_of_ble_eq_true rfl) rfl ?_
  exact oe_goto (pc := 1770) (tgt := 18) d_L_1770 (by decide) kk
theorem lc_20 {X : oX} {d d1 d2 : Nat} {i : Int32} {r : Int32} {K K1 K2 K' : oK} {M M1 M2 M' : oM} (g1 : vp_in (i + 1) X.1) (g2 : vp_in (i + 2) X.1) (g3 : vp_in (i + 3) X.1) (hm1 : oMet X d1 J_X11_goes [.ref 0, .int (X.2 (i + 1).toNatClampNeg), .int (X.2 (i + 2).toNatClampNeg), .int (X.2 (i + 3).toNatClampNeg)] K M (some (.int r)) K1 M1) (hm2 : oMet X d2 J_X12_goes [.ref 59, .int (X.2 (i + 1).toNatClampNeg), .int (X.2 (i + 2).toNatClampNeg), .int (X.2 (i + 3).toNatClampNeg)] K1 M1 (some (.int r)) K2 M2) (hd1 : d1 < d) (hd2 : d2 < d) (hb1 : 0 < K.1) (hs1 : (K.2.2.1 0).1 = 11 + 6) (hb2 : 59 < K1.1) (hs2 : (K1.2.2.1 59).1 = 12 + 6) (hk1 : K.1 ≤ K1.1 ∧ K.2.1 ≤ K1.2.1) (hk2 : K1.1 ≤ K2.1 ∧ K1.2.1 ≤ K2.2.1) (hk3 : K2.1 ≤ K'.1 ∧ K2.2.1 ≤ K'.2.1)
    (kk : oEv X d J_L 18 [some (.ref 1000000), some (.ref 0), some (.ref 59), some (.int (i + 6))] [] K2 M2 (some (.int 1)) K' M') : oEv X d J_L 964 [some (.ref 1000000), some (.ref 0), some (.ref 59), some (.int i)] [] K M (some (.int 1)) K' M' := by
  refine oe_aload_n (pc := 964) d_L_964 rfl ?_
  refine oe_aload_n (pc := 965) d_L_965 rfl ?_
  refine oe_iload_n (pc := 966) d_L_966 rfl ?_
  refine oe_iconst (pc := 967) (v := 1) d_L_967 rfl ?_
  refine oe_iadd (pc := 968) d_L_968 ?_
  refine oe_sld (pc := 969) d_L_969 g1 ?_
  refine oe_aload_n (pc := 970) d_L_970 rfl ?_
  refine oe_iload_n (pc := 971) d_L_971 rfl ?_
  refine oe_iconst (pc := 972) (v := 2) d_L_972 rfl ?_
  refine oe_iadd (pc := 973) d_L_973 ?_
  refine oe_sld (pc := 974) d_L_974 g2 ?_
  refine oe_aload_n (pc := 975) d_L_975 rfl ?_
  refine oe_iload_n (pc := 976) d_L_976 rfl ?_
  refine oe_iconst (pc := 977) (v := 3) d_L_977 rfl ?_
  refine oe_iadd (pc := 978) d_L_978 ?_
  refine oe_sld (pc := 979) d_L_979 g3 ?_
  refine oe_callV (pc := 980) (ci := 11) d_L_980 hm1 hd1 ml_L_98 jJ_X11_goes rfl rfl hb1 hs1 ock11 rfl (Nat.le_of_ble_eq_true rfl) ⟨hk1.1, Nat.le_trans hk2.1 hk3.1⟩ ⟨hk1.2, Nat.le_trans hk2.2 hk3.2⟩ ?_
  refine oe_aload_n (pc := 983) d_L_983 rfl ?_
  refine oe_aload_n (pc := 984) d_L_984 rfl ?_
  refine oe_iload_n (pc := 985) d_L_985 rfl ?_
  refine oe_iconst (pc := 986) (v := 1) d_L_986 rfl ?_
  refine oe_iadd (pc := 987) d_L_987 ?_
  refine oe_sld (pc := 988) d_L_988 g1 ?_
  refine oe_aload_n (pc := 989) d_L_989 rfl ?_
  refine oe_iload_n (pc := 990) d_L_990 rfl ?_
  refine oe_iconst (pc := 991) (v := 2) d_L_991 rfl ?_
  refine oe_iadd (pc := 992) d_L_992 ?_
  refine oe_sld (pc := 993) d_L_993 g2 ?_
  refine oe_aload_n (pc := 994) d_L_994 rfl ?_
  refine oe_iload_n (pc := 995) d_L_995 rfl ?_
  refine oe_iconst (pc := 996) (v := 3) d_L_996 rfl ?_
  refine oe_iadd (pc := 997) d_L_997 ?_
  refine oe_sld (pc := 998) d_L_998 g3 ?_
  refine oe_callV (pc := 999) (ci := 12) d_L_999 hm2 hd2 ml_L_101 jJ_X12_goes rfl rfl hb2 hs2 ock12 rfl (Nat.le_of_ble_eq_true rfl) ⟨hk2.1, hk3.1⟩ ⟨hk2.2, hk3.2⟩ ?_
  refine oe_icmp_eq (pc := 1002) (tgt := 1767) d_L_1002 (by decide) (fun _ => ?_) (fun c => absurd rfl c)
  refine oe_iinc (pc := 1767) (v := i + 6) (L2 := [_, _, _, _]) d_L_1767 rfl rfl rfl (Nat.le_of_ble_eq_true rfl) rfl ?_
  exact oe_goto (pc := 1770) (tgt := 18) d_L_1770 (by decide) kk
theorem lc_21 {X : oX} {d d1 d2 : Nat} {i : Int32} {r : Int32} {K K1 K2 K' : oK} {M M1 M2 M' : oM} (g1 : vp_in (i + 1) X.1) (g2 : vp_in (i + 2) X.1) (hm1 : oMet X d1 J_X11_changed [.ref 0, .int (X.2 (i + 1).toNatClampNeg), .int (X.2 (i + 2).toNatClampNeg)] K M (some (.int r)) K1 M1) (hm2 : oMet X d2 J_X12_changed [.ref 59, .int (X.2 (i + 1).toNatClampNeg), .int (X.2 (i + 2).toNatClampNeg)] K1 M1 (some (.int r)) K2 M2) (hd1 : d1 < d) (hd2 : d2 < d) (hb1 : 0 < K.1) (hs1 : (K.2.2.1 0).1 = 11 + 6) (hb2 : 59 < K1.1) (hs2 : (K1.2.2.1 59).1 = 12 + 6) (hk1 : K.1 ≤ K1.1 ∧ K.2.1 ≤ K1.2.1) (hk2 : K1.1 ≤ K2.1 ∧ K1.2.1 ≤ K2.2.1) (hk3 : K2.1 ≤ K'.1 ∧ K2.2.1 ≤ K'.2.1)
    (kk : oEv X d J_L 18 [some (.ref 1000000), some (.ref 0), some (.ref 59), some (.int (i + 6))] [] K2 M2 (some (.int 1)) K' M') : oEv X d J_L 1007 [some (.ref 1000000), some (.ref 0), some (.ref 59), some (.int i)] [] K M (some (.int 1)) K' M' := by
  refine oe_aload_n (pc := 1007) d_L_1007 rfl ?_
  refine oe_aload_n (pc := 1008) d_L_1008 rfl ?_
  refine oe_iload_n (pc := 1009) d_L_1009 rfl ?_
  refine oe_iconst (pc := 1010) (v := 1) d_L_1010 rfl ?_
  refine oe_iadd (pc := 1011) d_L_1011 ?_
  refine oe_sld (pc := 1012) d_L_1012 g1 ?_
  refine oe_aload_n (pc := 1013) d_L_1013 rfl ?_
  refine oe_iload_n (pc := 1014) d_L_1014 rfl ?_
  refine oe_iconst (pc := 1015) (v := 2) d_L_1015 rfl ?_
  refine oe_iadd (pc := 1016) d_L_1016 ?_
  refine oe_sld (pc := 1017) d_L_1017 g2 ?_
  refine oe_callV (pc := 1018) (ci := 11) d_L_1018 hm1 hd1 ml_L_102 jJ_X11_changed rfl rfl hb1 hs1 ock11 rfl (Nat.le_of_ble_eq_true rfl) ⟨hk1.1, Nat.le_trans hk2.1 hk3.1⟩ ⟨hk1.2, Nat.le_trans hk2.2 hk3.2⟩ ?_
  refine oe_aload_n (pc := 1021) d_L_1021 rfl ?_
  refine oe_aload_n (pc := 1022) d_L_1022 rfl ?_
  refine oe_iload_n (pc := 1023) d_L_1023 rfl ?_
  refine oe_iconst (pc := 1024) (v := 1) d_L_1024 rfl ?_
  refine oe_iadd (pc := 1025) d_L_1025 ?_
  refine oe_sld (pc := 1026) d_L_1026 g1 ?_
  refine oe_aload_n (pc := 1027) d_L_1027 rfl ?_
  refine oe_iload_n (pc := 1028) d_L_1028 rfl ?_
  refine oe_iconst (pc := 1029) (v := 2) d_L_1029 rfl ?_
  refine oe_iadd (pc := 1030) d_L_1030 ?_
  refine oe_sld (pc := 1031) d_L_1031 g2 ?_
  refine oe_callV (pc := 1032) (ci := 12) d_L_1032 hm2 hd2 ml_L_105 jJ_X12_changed rfl rfl hb2 hs2 ock12 rfl (Nat.le_of_ble_eq_true rfl) ⟨hk2.1, hk3.1⟩ ⟨hk2.2, hk3.2⟩ ?_
  refine oe_icmp_eq (pc := 1035) (tgt := 1767) d_L_1035 (by decide) (fun _ => ?_) (fun c => absurd rfl c)
  refine oe_iinc (pc := 1767) (v := i + 6) (L2 := [_, _, _, _]) d_L_1767 rfl rfl rfl (Nat.le_of_ble_eq_true rfl) rfl ?_
  exact oe_goto (pc := 1770) (tgt := 18) d_L_1770 (by decide) kk
theorem lc_22 {X : oX} {d d1 d2 : Nat} {i : Int32} {r : Int32} {K K1 K2 K' : oK} {M M1 M2 M' : oM} (g1 : vp_in (i + 1) X.1) (hm1 : oMet X d1 J_X11_load [.ref 0, .int (X.2 (i + 1).toNatClampNeg)] K M (some (.int r)) K1 M1) (hm2 : oMet X d2 J_X12_load [.ref 59, .int (X.2 (i + 1).toNatClampNeg)] K1 M1 (some (.int r)) K2 M2) (hd1 : d1 < d) (hd2 : d2 < d) (hb1 : 0 < K.1) (hs1 : (K.2.2.1 0).1 = 11 + 6) (hb2 : 59 < K1.1) (hs2 : (K1.2.2.1 59).1 = 12 + 6) (hk1 : K.1 ≤ K1.1 ∧ K.2.1 ≤ K1.2.1) (hk2 : K1.1 ≤ K2.1 ∧ K1.2.1 ≤ K2.2.1) (hk3 : K2.1 ≤ K'.1 ∧ K2.2.1 ≤ K'.2.1)
    (kk : oEv X d J_L 18 [some (.ref 1000000), some (.ref 0), some (.ref 59), some (.int (i + 6))] [] K2 M2 (some (.int 1)) K' M') : oEv X d J_L 1040 [some (.ref 1000000), some (.ref 0), some (.ref 59), some (.int i)] [] K M (some (.int 1)) K' M' := by
  refine oe_aload_n (pc := 1040) d_L_1040 rfl ?_
  refine oe_aload_n (pc := 1041) d_L_1041 rfl ?_
  refine oe_iload_n (pc := 1042) d_L_1042 rfl ?_
  refine oe_iconst (pc := 1043) (v := 1) d_L_1043 rfl ?_
  refine oe_iadd (pc := 1044) d_L_1044 ?_
  refine oe_sld (pc := 1045) d_L_1045 g1 ?_
  refine oe_callV (pc := 1046) (ci := 11) d_L_1046 hm1 hd1 ml_L_106 jJ_X11_load rfl rfl hb1 hs1 ock11 rfl (Nat.le_of_ble_eq_true rfl) ⟨hk1.1, Nat.le_trans hk2.1 hk3.1⟩ ⟨hk1.2, Nat.le_trans hk2.2 hk3.2⟩ ?_
  refine oe_aload_n (pc := 1049) d_L_1049 rfl ?_
  refine oe_aload_n (pc := 1050) d_L_1050 rfl ?_
  refine oe_iload_n (pc := 1051) d_L_1051 rfl ?_
  refine oe_iconst (pc := 1052) (v := 1) d_L_1052 rfl ?_
  refine oe_iadd (pc := 1053) d_L_1053 ?_
  refine oe_sld (pc := 1054) d_L_1054 g1 ?_
  refine oe_callV (pc := 1055) (ci := 12) d_L_1055 hm2 hd2 ml_L_109 jJ_X12_load rfl rfl hb2 hs2 ock12 rfl (Nat.le_of_ble_eq_true rfl) ⟨hk2.1, hk3.1⟩ ⟨hk2.2, hk3.2⟩ ?_
  refine oe_icmp_eq (pc := 1058) (tgt := 1767) d_L_1058 (by decide) (fun _ => ?_) (fun c => absurd rfl c)
  refine oe_iinc (pc := 1767) (v := i + 6) (L2 := [_, _, _, _]) d_L_1767 rfl rfl rfl (Nat.le_of_ble_eq_true rfl) rfl ?_
  exact oe_goto (pc := 1770) (tgt := 18) d_L_1770 (by decide) kk
theorem lc_23 {X : oX} {d d1 d2 : Nat} {i : Int32} {r : Int32} {K K1 K2 K' : oK} {M M1 M2 M' : oM} (g1 : vp_in (i + 1) X.1) (g2 : vp_in (i + 2) X.1) (hm1 : oMet X d1 J_X11_minutes [.ref 0, .int (X.2 (i + 1).toNatClampNeg), .int (X.2 (i + 2).toNatClampNeg)] K M (some (.int r)) K1 M1) (hm2 : oMet X d2 J_X12_minutes [.ref 59, .int (X.2 (i + 1).toNatClampNeg), .int (X.2 (i + 2).toNatClampNeg)] K1 M1 (some (.int r)) K2 M2) (hd1 : d1 < d) (hd2 : d2 < d) (hb1 : 0 < K.1) (hs1 : (K.2.2.1 0).1 = 11 + 6) (hb2 : 59 < K1.1) (hs2 : (K1.2.2.1 59).1 = 12 + 6) (hk1 : K.1 ≤ K1.1 ∧ K.2.1 ≤ K1.2.1) (hk2 : K1.1 ≤ K2.1 ∧ K1.2.1 ≤ K2.2.1) (hk3 : K2.1 ≤ K'.1 ∧ K2.2.1 ≤ K'.2.1)
    (kk : oEv X d J_L 18 [some (.ref 1000000), some (.ref 0), some (.ref 59), some (.int (i + 6))] [] K2 M2 (some (.int 1)) K' M') : oEv X d J_L 1063 [some (.ref 1000000), some (.ref 0), some (.ref 59), some (.int i)] [] K M (some (.int 1)) K' M' := by
  refine oe_aload_n (pc := 1063) d_L_1063 rfl ?_
  refine oe_aload_n (pc := 1064) d_L_1064 rfl ?_
  refine oe_iload_n (pc := 1065) d_L_1065 rfl ?_
  refine oe_iconst (pc := 1066) (v := 1) d_L_1066 rfl ?_
  refine oe_iadd (pc := 1067) d_L_1067 ?_
  refine oe_sld (pc := 1068) d_L_1068 g1 ?_
  refine oe_aload_n (pc := 1069) d_L_1069 rfl ?_
  refine oe_iload_n (pc := 1070) d_L_1070 rfl ?_
  refine oe_iconst (pc := 1071) (v := 2) d_L_1071 rfl ?_
  refine oe_iadd (pc := 1072) d_L_1072 ?_
  refine oe_sld (pc := 1073) d_L_1073 g2 ?_
  refine oe_callV (pc := 1074) (ci := 11) d_L_1074 hm1 hd1 ml_L_110 jJ_X11_minutes rfl rfl hb1 hs1 ock11 rfl (Nat.le_of_ble_eq_true rfl) ⟨hk1.1, Nat.le_trans hk2.1 hk3.1⟩ ⟨hk1.2, Nat.le_trans hk2.2 hk3.2⟩ ?_
  refine oe_aload_n (pc := 1077) d_L_1077 rfl ?_
  refine oe_aload_n (pc := 1078) d_L_1078 rfl ?_
  refine oe_iload_n (pc := 1079) d_L_1079 rfl ?_
  refine oe_iconst (pc := 1080) (v := 1) d_L_1080 rfl ?_
  refine oe_iadd (pc := 1081) d_L_1081 ?_
  refine oe_sld (pc := 1082) d_L_1082 g1 ?_
  refine oe_aload_n (pc := 1083) d_L_1083 rfl ?_
  refine oe_iload_n (pc := 1084) d_L_1084 rfl ?_
  refine oe_iconst (pc := 1085) (v := 2) d_L_1085 rfl ?_
  refine oe_iadd (pc := 1086) d_L_1086 ?_
  refine oe_sld (pc := 1087) d_L_1087 g2 ?_
  refine oe_callV (pc := 1088) (ci := 12) d_L_1088 hm2 hd2 ml_L_113 jJ_X12_minutes rfl rfl hb2 hs2 ock12 rfl (Nat.le_of_ble_eq_true rfl) ⟨hk2.1, hk3.1⟩ ⟨hk2.2, hk3.2⟩ ?_
  refine oe_icmp_eq (pc := 1091) (tgt := 1767) d_L_1091 (by decide) (fun _ => ?_) (fun c => absurd rfl c)
  refine oe_iinc (pc := 1767) (v := i + 6) (L2 := [_, _, _, _]) d_L_1767 rfl rfl rfl (Nat.le_of_ble_eq_true rfl) rfl ?_
  exact oe_goto (pc := 1770) (tgt := 18) d_L_1770 (by decide) kk
theorem lc_24 {X : oX} {d d1 d2 : Nat} {i : Int32} {r : Int32} {K K1 K2 K' : oK} {M M1 M2 M' : oM}  (hm1 : oMet X d1 J_X11_unload [.ref 0] K M (some (.int r)) K1 M1) (hm2 : oMet X d2 J_X12_unload [.ref 59] K1 M1 (some (.int r)) K2 M2) (hd1 : d1 < d) (hd2 : d2 < d) (hb1 : 0 < K.1) (hs1 : (K.2.2.1 0).1 = 11 + 6) (hb2 : 59 < K1.1) (hs2 : (K1.2.2.1 59).1 = 12 + 6) (hk1 : K.1 ≤ K1.1 ∧ K.2.1 ≤ K1.2.1) (hk2 : K1.1 ≤ K2.1 ∧ K1.2.1 ≤ K2.2.1) (hk3 : K2.1 ≤ K'.1 ∧ K2.2.1 ≤ K'.2.1)
    (kk : oEv X d J_L 18 [some (.ref 1000000), some (.ref 0), some (.ref 59), some (.int (i + 6))] [] K2 M2 (some (.int 1)) K' M') : oEv X d J_L 1096 [some (.ref 1000000), some (.ref 0), some (.ref 59), some (.int i)] [] K M (some (.int 1)) K' M' := by
  refine oe_aload_n (pc := 1096) d_L_1096 rfl ?_
  refine oe_callV (pc := 1097) (ci := 11) d_L_1097 hm1 hd1 ml_L_114 jJ_X11_unload rfl rfl hb1 hs1 ock11 rfl (Nat.le_of_ble_eq_true rfl) ⟨hk1.1, Nat.le_trans hk2.1 hk3.1⟩ ⟨hk1.2, Nat.le_trans hk2.2 hk3.2⟩ ?_
  refine oe_aload_n (pc := 1100) d_L_1100 rfl ?_
  refine oe_callV (pc := 1101) (ci := 12) d_L_1101 hm2 hd2 ml_L_117 jJ_X12_unload rfl rfl hb2 hs2 ock12 rfl (Nat.le_of_ble_eq_true rfl) ⟨hk2.1, hk3.1⟩ ⟨hk2.2, hk3.2⟩ ?_
  refine oe_icmp_eq (pc := 1104) (tgt := 1767) d_L_1104 (by decide) (fun _ => ?_) (fun c => absurd rfl c)
  refine oe_iinc (pc := 1767) (v := i + 6) (L2 := [_, _, _, _]) d_L_1767 rfl rfl rfl (Nat.le_of_ble_eq_true rfl) rfl ?_
  exact oe_goto (pc := 1770) (tgt := 18) d_L_1770 (by decide) kk
theorem lc_25 {X : oX} {d d1 d2 : Nat} {i : Int32} {r : Int32} {K K1 K2 K' : oK} {M M1 M2 M' : oM} (g1 : vp_in (i + 1) X.1) (g2 : vp_in (i + 2) X.1) (g3 : vp_in (i + 3) X.1) (hm1 : oMet X d1 J_X11_soon [.ref 0, .int (X.2 (i + 1).toNatClampNeg), .int (X.2 (i + 2).toNatClampNeg), .int (X.2 (i + 3).toNatClampNeg)] K M (some (.int r)) K1 M1) (hm2 : oMet X d2 J_X12_soon [.ref 59, .int (X.2 (i + 1).toNatClampNeg), .int (X.2 (i + 2).toNatClampNeg), .int (X.2 (i + 3).toNatClampNeg)] K1 M1 (some (.int r)) K2 M2) (hd1 : d1 < d) (hd2 : d2 < d) (hb1 : 0 < K.1) (hs1 : (K.2.2.1 0).1 = 11 + 6) (hb2 : 59 < K1.1) (hs2 : (K1.2.2.1 59).1 = 12 + 6) (hk1 : K.1 ≤ K1.1 ∧ K.2.1 ≤ K1.2.1) (hk2 : K1.1 ≤ K2.1 ∧ K1.2.1 ≤ K2.2.1) (hk3 : K2.1 ≤ K'.1 ∧ K2.2.1 ≤ K'.2.1)
    (kk : oEv X d J_L 18 [some (.ref 1000000), some (.ref 0), some (.ref 59), some (.int (i + 6))] [] K2 M2 (some (.int 1)) K' M') : oEv X d J_L 1109 [some (.ref 1000000), some (.ref 0), some (.ref 59), some (.int i)] [] K M (some (.int 1)) K' M' := by
  refine oe_aload_n (pc := 1109) d_L_1109 rfl ?_
  refine oe_aload_n (pc := 1110) d_L_1110 rfl ?_
  refine oe_iload_n (pc := 1111) d_L_1111 rfl ?_
  refine oe_iconst (pc := 1112) (v := 1) d_L_1112 rfl ?_
  refine oe_iadd (pc := 1113) d_L_1113 ?_
  refine oe_sld (pc := 1114) d_L_1114 g1 ?_
  refine oe_aload_n (pc := 1115) d_L_1115 rfl ?_
  refine oe_iload_n (pc := 1116) d_L_1116 rfl ?_
  refine oe_iconst (pc := 1117) (v := 2) d_L_1117 rfl ?_
  refine oe_iadd (pc := 1118) d_L_1118 ?_
  refine oe_sld (pc := 1119) d_L_1119 g2 ?_
  refine oe_aload_n (pc := 1120) d_L_1120 rfl ?_
  refine oe_iload_n (pc := 1121) d_L_1121 rfl ?_
  refine oe_iconst (pc := 1122) (v := 3) d_L_1122 rfl ?_
  refine oe_iadd (pc := 1123) d_L_1123 ?_
  refine oe_sld (pc := 1124) d_L_1124 g3 ?_
  refine oe_callV (pc := 1125) (ci := 11) d_L_1125 hm1 hd1 ml_L_118 jJ_X11_soon rfl rfl hb1 hs1 ock11 rfl (Nat.le_of_ble_eq_true rfl) ⟨hk1.1, Nat.le_trans hk2.1 hk3.1⟩ ⟨hk1.2, Nat.le_trans hk2.2 hk3.2⟩ ?_
  refine oe_aload_n (pc := 1128) d_L_1128 rfl ?_
  refine oe_aload_n (pc := 1129) d_L_1129 rfl ?_
  refine oe_iload_n (pc := 1130) d_L_1130 rfl ?_
  refine oe_iconst (pc := 1131) (v := 1) d_L_1131 rfl ?_
  refine oe_iadd (pc := 1132) d_L_1132 ?_
  refine oe_sld (pc := 1133) d_L_1133 g1 ?_
  refine oe_aload_n (pc := 1134) d_L_1134 rfl ?_
  refine oe_iload_n (pc := 1135) d_L_1135 rfl ?_
  refine oe_iconst (pc := 1136) (v := 2) d_L_1136 rfl ?_
  refine oe_iadd (pc := 1137) d_L_1137 ?_
  refine oe_sld (pc := 1138) d_L_1138 g2 ?_
  refine oe_aload_n (pc := 1139) d_L_1139 rfl ?_
  refine oe_iload_n (pc := 1140) d_L_1140 rfl ?_
  refine oe_iconst (pc := 1141) (v := 3) d_L_1141 rfl ?_
  refine oe_iadd (pc := 1142) d_L_1142 ?_
  refine oe_sld (pc := 1143) d_L_1143 g3 ?_
  refine oe_callV (pc := 1144) (ci := 12) d_L_1144 hm2 hd2 ml_L_121 jJ_X12_soon rfl rfl hb2 hs2 ock12 rfl (Nat.le_of_ble_eq_true rfl) ⟨hk2.1, hk3.1⟩ ⟨hk2.2, hk3.2⟩ ?_
  refine oe_icmp_eq (pc := 1147) (tgt := 1767) d_L_1147 (by decide) (fun _ => ?_) (fun c => absurd rfl c)
  refine oe_iinc (pc := 1767) (v := i + 6) (L2 := [_, _, _, _]) d_L_1767 rfl rfl rfl (Nat.le_of_ble_eq_true rfl) rfl ?_
  exact oe_goto (pc := 1770) (tgt := 18) d_L_1770 (by decide) kk
theorem lc_26 {X : oX} {d d1 d2 : Nat} {i : Int32} {r : Int32} {K K1 K2 K' : oK} {M M1 M2 M' : oM} (g1 : vp_in (i + 1) X.1) (hm1 : oMet X d1 J_X11_lasts [.ref 0, .int (X.2 (i + 1).toNatClampNeg)] K M (some (.int r)) K1 M1) (hm2 : oMet X d2 J_X12_lasts [.ref 59, .int (X.2 (i + 1).toNatClampNeg)] K1 M1 (some (.int r)) K2 M2) (hd1 : d1 < d) (hd2 : d2 < d) (hb1 : 0 < K.1) (hs1 : (K.2.2.1 0).1 = 11 + 6) (hb2 : 59 < K1.1) (hs2 : (K1.2.2.1 59).1 = 12 + 6) (hk1 : K.1 ≤ K1.1 ∧ K.2.1 ≤ K1.2.1) (hk2 : K1.1 ≤ K2.1 ∧ K1.2.1 ≤ K2.2.1) (hk3 : K2.1 ≤ K'.1 ∧ K2.2.1 ≤ K'.2.1)
    (kk : oEv X d J_L 18 [some (.ref 1000000), some (.ref 0), some (.ref 59), some (.int (i + 6))] [] K2 M2 (some (.int 1)) K' M') : oEv X d J_L 1152 [some (.ref 1000000), some (.ref 0), some (.ref 59), some (.int i)] [] K M (some (.int 1)) K' M' := by
  refine oe_aload_n (pc := 1152) d_L_1152 rfl ?_
  refine oe_aload_n (pc := 1153) d_L_1153 rfl ?_
  refine oe_iload_n (pc := 1154) d_L_1154 rfl ?_
  refine oe_iconst (pc := 1155) (v := 1) d_L_1155 rfl ?_
  refine oe_iadd (pc := 1156) d_L_1156 ?_
  refine oe_sld (pc := 1157) d_L_1157 g1 ?_
  refine oe_callV (pc := 1158) (ci := 11) d_L_1158 hm1 hd1 ml_L_122 jJ_X11_lasts rfl rfl hb1 hs1 ock11 rfl (Nat.le_of_ble_eq_true rfl) ⟨hk1.1, Nat.le_trans hk2.1 hk3.1⟩ ⟨hk1.2, Nat.le_trans hk2.2 hk3.2⟩ ?_
  refine oe_aload_n (pc := 1161) d_L_1161 rfl ?_
  refine oe_aload_n (pc := 1162) d_L_1162 rfl ?_
  refine oe_iload_n (pc := 1163) d_L_1163 rfl ?_
  refine oe_iconst (pc := 1164) (v := 1) d_L_1164 rfl ?_
  refine oe_iadd (pc := 1165) d_L_1165 ?_
  refine oe_sld (pc := 1166) d_L_1166 g1 ?_
  refine oe_callV (pc := 1167) (ci := 12) d_L_1167 hm2 hd2 ml_L_125 jJ_X12_lasts rfl rfl hb2 hs2 ock12 rfl (Nat.le_of_ble_eq_true rfl) ⟨hk2.1, hk3.1⟩ ⟨hk2.2, hk3.2⟩ ?_
  refine oe_icmp_eq (pc := 1170) (tgt := 1767) d_L_1170 (by decide) (fun _ => ?_) (fun c => absurd rfl c)
  refine oe_iinc (pc := 1767) (v := i + 6) (L2 := [_, _, _, _]) d_L_1767 rfl rfl rfl (Nat.le_of_ble_eq_true rfl) rfl ?_
  exact oe_goto (pc := 1770) (tgt := 18) d_L_1770 (by decide) kk
theorem lc_27 {X : oX} {d d1 d2 : Nat} {i : Int32} {r : Int32} {K K1 K2 K' : oK} {M M1 M2 M' : oM} (g1 : vp_in (i + 1) X.1) (g2 : vp_in (i + 2) X.1) (hm1 : oMet X d1 J_X11_turn [.ref 0, .int (X.2 (i + 1).toNatClampNeg), .int (X.2 (i + 2).toNatClampNeg)] K M (some (.int r)) K1 M1) (hm2 : oMet X d2 J_X12_turn [.ref 59, .int (X.2 (i + 1).toNatClampNeg), .int (X.2 (i + 2).toNatClampNeg)] K1 M1 (some (.int r)) K2 M2) (hd1 : d1 < d) (hd2 : d2 < d) (hb1 : 0 < K.1) (hs1 : (K.2.2.1 0).1 = 11 + 6) (hb2 : 59 < K1.1) (hs2 : (K1.2.2.1 59).1 = 12 + 6) (hk1 : K.1 ≤ K1.1 ∧ K.2.1 ≤ K1.2.1) (hk2 : K1.1 ≤ K2.1 ∧ K1.2.1 ≤ K2.2.1) (hk3 : K2.1 ≤ K'.1 ∧ K2.2.1 ≤ K'.2.1)
    (kk : oEv X d J_L 18 [some (.ref 1000000), some (.ref 0), some (.ref 59), some (.int (i + 6))] [] K2 M2 (some (.int 1)) K' M') : oEv X d J_L 1175 [some (.ref 1000000), some (.ref 0), some (.ref 59), some (.int i)] [] K M (some (.int 1)) K' M' := by
  refine oe_aload_n (pc := 1175) d_L_1175 rfl ?_
  refine oe_aload_n (pc := 1176) d_L_1176 rfl ?_
  refine oe_iload_n (pc := 1177) d_L_1177 rfl ?_
  refine oe_iconst (pc := 1178) (v := 1) d_L_1178 rfl ?_
  refine oe_iadd (pc := 1179) d_L_1179 ?_
  refine oe_sld (pc := 1180) d_L_1180 g1 ?_
  refine oe_aload_n (pc := 1181) d_L_1181 rfl ?_
  refine oe_iload_n (pc := 1182) d_L_1182 rfl ?_
  refine oe_iconst (pc := 1183) (v := 2) d_L_1183 rfl ?_
  refine oe_iadd (pc := 1184) d_L_1184 ?_
  refine oe_sld (pc := 1185) d_L_1185 g2 ?_
  refine oe_callV (pc := 1186) (ci := 11) d_L_1186 hm1 hd1 ml_L_126 jJ_X11_turn rfl rfl hb1 hs1 ock11 rfl (Nat.le_of_ble_eq_true rfl) ⟨hk1.1, Nat.le_trans hk2.1 hk3.1⟩ ⟨hk1.2, Nat.le_trans hk2.2 hk3.2⟩ ?_
  refine oe_aload_n (pc := 1189) d_L_1189 rfl ?_
  refine oe_aload_n (pc := 1190) d_L_1190 rfl ?_
  refine oe_iload_n (pc := 1191) d_L_1191 rfl ?_
  refine oe_iconst (pc := 1192) (v := 1) d_L_1192 rfl ?_
  refine oe_iadd (pc := 1193) d_L_1193 ?_
  refine oe_sld (pc := 1194) d_L_1194 g1 ?_
  refine oe_aload_n (pc := 1195) d_L_1195 rfl ?_
  refine oe_iload_n (pc := 1196) d_L_1196 rfl ?_
  refine oe_iconst (pc := 1197) (v := 2) d_L_1197 rfl ?_
  refine oe_iadd (pc := 1198) d_L_1198 ?_
  refine oe_sld (pc := 1199) d_L_1199 g2 ?_
  refine oe_callV (pc := 1200) (ci := 12) d_L_1200 hm2 hd2 ml_L_129 jJ_X12_turn rfl rfl hb2 hs2 ock12 rfl (Nat.le_of_ble_eq_true rfl) ⟨hk2.1, hk3.1⟩ ⟨hk2.2, hk3.2⟩ ?_
  refine oe_icmp_eq (pc := 1203) (tgt := 1767) d_L_1203 (by decide) (fun _ => ?_) (fun c => absurd rfl c)
  refine oe_iinc (pc := 1767) (v := i + 6) (L2 := [_, _, _, _]) d_L_1767 rfl rfl rfl (Nat.le_of_ble_eq_true rfl) rfl ?_
  exact oe_goto (pc := 1770) (tgt := 18) d_L_1770 (by decide) kk
theorem lc_28 {X : oX} {d d1 d2 : Nat} {i : Int32} {r : Int32} {K K1 K2 K' : oK} {M M1 M2 M' : oM} (g1 : vp_in (i + 1) X.1) (g2 : vp_in (i + 2) X.1) (g3 : vp_in (i + 3) X.1) (g4 : vp_in (i + 4) X.1) (hm1 : oMet X d1 J_X11_share [.ref 0, .int (X.2 (i + 1).toNatClampNeg), .int (X.2 (i + 2).toNatClampNeg), .int (X.2 (i + 3).toNatClampNeg), .int (X.2 (i + 4).toNatClampNeg)] K M (some (.int r)) K1 M1) (hm2 : oMet X d2 J_X12_share [.ref 59, .int (X.2 (i + 1).toNatClampNeg), .int (X.2 (i + 2).toNatClampNeg), .int (X.2 (i + 3).toNatClampNeg), .int (X.2 (i + 4).toNatClampNeg)] K1 M1 (some (.int r)) K2 M2) (hd1 : d1 < d) (hd2 : d2 < d) (hb1 : 0 < K.1) (hs1 : (K.2.2.1 0).1 = 11 + 6) (hb2 : 59 < K1.1) (hs2 : (K1.2.2.1 59).1 = 12 + 6) (hk1 : K.1 ≤ K1.1 ∧ K.2.1 ≤ K1.2.1) (hk2 : K1.1 ≤ K2.1 ∧ K1.2.1 ≤ K2.2.1) (hk3 : K2.1 ≤ K'.1 ∧ K2.2.1 ≤ K'.2.1)
    (kk : oEv X d J_L 18 [some (.ref 1000000), some (.ref 0), some (.ref 59), some (.int (i + 6))] [] K2 M2 (some (.int 1)) K' M') : oEv X d J_L 1208 [some (.ref 1000000), some (.ref 0), some (.ref 59), some (.int i)] [] K M (some (.int 1)) K' M' := by
  refine oe_aload_n (pc := 1208) d_L_1208 rfl ?_
  refine oe_aload_n (pc := 1209) d_L_1209 rfl ?_
  refine oe_iload_n (pc := 1210) d_L_1210 rfl ?_
  refine oe_iconst (pc := 1211) (v := 1) d_L_1211 rfl ?_
  refine oe_iadd (pc := 1212) d_L_1212 ?_
  refine oe_sld (pc := 1213) d_L_1213 g1 ?_
  refine oe_aload_n (pc := 1214) d_L_1214 rfl ?_
  refine oe_iload_n (pc := 1215) d_L_1215 rfl ?_
  refine oe_iconst (pc := 1216) (v := 2) d_L_1216 rfl ?_
  refine oe_iadd (pc := 1217) d_L_1217 ?_
  refine oe_sld (pc := 1218) d_L_1218 g2 ?_
  refine oe_aload_n (pc := 1219) d_L_1219 rfl ?_
  refine oe_iload_n (pc := 1220) d_L_1220 rfl ?_
  refine oe_iconst (pc := 1221) (v := 3) d_L_1221 rfl ?_
  refine oe_iadd (pc := 1222) d_L_1222 ?_
  refine oe_sld (pc := 1223) d_L_1223 g3 ?_
  refine oe_aload_n (pc := 1224) d_L_1224 rfl ?_
  refine oe_iload_n (pc := 1225) d_L_1225 rfl ?_
  refine oe_iconst (pc := 1226) (v := 4) d_L_1226 rfl ?_
  refine oe_iadd (pc := 1227) d_L_1227 ?_
  refine oe_sld (pc := 1228) d_L_1228 g4 ?_
  refine oe_callV (pc := 1229) (ci := 11) d_L_1229 hm1 hd1 ml_L_130 jJ_X11_share rfl rfl hb1 hs1 ock11 rfl (Nat.le_of_ble_eq_true rfl) ⟨hk1.1, Nat.le_trans hk2.1 hk3.1⟩ ⟨hk1.2, Nat.le_trans hk2.2 hk3.2⟩ ?_
  refine oe_aload_n (pc := 1232) d_L_1232 rfl ?_
  refine oe_aload_n (pc := 1233) d_L_1233 rfl ?_
  refine oe_iload_n (pc := 1234) d_L_1234 rfl ?_
  refine oe_iconst (pc := 1235) (v := 1) d_L_1235 rfl ?_
  refine oe_iadd (pc := 1236) d_L_1236 ?_
  refine oe_sld (pc := 1237) d_L_1237 g1 ?_
  refine oe_aload_n (pc := 1238) d_L_1238 rfl ?_
  refine oe_iload_n (pc := 1239) d_L_1239 rfl ?_
  refine oe_iconst (pc := 1240) (v := 2) d_L_1240 rfl ?_
  refine oe_iadd (pc := 1241) d_L_1241 ?_
  refine oe_sld (pc := 1242) d_L_1242 g2 ?_
  refine oe_aload_n (pc := 1243) d_L_1243 rfl ?_
  refine oe_iload_n (pc := 1244) d_L_1244 rfl ?_
  refine oe_iconst (pc := 1245) (v := 3) d_L_1245 rfl ?_
  refine oe_iadd (pc := 1246) d_L_1246 ?_
  refine oe_sld (pc := 1247) d_L_1247 g3 ?_
  refine oe_aload_n (pc := 1248) d_L_1248 rfl ?_
  refine oe_iload_n (pc := 1249) d_L_1249 rfl ?_
  refine oe_iconst (pc := 1250) (v := 4) d_L_1250 rfl ?_
  refine oe_iadd (pc := 1251) d_L_1251 ?_
  refine oe_sld (pc := 1252) d_L_1252 g4 ?_
  refine oe_callV (pc := 1253) (ci := 12) d_L_1253 hm2 hd2 ml_L_133 jJ_X12_share rfl rfl hb2 hs2 ock12 rfl (Nat.le_of_ble_eq_true rfl) ⟨hk2.1, hk3.1⟩ ⟨hk2.2, hk3.2⟩ ?_
  refine oe_icmp_eq (pc := 1256) (tgt := 1767) d_L_1256 (by decide) (fun _ => ?_) (fun c => absurd rfl c)
  refine oe_iinc (pc := 1767) (v := i + 6) (L2 := [_, _, _, _]) d_L_1767 rfl rfl rfl (Nat.le_of_ble_eq_true rfl) rfl ?_
  exact oe_goto (pc := 1770) (tgt := 18) d_L_1770 (by decide) kk
theorem lc_29 {X : oX} {d d1 d2 : Nat} {i : Int32} {r : Int32} {K K1 K2 K' : oK} {M M1 M2 M' : oM} (g1 : vp_in (i + 1) X.1) (g2 : vp_in (i + 2) X.1) (hm1 : oMet X d1 J_X11_thing [.ref 0, .int (X.2 (i + 1).toNatClampNeg), .int (X.2 (i + 2).toNatClampNeg)] K M (some (.int r)) K1 M1) (hm2 : oMet X d2 J_X12_thing [.ref 59, .int (X.2 (i + 1).toNatClampNeg), .int (X.2 (i + 2).toNatClampNeg)] K1 M1 (some (.int r)) K2 M2) (hd1 : d1 < d) (hd2 : d2 < d) (hb1 : 0 < K.1) (hs1 : (K.2.2.1 0).1 = 11 + 6) (hb2 : 59 < K1.1) (hs2 : (K1.2.2.1 59).1 = 12 + 6) (hk1 : K.1 ≤ K1.1 ∧ K.2.1 ≤ K1.2.1) (hk2 : K1.1 ≤ K2.1 ∧ K1.2.1 ≤ K2.2.1) (hk3 : K2.1 ≤ K'.1 ∧ K2.2.1 ≤ K'.2.1)
    (kk : oEv X d J_L 18 [some (.ref 1000000), some (.ref 0), some (.ref 59), some (.int (i + 6))] [] K2 M2 (some (.int 1)) K' M') : oEv X d J_L 1261 [some (.ref 1000000), some (.ref 0), some (.ref 59), some (.int i)] [] K M (some (.int 1)) K' M' := by
  refine oe_aload_n (pc := 1261) d_L_1261 rfl ?_
  refine oe_aload_n (pc := 1262) d_L_1262 rfl ?_
  refine oe_iload_n (pc := 1263) d_L_1263 rfl ?_
  refine oe_iconst (pc := 1264) (v := 1) d_L_1264 rfl ?_
  refine oe_iadd (pc := 1265) d_L_1265 ?_
  refine oe_sld (pc := 1266) d_L_1266 g1 ?_
  refine oe_aload_n (pc := 1267) d_L_1267 rfl ?_
  refine oe_iload_n (pc := 1268) d_L_1268 rfl ?_
  refine oe_iconst (pc := 1269) (v := 2) d_L_1269 rfl ?_
  refine oe_iadd (pc := 1270) d_L_1270 ?_
  refine oe_sld (pc := 1271) d_L_1271 g2 ?_
  refine oe_callV (pc := 1272) (ci := 11) d_L_1272 hm1 hd1 ml_L_134 jJ_X11_thing rfl rfl hb1 hs1 ock11 rfl (Nat.le_of_ble_eq_true rfl) ⟨hk1.1, Nat.le_trans hk2.1 hk3.1⟩ ⟨hk1.2, Nat.le_trans hk2.2 hk3.2⟩ ?_
  refine oe_aload_n (pc := 1275) d_L_1275 rfl ?_
  refine oe_aload_n (pc := 1276) d_L_1276 rfl ?_
  refine oe_iload_n (pc := 1277) d_L_1277 rfl ?_
  refine oe_iconst (pc := 1278) (v := 1) d_L_1278 rfl ?_
  refine oe_iadd (pc := 1279) d_L_1279 ?_
  refine oe_sld (pc := 1280) d_L_1280 g1 ?_
  refine oe_aload_n (pc := 1281) d_L_1281 rfl ?_
  refine oe_iload_n (pc := 1282) d_L_1282 rfl ?_
  refine oe_iconst (pc := 1283) (v := 2) d_L_1283 rfl ?_
  refine oe_iadd (pc := 1284) d_L_1284 ?_
  refine oe_sld (pc := 1285) d_L_1285 g2 ?_
  refine oe_callV (pc := 1286) (ci := 12) d_L_1286 hm2 hd2 ml_L_137 jJ_X12_thing rfl rfl hb2 hs2 ock12 rfl (Nat.le_of_ble_eq_true rfl) ⟨hk2.1, hk3.1⟩ ⟨hk2.2, hk3.2⟩ ?_
  refine oe_icmp_eq (pc := 1289) (tgt := 1767) d_L_1289 (by decide) (fun _ => ?_) (fun c => absurd rfl c)
  refine oe_iinc (pc := 1767) (v := i + 6) (L2 := [_, _, _, _]) d_L_1767 rfl rfl rfl (Nat.le_of_ble_eq_true rfl) rfl ?_
  exact oe_goto (pc := 1770) (tgt := 18) d_L_1770 (by decide) kk
theorem lc_30 {X : oX} {d d1 d2 : Nat} {i : Int32} {r : Int32} {K K1 K2 K' : oK} {M M1 M2 M' : oM} (g1 : vp_in (i + 1) X.1) (g2 : vp_in (i + 2) X.1) (g3 : vp_in (i + 3) X.1) (hm1 : oMet X d1 J_X11_cart [.ref 0, .int (X.2 (i + 1).toNatClampNeg), .int (X.2 (i + 2).toNatClampNeg), .int (X.2 (i + 3).toNatClampNeg)] K M (some (.int r)) K1 M1) (hm2 : oMet X d2 J_X12_cart [.ref 59, .int (X.2 (i + 1).toNatClampNeg), .int (X.2 (i + 2).toNatClampNeg), .int (X.2 (i + 3).toNatClampNeg)] K1 M1 (some (.int r)) K2 M2) (hd1 : d1 < d) (hd2 : d2 < d) (hb1 : 0 < K.1) (hs1 : (K.2.2.1 0).1 = 11 + 6) (hb2 : 59 < K1.1) (hs2 : (K1.2.2.1 59).1 = 12 + 6) (hk1 : K.1 ≤ K1.1 ∧ K.2.1 ≤ K1.2.1) (hk2 : K1.1 ≤ K2.1 ∧ K1.2.1 ≤ K2.2.1) (hk3 : K2.1 ≤ K'.1 ∧ K2.2.1 ≤ K'.2.1)
    (kk : oEv X d J_L 18 [some (.ref 1000000), some (.ref 0), some (.ref 59), some (.int (i + 6))] [] K2 M2 (some (.int 1)) K' M') : oEv X d J_L 1294 [some (.ref 1000000), some (.ref 0), some (.ref 59), some (.int i)] [] K M (some (.int 1)) K' M' := by
  refine oe_aload_n (pc := 1294) d_L_1294 rfl ?_
  refine oe_aload_n (pc := 1295) d_L_1295 rfl ?_
  refine oe_iload_n (pc := 1296) d_L_1296 rfl ?_
  refine oe_iconst (pc := 1297) (v := 1) d_L_1297 rfl ?_
  refine oe_iadd (pc := 1298) d_L_1298 ?_
  refine oe_sld (pc := 1299) d_L_1299 g1 ?_
  refine oe_aload_n (pc := 1300) d_L_1300 rfl ?_
  refine oe_iload_n (pc := 1301) d_L_1301 rfl ?_
  refine oe_iconst (pc := 1302) (v := 2) d_L_1302 rfl ?_
  refine oe_iadd (pc := 1303) d_L_1303 ?_
  refine oe_sld (pc := 1304) d_L_1304 g2 ?_
  refine oe_aload_n (pc := 1305) d_L_1305 rfl ?_
  refine oe_iload_n (pc := 1306) d_L_1306 rfl ?_
  refine oe_iconst (pc := 1307) (v := 3) d_L_1307 rfl ?_
  refine oe_iadd (pc := 1308) d_L_1308 ?_
  refine oe_sld (pc := 1309) d_L_1309 g3 ?_
  refine oe_callV (pc := 1310) (ci := 11) d_L_1310 hm1 hd1 ml_L_138 jJ_X11_cart rfl rfl hb1 hs1 ock11 rfl (Nat.le_of_ble_eq_true rfl) ⟨hk1.1, Nat.le_trans hk2.1 hk3.1⟩ ⟨hk1.2, Nat.le_trans hk2.2 hk3.2⟩ ?_
  refine oe_aload_n (pc := 1313) d_L_1313 rfl ?_
  refine oe_aload_n (pc := 1314) d_L_1314 rfl ?_
  refine oe_iload_n (pc := 1315) d_L_1315 rfl ?_
  refine oe_iconst (pc := 1316) (v := 1) d_L_1316 rfl ?_
  refine oe_iadd (pc := 1317) d_L_1317 ?_
  refine oe_sld (pc := 1318) d_L_1318 g1 ?_
  refine oe_aload_n (pc := 1319) d_L_1319 rfl ?_
  refine oe_iload_n (pc := 1320) d_L_1320 rfl ?_
  refine oe_iconst (pc := 1321) (v := 2) d_L_1321 rfl ?_
  refine oe_iadd (pc := 1322) d_L_1322 ?_
  refine oe_sld (pc := 1323) d_L_1323 g2 ?_
  refine oe_aload_n (pc := 1324) d_L_1324 rfl ?_
  refine oe_iload_n (pc := 1325) d_L_1325 rfl ?_
  refine oe_iconst (pc := 1326) (v := 3) d_L_1326 rfl ?_
  refine oe_iadd (pc := 1327) d_L_1327 ?_
  refine oe_sld (pc := 1328) d_L_1328 g3 ?_
  refine oe_callV (pc := 1329) (ci := 12) d_L_1329 hm2 hd2 ml_L_141 jJ_X12_cart rfl rfl hb2 hs2 ock12 rfl (Nat.le_of_ble_eq_true rfl) ⟨hk2.1, hk3.1⟩ ⟨hk2.2, hk3.2⟩ ?_
  refine oe_icmp_eq (pc := 1332) (tgt := 1767) d_L_1332 (by decide) (fun _ => ?_) (fun c => absurd rfl c)
  refine oe_iinc (pc := 1767) (v := i + 6) (L2 := [_, _, _, _]) d_L_1767 rfl rfl rfl (Nat.le_of_ble_eq_true rfl) rfl ?_
  exact oe_goto (pc := 1770) (tgt := 18) d_L_1770 (by decide) kk
theorem lc_31 {X : oX} {d d1 d2 : Nat} {i : Int32} {r : Int32} {K K1 K2 K' : oK} {M M1 M2 M' : oM}  (hm1 : oMet X d1 J_X11_unthing [.ref 0] K M (some (.int r)) K1 M1) (hm2 : oMet X d2 J_X12_unthing [.ref 59] K1 M1 (some (.int r)) K2 M2) (hd1 : d1 < d) (hd2 : d2 < d) (hb1 : 0 < K.1) (hs1 : (K.2.2.1 0).1 = 11 + 6) (hb2 : 59 < K1.1) (hs2 : (K1.2.2.1 59).1 = 12 + 6) (hk1 : K.1 ≤ K1.1 ∧ K.2.1 ≤ K1.2.1) (hk2 : K1.1 ≤ K2.1 ∧ K1.2.1 ≤ K2.2.1) (hk3 : K2.1 ≤ K'.1 ∧ K2.2.1 ≤ K'.2.1)
    (kk : oEv X d J_L 18 [some (.ref 1000000), some (.ref 0), some (.ref 59), some (.int (i + 6))] [] K2 M2 (some (.int 1)) K' M') : oEv X d J_L 1337 [some (.ref 1000000), some (.ref 0), some (.ref 59), some (.int i)] [] K M (some (.int 1)) K' M' := by
  refine oe_aload_n (pc := 1337) d_L_1337 rfl ?_
  refine oe_callV (pc := 1338) (ci := 11) d_L_1338 hm1 hd1 ml_L_142 jJ_X11_unthing rfl rfl hb1 hs1 ock11 rfl (Nat.le_of_ble_eq_true rfl) ⟨hk1.1, Nat.le_trans hk2.1 hk3.1⟩ ⟨hk1.2, Nat.le_trans hk2.2 hk3.2⟩ ?_
  refine oe_aload_n (pc := 1341) d_L_1341 rfl ?_
  refine oe_callV (pc := 1342) (ci := 12) d_L_1342 hm2 hd2 ml_L_145 jJ_X12_unthing rfl rfl hb2 hs2 ock12 rfl (Nat.le_of_ble_eq_true rfl) ⟨hk2.1, hk3.1⟩ ⟨hk2.2, hk3.2⟩ ?_
  refine oe_icmp_eq (pc := 1345) (tgt := 1767) d_L_1345 (by decide) (fun _ => ?_) (fun c => absurd rfl c)
  refine oe_iinc (pc := 1767) (v := i + 6) (L2 := [_, _, _, _]) d_L_1767 rfl rfl rfl (Nat.le_of_ble_eq_true rfl) rfl ?_
  exact oe_goto (pc := 1770) (tgt := 18) d_L_1770 (by decide) kk
theorem lc_32 {X : oX} {d d1 d2 : Nat} {i : Int32} {r : Int32} {K K1 K2 K' : oK} {M M1 M2 M' : oM} (g1 : vp_in (i + 1) X.1) (hm1 : oMet X d1 J_X11_old [.ref 0, .int (X.2 (i + 1).toNatClampNeg)] K M (some (.int r)) K1 M1) (hm2 : oMet X d2 J_X12_old [.ref 59, .int (X.2 (i + 1).toNatClampNeg)] K1 M1 (some (.int r)) K2 M2) (hd1 : d1 < d) (hd2 : d2 < d) (hb1 : 0 < K.1) (hs1 : (K.2.2.1 0).1 = 11 + 6) (hb2 : 59 < K1.1) (hs2 : (K1.2.2.1 59).1 = 12 + 6) (hk1 : K.1 ≤ K1.1 ∧ K.2.1 ≤ K1.2.1) (hk2 : K1.1 ≤ K2.1 ∧ K1.2.1 ≤ K2.2.1) (hk3 : K2.1 ≤ K'.1 ∧ K2.2.1 ≤ K'.2.1)
    (kk : oEv X d J_L 18 [some (.ref 1000000), some (.ref 0), some (.ref 59), some (.int (i + 6))] [] K2 M2 (some (.int 1)) K' M') : oEv X d J_L 1350 [some (.ref 1000000), some (.ref 0), some (.ref 59), some (.int i)] [] K M (some (.int 1)) K' M' := by
  refine oe_aload_n (pc := 1350) d_L_1350 rfl ?_
  refine oe_aload_n (pc := 1351) d_L_1351 rfl ?_
  refine oe_iload_n (pc := 1352) d_L_1352 rfl ?_
  refine oe_iconst (pc := 1353) (v := 1) d_L_1353 rfl ?_
  refine oe_iadd (pc := 1354) d_L_1354 ?_
  refine oe_sld (pc := 1355) d_L_1355 g1 ?_
  refine oe_callV (pc := 1356) (ci := 11) d_L_1356 hm1 hd1 ml_L_146 jJ_X11_old rfl rfl hb1 hs1 ock11 rfl (Nat.le_of_ble_eq_true rfl) ⟨hk1.1, Nat.le_trans hk2.1 hk3.1⟩ ⟨hk1.2, Nat.le_trans hk2.2 hk3.2⟩ ?_
  refine oe_aload_n (pc := 1359) d_L_1359 rfl ?_
  refine oe_aload_n (pc := 1360) d_L_1360 rfl ?_
  refine oe_iload_n (pc := 1361) d_L_1361 rfl ?_
  refine oe_iconst (pc := 1362) (v := 1) d_L_1362 rfl ?_
  refine oe_iadd (pc := 1363) d_L_1363 ?_
  refine oe_sld (pc := 1364) d_L_1364 g1 ?_
  refine oe_callV (pc := 1365) (ci := 12) d_L_1365 hm2 hd2 ml_L_149 jJ_X12_old rfl rfl hb2 hs2 ock12 rfl (Nat.le_of_ble_eq_true rfl) ⟨hk2.1, hk3.1⟩ ⟨hk2.2, hk3.2⟩ ?_
  refine oe_icmp_eq (pc := 1368) (tgt := 1767) d_L_1368 (by decide) (fun _ => ?_) (fun c => absurd rfl c)
  refine oe_iinc (pc := 1767) (v := i + 6) (L2 := [_, _, _, _]) d_L_1767 rfl rfl rfl (Nat.le_of_ble_eq_true rfl) rfl ?_
  exact oe_goto (pc := 1770) (tgt := 18) d_L_1770 (by decide) kk
theorem lc_33 {X : oX} {d d1 d2 : Nat} {i : Int32} {r : Int32} {K K1 K2 K' : oK} {M M1 M2 M' : oM}  (hm1 : oMet X d1 J_X11_undo [.ref 0] K M (some (.int r)) K1 M1) (hm2 : oMet X d2 J_X12_undo [.ref 59] K1 M1 (some (.int r)) K2 M2) (hd1 : d1 < d) (hd2 : d2 < d) (hb1 : 0 < K.1) (hs1 : (K.2.2.1 0).1 = 11 + 6) (hb2 : 59 < K1.1) (hs2 : (K1.2.2.1 59).1 = 12 + 6) (hk1 : K.1 ≤ K1.1 ∧ K.2.1 ≤ K1.2.1) (hk2 : K1.1 ≤ K2.1 ∧ K1.2.1 ≤ K2.2.1) (hk3 : K2.1 ≤ K'.1 ∧ K2.2.1 ≤ K'.2.1)
    (kk : oEv X d J_L 18 [some (.ref 1000000), some (.ref 0), some (.ref 59), some (.int (i + 6))] [] K2 M2 (some (.int 1)) K' M') : oEv X d J_L 1373 [some (.ref 1000000), some (.ref 0), some (.ref 59), some (.int i)] [] K M (some (.int 1)) K' M' := by
  refine oe_aload_n (pc := 1373) d_L_1373 rfl ?_
  refine oe_callV (pc := 1374) (ci := 11) d_L_1374 hm1 hd1 ml_L_150 jJ_X11_undo rfl rfl hb1 hs1 ock11 rfl (Nat.le_of_ble_eq_true rfl) ⟨hk1.1, Nat.le_trans hk2.1 hk3.1⟩ ⟨hk1.2, Nat.le_trans hk2.2 hk3.2⟩ ?_
  refine oe_aload_n (pc := 1377) d_L_1377 rfl ?_
  refine oe_callV (pc := 1378) (ci := 12) d_L_1378 hm2 hd2 ml_L_153 jJ_X12_undo rfl rfl hb2 hs2 ock12 rfl (Nat.le_of_ble_eq_true rfl) ⟨hk2.1, hk3.1⟩ ⟨hk2.2, hk3.2⟩ ?_
  refine oe_icmp_eq (pc := 1381) (tgt := 1767) d_L_1381 (by decide) (fun _ => ?_) (fun c => absurd rfl c)
  refine oe_iinc (pc := 1767) (v := i + 6) (L2 := [_, _, _, _]) d_L_1767 rfl rfl rfl (Nat.le_of_ble_eq_true rfl) rfl ?_
  exact oe_goto (pc := 1770) (tgt := 18) d_L_1770 (by decide) kk
theorem lc_34 {X : oX} {d d1 d2 : Nat} {i : Int32} {r : Int32} {K K1 K2 K' : oK} {M M1 M2 M' : oM}  (hm1 : oMet X d1 J_X11_redo [.ref 0] K M (some (.int r)) K1 M1) (hm2 : oMet X d2 J_X12_redo [.ref 59] K1 M1 (some (.int r)) K2 M2) (hd1 : d1 < d) (hd2 : d2 < d) (hb1 : 0 < K.1) (hs1 : (K.2.2.1 0).1 = 11 + 6) (hb2 : 59 < K1.1) (hs2 : (K1.2.2.1 59).1 = 12 + 6) (hk1 : K.1 ≤ K1.1 ∧ K.2.1 ≤ K1.2.1) (hk2 : K1.1 ≤ K2.1 ∧ K1.2.1 ≤ K2.2.1) (hk3 : K2.1 ≤ K'.1 ∧ K2.2.1 ≤ K'.2.1)
    (kk : oEv X d J_L 18 [some (.ref 1000000), some (.ref 0), some (.ref 59), some (.int (i + 6))] [] K2 M2 (some (.int 1)) K' M') : oEv X d J_L 1386 [some (.ref 1000000), some (.ref 0), some (.ref 59), some (.int i)] [] K M (some (.int 1)) K' M' := by
  refine oe_aload_n (pc := 1386) d_L_1386 rfl ?_
  refine oe_callV (pc := 1387) (ci := 11) d_L_1387 hm1 hd1 ml_L_154 jJ_X11_redo rfl rfl hb1 hs1 ock11 rfl (Nat.le_of_ble_eq_true rfl) ⟨hk1.1, Nat.le_trans hk2.1 hk3.1⟩ ⟨hk1.2, Nat.le_trans hk2.2 hk3.2⟩ ?_
  refine oe_aload_n (pc := 1390) d_L_1390 rfl ?_
  refine oe_callV (pc := 1391) (ci := 12) d_L_1391 hm2 hd2 ml_L_157 jJ_X12_redo rfl rfl hb2 hs2 ock12 rfl (Nat.le_of_ble_eq_true rfl) ⟨hk2.1, hk3.1⟩ ⟨hk2.2, hk3.2⟩ ?_
  refine oe_icmp_eq (pc := 1394) (tgt := 1767) d_L_1394 (by decide) (fun _ => ?_) (fun c => absurd rfl c)
  refine oe_iinc (pc := 1767) (v := i + 6) (L2 := [_, _, _, _]) d_L_1767 rfl rfl rfl (Nat.le_of_ble_eq_true rfl) rfl ?_
  exact oe_goto (pc := 1770) (tgt := 18) d_L_1770 (by decide) kk
theorem lc_35 {X : oX} {d d1 d2 : Nat} {i : Int32} {r : Int32} {K K1 K2 K' : oK} {M M1 M2 M' : oM} (g1 : vp_in (i + 1) X.1) (g2 : vp_in (i + 2) X.1) (g3 : vp_in (i + 3) X.1) (hm1 : oMet X d1 J_X11_act [.ref 0, .int (X.2 (i + 1).toNatClampNeg), .int (X.2 (i + 2).toNatClampNeg), .int (X.2 (i + 3).toNatClampNeg)] K M (some (.int r)) K1 M1) (hm2 : oMet X d2 J_X12_act [.ref 59, .int (X.2 (i + 1).toNatClampNeg), .int (X.2 (i + 2).toNatClampNeg), .int (X.2 (i + 3).toNatClampNeg)] K1 M1 (some (.int r)) K2 M2) (hd1 : d1 < d) (hd2 : d2 < d) (hb1 : 0 < K.1) (hs1 : (K.2.2.1 0).1 = 11 + 6) (hb2 : 59 < K1.1) (hs2 : (K1.2.2.1 59).1 = 12 + 6) (hk1 : K.1 ≤ K1.1 ∧ K.2.1 ≤ K1.2.1) (hk2 : K1.1 ≤ K2.1 ∧ K1.2.1 ≤ K2.2.1) (hk3 : K2.1 ≤ K'.1 ∧ K2.2.1 ≤ K'.2.1)
    (kk : oEv X d J_L 18 [some (.ref 1000000), some (.ref 0), some (.ref 59), some (.int (i + 6))] [] K2 M2 (some (.int 1)) K' M') : oEv X d J_L 1399 [some (.ref 1000000), some (.ref 0), some (.ref 59), some (.int i)] [] K M (some (.int 1)) K' M' := by
  refine oe_aload_n (pc := 1399) d_L_1399 rfl ?_
  refine oe_aload_n (pc := 1400) d_L_1400 rfl ?_
  refine oe_iload_n (pc := 1401) d_L_1401 rfl ?_
  refine oe_iconst (pc := 1402) (v := 1) d_L_1402 rfl ?_
  refine oe_iadd (pc := 1403) d_L_1403 ?_
  refine oe_sld (pc := 1404) d_L_1404 g1 ?_
  refine oe_aload_n (pc := 1405) d_L_1405 rfl ?_
  refine oe_iload_n (pc := 1406) d_L_1406 rfl ?_
  refine oe_iconst (pc := 1407) (v := 2) d_L_1407 rfl ?_
  refine oe_iadd (pc := 1408) d_L_1408 ?_
  refine oe_sld (pc := 1409) d_L_1409 g2 ?_
  refine oe_aload_n (pc := 1410) d_L_1410 rfl ?_
  refine oe_iload_n (pc := 1411) d_L_1411 rfl ?_
  refine oe_iconst (pc := 1412) (v := 3) d_L_1412 rfl ?_
  refine oe_iadd (pc := 1413) d_L_1413 ?_
  refine oe_sld (pc := 1414) d_L_1414 g3 ?_
  refine oe_callV (pc := 1415) (ci := 11) d_L_1415 hm1 hd1 ml_L_158 jJ_X11_act rfl rfl hb1 hs1 ock11 rfl (Nat.le_of_ble_eq_true rfl) ⟨hk1.1, Nat.le_trans hk2.1 hk3.1⟩ ⟨hk1.2, Nat.le_trans hk2.2 hk3.2⟩ ?_
  refine oe_aload_n (pc := 1418) d_L_1418 rfl ?_
  refine oe_aload_n (pc := 1419) d_L_1419 rfl ?_
  refine oe_iload_n (pc := 1420) d_L_1420 rfl ?_
  refine oe_iconst (pc := 1421) (v := 1) d_L_1421 rfl ?_
  refine oe_iadd (pc := 1422) d_L_1422 ?_
  refine oe_sld (pc := 1423) d_L_1423 g1 ?_
  refine oe_aload_n (pc := 1424) d_L_1424 rfl ?_
  refine oe_iload_n (pc := 1425) d_L_1425 rfl ?_
  refine oe_iconst (pc := 1426) (v := 2) d_L_1426 rfl ?_
  refine oe_iadd (pc := 1427) d_L_1427 ?_
  refine oe_sld (pc := 1428) d_L_1428 g2 ?_
  refine oe_aload_n (pc := 1429) d_L_1429 rfl ?_
  refine oe_iload_n (pc := 1430) d_L_1430 rfl ?_
  refine oe_iconst (pc := 1431) (v := 3) d_L_1431 rfl ?_
  refine oe_iadd (pc := 1432) d_L_1432 ?_
  refine oe_sld (pc := 1433) d_L_1433 g3 ?_
  refine oe_callV (pc := 1434) (ci := 12) d_L_1434 hm2 hd2 ml_L_161 jJ_X12_act rfl rfl hb2 hs2 ock12 rfl (Nat.le_of_ble_eq_true rfl) ⟨hk2.1, hk3.1⟩ ⟨hk2.2, hk3.2⟩ ?_
  refine oe_icmp_eq (pc := 1437) (tgt := 1767) d_L_1437 (by decide) (fun _ => ?_) (fun c => absurd rfl c)
  refine oe_iinc (pc := 1767) (v := i + 6) (L2 := [_, _, _, _]) d_L_1767 rfl rfl rfl (Nat.le_of_ble_eq_true rfl) rfl ?_
  exact oe_goto (pc := 1770) (tgt := 18) d_L_1770 (by decide) kk
theorem lc_36 {X : oX} {d d1 d2 : Nat} {i : Int32} {r : Int32} {K K1 K2 K' : oK} {M M1 M2 M' : oM} (g1 : vp_in (i + 1) X.1) (hm1 : oMet X d1 J_X11_trace [.ref 0, .int (X.2 (i + 1).toNatClampNeg)] K M (some (.int r)) K1 M1) (hm2 : oMet X d2 J_X12_trace [.ref 59, .int (X.2 (i + 1).toNatClampNeg)] K1 M1 (some (.int r)) K2 M2) (hd1 : d1 < d) (hd2 : d2 < d) (hb1 : 0 < K.1) (hs1 : (K.2.2.1 0).1 = 11 + 6) (hb2 : 59 < K1.1) (hs2 : (K1.2.2.1 59).1 = 12 + 6) (hk1 : K.1 ≤ K1.1 ∧ K.2.1 ≤ K1.2.1) (hk2 : K1.1 ≤ K2.1 ∧ K1.2.1 ≤ K2.2.1) (hk3 : K2.1 ≤ K'.1 ∧ K2.2.1 ≤ K'.2.1)
    (kk : oEv X d J_L 18 [some (.ref 1000000), some (.ref 0), some (.ref 59), some (.int (i + 6))] [] K2 M2 (some (.int 1)) K' M') : oEv X d J_L 1442 [some (.ref 1000000), some (.ref 0), some (.ref 59), some (.int i)] [] K M (some (.int 1)) K' M' := by
  refine oe_aload_n (pc := 1442) d_L_1442 rfl ?_
  refine oe_aload_n (pc := 1443) d_L_1443 rfl ?_
  refine oe_iload_n (pc := 1444) d_L_1444 rfl ?_
  refine oe_iconst (pc := 1445) (v := 1) d_L_1445 rfl ?_
  refine oe_iadd (pc := 1446) d_L_1446 ?_
  refine oe_sld (pc := 1447) d_L_1447 g1 ?_
  refine oe_callV (pc := 1448) (ci := 11) d_L_1448 hm1 hd1 ml_L_162 jJ_X11_trace rfl rfl hb1 hs1 ock11 rfl (Nat.le_of_ble_eq_true rfl) ⟨hk1.1, Nat.le_trans hk2.1 hk3.1⟩ ⟨hk1.2, Nat.le_trans hk2.2 hk3.2⟩ ?_
  refine oe_aload_n (pc := 1451) d_L_1451 rfl ?_
  refine oe_aload_n (pc := 1452) d_L_1452 rfl ?_
  refine oe_iload_n (pc := 1453) d_L_1453 rfl ?_
  refine oe_iconst (pc := 1454) (v := 1) d_L_1454 rfl ?_
  refine oe_iadd (pc := 1455) d_L_1455 ?_
  refine oe_sld (pc := 1456) d_L_1456 g1 ?_
  refine oe_callV (pc := 1457) (ci := 12) d_L_1457 hm2 hd2 ml_L_165 jJ_X12_trace rfl rfl hb2 hs2 ock12 rfl (Nat.le_of_ble_eq_true rfl) ⟨hk2.1, hk3.1⟩ ⟨hk2.2, hk3.2⟩ ?_
  refine oe_icmp_eq (pc := 1460) (tgt := 1767) d_L_1460 (by decide) (fun _ => ?_) (fun c => absurd rfl c)
  refine oe_iinc (pc := 1767) (v := i + 6) (L2 := [_, _, _, _]) d_L_1767 rfl rfl rfl (Nat.le_of_ble_eq_true rfl) rfl ?_
  exact oe_goto (pc := 1770) (tgt := 18) d_L_1770 (by decide) kk
theorem lc_37 {X : oX} {d d1 d2 : Nat} {i : Int32} {r : Int32} {K K1 K2 K' : oK} {M M1 M2 M' : oM} (g1 : vp_in (i + 1) X.1) (g2 : vp_in (i + 2) X.1) (hm1 : oMet X d1 J_X11_keep [.ref 0, .int (X.2 (i + 1).toNatClampNeg), .int (X.2 (i + 2).toNatClampNeg)] K M (some (.int r)) K1 M1) (hm2 : oMet X d2 J_X12_keep [.ref 59, .int (X.2 (i + 1).toNatClampNeg), .int (X.2 (i + 2).toNatClampNeg)] K1 M1 (some (.int r)) K2 M2) (hd1 : d1 < d) (hd2 : d2 < d) (hb1 : 0 < K.1) (hs1 : (K.2.2.1 0).1 = 11 + 6) (hb2 : 59 < K1.1) (hs2 : (K1.2.2.1 59).1 = 12 + 6) (hk1 : K.1 ≤ K1.1 ∧ K.2.1 ≤ K1.2.1) (hk2 : K1.1 ≤ K2.1 ∧ K1.2.1 ≤ K2.2.1) (hk3 : K2.1 ≤ K'.1 ∧ K2.2.1 ≤ K'.2.1)
    (kk : oEv X d J_L 18 [some (.ref 1000000), some (.ref 0), some (.ref 59), some (.int (i + 6))] [] K2 M2 (some (.int 1)) K' M') : oEv X d J_L 1465 [some (.ref 1000000), some (.ref 0), some (.ref 59), some (.int i)] [] K M (some (.int 1)) K' M' := by
  refine oe_aload_n (pc := 1465) d_L_1465 rfl ?_
  refine oe_aload_n (pc := 1466) d_L_1466 rfl ?_
  refine oe_iload_n (pc := 1467) d_L_1467 rfl ?_
  refine oe_iconst (pc := 1468) (v := 1) d_L_1468 rfl ?_
  refine oe_iadd (pc := 1469) d_L_1469 ?_
  refine oe_sld (pc := 1470) d_L_1470 g1 ?_
  refine oe_aload_n (pc := 1471) d_L_1471 rfl ?_
  refine oe_iload_n (pc := 1472) d_L_1472 rfl ?_
  refine oe_iconst (pc := 1473) (v := 2) d_L_1473 rfl ?_
  refine oe_iadd (pc := 1474) d_L_1474 ?_
  refine oe_sld (pc := 1475) d_L_1475 g2 ?_
  refine oe_callV (pc := 1476) (ci := 11) d_L_1476 hm1 hd1 ml_L_166 jJ_X11_keep rfl rfl hb1 hs1 ock11 rfl (Nat.le_of_ble_eq_true rfl) ⟨hk1.1, Nat.le_trans hk2.1 hk3.1⟩ ⟨hk1.2, Nat.le_trans hk2.2 hk3.2⟩ ?_
  refine oe_aload_n (pc := 1479) d_L_1479 rfl ?_
  refine oe_aload_n (pc := 1480) d_L_1480 rfl ?_
  refine oe_iload_n (pc := 1481) d_L_1481 rfl ?_
  refine oe_iconst (pc := 1482) (v := 1) d_L_1482 rfl ?_
  refine oe_iadd (pc := 1483) d_L_1483 ?_
  refine oe_sld (pc := 1484) d_L_1484 g1 ?_
  refine oe_aload_n (pc := 1485) d_L_1485 rfl ?_
  refine oe_iload_n (pc := 1486) d_L_1486 rfl ?_
  refine oe_iconst (pc := 1487) (v := 2) d_L_1487 rfl ?_
  refine oe_iadd (pc := 1488) d_L_1488 ?_
  refine oe_sld (pc := 1489) d_L_1489 g2 ?_
  refine oe_callV (pc := 1490) (ci := 12) d_L_1490 hm2 hd2 ml_L_169 jJ_X12_keep rfl rfl hb2 hs2 ock12 rfl (Nat.le_of_ble_eq_true rfl) ⟨hk2.1, hk3.1⟩ ⟨hk2.2, hk3.2⟩ ?_
  refine oe_icmp_eq (pc := 1493) (tgt := 1767) d_L_1493 (by decide) (fun _ => ?_) (fun c => absurd rfl c)
  refine oe_iinc (pc := 1767) (v := i + 6) (L2 := [_, _, _, _]) d_L_1767 rfl rfl rfl (Nat.le_of_ble_eq_true rfl) rfl ?_
  exact oe_goto (pc := 1770) (tgt := 18) d_L_1770 (by decide) kk
theorem lc_38 {X : oX} {d d1 d2 : Nat} {i : Int32} {r : Int32} {K K1 K2 K' : oK} {M M1 M2 M' : oM} (g1 : vp_in (i + 1) X.1) (g2 : vp_in (i + 2) X.1) (g3 : vp_in (i + 3) X.1) (hm1 : oMet X d1 J_X11_row [.ref 0, .int (X.2 (i + 1).toNatClampNeg), .int (X.2 (i + 2).toNatClampNeg), .int (X.2 (i + 3).toNatClampNeg)] K M (some (.int r)) K1 M1) (hm2 : oMet X d2 J_X12_row [.ref 59, .int (X.2 (i + 1).toNatClampNeg), .int (X.2 (i + 2).toNatClampNeg), .int (X.2 (i + 3).toNatClampNeg)] K1 M1 (some (.int r)) K2 M2) (hd1 : d1 < d) (hd2 : d2 < d) (hb1 : 0 < K.1) (hs1 : (K.2.2.1 0).1 = 11 + 6) (hb2 : 59 < K1.1) (hs2 : (K1.2.2.1 59).1 = 12 + 6) (hk1 : K.1 ≤ K1.1 ∧ K.2.1 ≤ K1.2.1) (hk2 : K1.1 ≤ K2.1 ∧ K1.2.1 ≤ K2.2.1) (hk3 : K2.1 ≤ K'.1 ∧ K2.2.1 ≤ K'.2.1)
    (kk : oEv X d J_L 18 [some (.ref 1000000), some (.ref 0), some (.ref 59), some (.int (i + 6))] [] K2 M2 (some (.int 1)) K' M') : oEv X d J_L 1498 [some (.ref 1000000), some (.ref 0), some (.ref 59), some (.int i)] [] K M (some (.int 1)) K' M' := by
  refine oe_aload_n (pc := 1498) d_L_1498 rfl ?_
  refine oe_aload_n (pc := 1499) d_L_1499 rfl ?_
  refine oe_iload_n (pc := 1500) d_L_1500 rfl ?_
  refine oe_iconst (pc := 1501) (v := 1) d_L_1501 rfl ?_
  refine oe_iadd (pc := 1502) d_L_1502 ?_
  refine oe_sld (pc := 1503) d_L_1503 g1 ?_
  refine oe_aload_n (pc := 1504) d_L_1504 rfl ?_
  refine oe_iload_n (pc := 1505) d_L_1505 rfl ?_
  refine oe_iconst (pc := 1506) (v := 2) d_L_1506 rfl ?_
  refine oe_iadd (pc := 1507) d_L_1507 ?_
  refine oe_sld (pc := 1508) d_L_1508 g2 ?_
  refine oe_aload_n (pc := 1509) d_L_1509 rfl ?_
  refine oe_iload_n (pc := 1510) d_L_1510 rfl ?_
  refine oe_iconst (pc := 1511) (v := 3) d_L_1511 rfl ?_
  refine oe_iadd (pc := 1512) d_L_1512 ?_
  refine oe_sld (pc := 1513) d_L_1513 g3 ?_
  refine oe_callV (pc := 1514) (ci := 11) d_L_1514 hm1 hd1 ml_L_170 jJ_X11_row rfl rfl hb1 hs1 ock11 rfl (Nat.le_of_ble_eq_true rfl) ⟨hk1.1, Nat.le_trans hk2.1 hk3.1⟩ ⟨hk1.2, Nat.le_trans hk2.2 hk3.2⟩ ?_
  refine oe_aload_n (pc := 1517) d_L_1517 rfl ?_
  refine oe_aload_n (pc := 1518) d_L_1518 rfl ?_
  refine oe_iload_n (pc := 1519) d_L_1519 rfl ?_
  refine oe_iconst (pc := 1520) (v := 1) d_L_1520 rfl ?_
  refine oe_iadd (pc := 1521) d_L_1521 ?_
  refine oe_sld (pc := 1522) d_L_1522 g1 ?_
  refine oe_aload_n (pc := 1523) d_L_1523 rfl ?_
  refine oe_iload_n (pc := 1524) d_L_1524 rfl ?_
  refine oe_iconst (pc := 1525) (v := 2) d_L_1525 rfl ?_
  refine oe_iadd (pc := 1526) d_L_1526 ?_
  refine oe_sld (pc := 1527) d_L_1527 g2 ?_
  refine oe_aload_n (pc := 1528) d_L_1528 rfl ?_
  refine oe_iload_n (pc := 1529) d_L_1529 rfl ?_
  refine oe_iconst (pc := 1530) (v := 3) d_L_1530 rfl ?_
  refine oe_iadd (pc := 1531) d_L_1531 ?_
  refine oe_sld (pc := 1532) d_L_1532 g3 ?_
  refine oe_callV (pc := 1533) (ci := 12) d_L_1533 hm2 hd2 ml_L_173 jJ_X12_row rfl rfl hb2 hs2 ock12 rfl (Nat.le_of_ble_eq_true rfl) ⟨hk2.1, hk3.1⟩ ⟨hk2.2, hk3.2⟩ ?_
  refine oe_icmp_eq (pc := 1536) (tgt := 1767) d_L_1536 (by decide) (fun _ => ?_) (fun c => absurd rfl c)
  refine oe_iinc (pc := 1767) (v := i + 6) (L2 := [_, _, _, _]) d_L_1767 rfl rfl rfl (Nat.le_of_ble_eq_true rfl) rfl ?_
  exact oe_goto (pc := 1770) (tgt := 18) d_L_1770 (by decide) kk
theorem lc_39 {X : oX} {d d1 d2 : Nat} {i : Int32} {r : Int32} {K K1 K2 K' : oK} {M M1 M2 M' : oM} (g1 : vp_in (i + 1) X.1) (g2 : vp_in (i + 2) X.1) (g3 : vp_in (i + 3) X.1) (g4 : vp_in (i + 4) X.1) (hm1 : oMet X d1 J_X11_put [.ref 0, .int (X.2 (i + 1).toNatClampNeg), .int (X.2 (i + 2).toNatClampNeg), .long ((((X.2 (i + 3).toNatClampNeg)).toInt64 <<< ((32 : Int32).toInt64 &&& 63)) ||| (((X.2 (i + 4).toNatClampNeg)).toInt64 &&& 4294967295))] K M (some (.int r)) K1 M1) (hm2 : oMet X d2 J_X12_put [.ref 59, .int (X.2 (i + 1).toNatClampNeg), .int (X.2 (i + 2).toNatClampNeg), .long ((((X.2 (i + 3).toNatClampNeg)).toInt64 <<< ((32 : Int32).toInt64 &&& 63)) ||| (((X.2 (i + 4).toNatClampNeg)).toInt64 &&& 4294967295))] K1 M1 (some (.int r)) K2 M2) (hd1 : d1 < d) (hd2 : d2 < d) (hb1 : 0 < K.1) (hs1 : (K.2.2.1 0).1 = 11 + 6) (hb2 : 59 < K1.1) (hs2 : (K1.2.2.1 59).1 = 12 + 6) (hk1 : K.1 ≤ K1.1 ∧ K.2.1 ≤ K1.2.1) (hk2 : K1.1 ≤ K2.1 ∧ K1.2.1 ≤ K2.2.1) (hk3 : K2.1 ≤ K'.1 ∧ K2.2.1 ≤ K'.2.1)
    (kk : oEv X d J_L 18 [some (.ref 1000000), some (.ref 0), some (.ref 59), some (.int (i + 6))] [] K2 M2 (some (.int 1)) K' M') : oEv X d J_L 1541 [some (.ref 1000000), some (.ref 0), some (.ref 59), some (.int i)] [] K M (some (.int 1)) K' M' := by
  refine oe_aload_n (pc := 1541) d_L_1541 rfl ?_
  refine oe_aload_n (pc := 1542) d_L_1542 rfl ?_
  refine oe_iload_n (pc := 1543) d_L_1543 rfl ?_
  refine oe_iconst (pc := 1544) (v := 1) d_L_1544 rfl ?_
  refine oe_iadd (pc := 1545) d_L_1545 ?_
  refine oe_sld (pc := 1546) d_L_1546 g1 ?_
  refine oe_aload_n (pc := 1547) d_L_1547 rfl ?_
  refine oe_iload_n (pc := 1548) d_L_1548 rfl ?_
  refine oe_iconst (pc := 1549) (v := 2) d_L_1549 rfl ?_
  refine oe_iadd (pc := 1550) d_L_1550 ?_
  refine oe_sld (pc := 1551) d_L_1551 g2 ?_
  refine oe_aload_n (pc := 1552) d_L_1552 rfl ?_
  refine oe_iload_n (pc := 1553) d_L_1553 rfl ?_
  refine oe_iconst (pc := 1554) (v := 3) d_L_1554 rfl ?_
  refine oe_iadd (pc := 1555) d_L_1555 ?_
  refine oe_sld (pc := 1556) d_L_1556 g3 ?_
  refine oe_i2l (pc := 1557) d_L_1557 ?_
  refine oe_bipush (pc := 1558) (v := 32) d_L_1558 rfl ?_
  refine oe_lshl (pc := 1560) d_L_1560 ?_
  refine oe_aload_n (pc := 1561) d_L_1561 rfl ?_
  refine oe_iload_n (pc := 1562) d_L_1562 rfl ?_
  refine oe_iconst (pc := 1563) (v := 4) d_L_1563 rfl ?_
  refine oe_iadd (pc := 1564) d_L_1564 ?_
  refine oe_sld (pc := 1565) d_L_1565 g4 ?_
  refine oe_i2l (pc := 1566) d_L_1566 ?_
  refine oe_ldc2 (pc := 1567) d_L_1567 co_L_174 ?_
  refine oe_land (pc := 1570) d_L_1570 ?_
  refine oe_lor (pc := 1571) d_L_1571 ?_
  refine oe_callV (pc := 1572) (ci := 11) d_L_1572 hm1 hd1 ml_L_176 jJ_X11_put rfl rfl hb1 hs1 ock11 rfl (Nat.le_of_ble_eq_true rfl) ⟨hk1.1, Nat.le_trans hk2.1 hk3.1⟩ ⟨hk1.2, Nat.le_trans hk2.2 hk3.2⟩ ?_
  refine oe_aload_n (pc := 1575) d_L_1575 rfl ?_
  refine oe_aload_n (pc := 1576) d_L_1576 rfl ?_
  refine oe_iload_n (pc := 1577) d_L_1577 rfl ?_
  refine oe_iconst (pc := 1578) (v := 1) d_L_1578 rfl ?_
  refine oe_iadd (pc := 1579) d_L_1579 ?_
  refine oe_sld (pc := 1580) d_L_1580 g1 ?_
  refine oe_aload_n (pc := 1581) d_L_1581 rfl ?_
  refine oe_iload_n (pc := 1582) d_L_1582 rfl ?_
  refine oe_iconst (pc := 1583) (v := 2) d_L_1583 rfl ?_
  refine oe_iadd (pc := 1584) d_L_1584 ?_
  refine oe_sld (pc := 1585) d_L_1585 g2 ?_
  refine oe_aload_n (pc := 1586) d_L_1586 rfl ?_
  refine oe_iload_n (pc := 1587) d_L_1587 rfl ?_
  refine oe_iconst (pc := 1588) (v := 3) d_L_1588 rfl ?_
  refine oe_iadd (pc := 1589) d_L_1589 ?_
  refine oe_sld (pc := 1590) d_L_1590 g3 ?_
  refine oe_i2l (pc := 1591) d_L_1591 ?_
  refine oe_bipush (pc := 1592) (v := 32) d_L_1592 rfl ?_
  refine oe_lshl (pc := 1594) d_L_1594 ?_
  refine oe_aload_n (pc := 1595) d_L_1595 rfl ?_
  refine oe_iload_n (pc := 1596) d_L_1596 rfl ?_
  refine oe_iconst (pc := 1597) (v := 4) d_L_1597 rfl ?_
  refine oe_iadd (pc := 1598) d_L_1598 ?_
  refine oe_sld (pc := 1599) d_L_1599 g4 ?_
  refine oe_i2l (pc := 1600) d_L_1600 ?_
  refine oe_ldc2 (pc := 1601) d_L_1601 co_L_174 ?_
  refine oe_land (pc := 1604) d_L_1604 ?_
  refine oe_lor (pc := 1605) d_L_1605 ?_
  refine oe_callV (pc := 1606) (ci := 12) d_L_1606 hm2 hd2 ml_L_180 jJ_X12_put rfl rfl hb2 hs2 ock12 rfl (Nat.le_of_ble_eq_true rfl) ⟨hk2.1, hk3.1⟩ ⟨hk2.2, hk3.2⟩ ?_
  refine oe_icmp_eq (pc := 1609) (tgt := 1767) d_L_1609 (by decide) (fun _ => ?_) (fun c => absurd rfl c)
  refine oe_iinc (pc := 1767) (v := i + 6) (L2 := [_, _, _, _]) d_L_1767 rfl rfl rfl (Nat.le_of_ble_eq_true rfl) rfl ?_
  exact oe_goto (pc := 1770) (tgt := 18) d_L_1770 (by decide) kk
theorem lc_40 {X : oX} {d d1 d2 : Nat} {i : Int32} {r : Int64} {K K1 K2 K' : oK} {M M1 M2 M' : oM} (g1 : vp_in (i + 1) X.1) (g2 : vp_in (i + 2) X.1) (hm1 : oMet X d1 J_X11_element [.ref 0, .int (X.2 (i + 1).toNatClampNeg), .int (X.2 (i + 2).toNatClampNeg)] K M (some (.long r)) K1 M1) (hm2 : oMet X d2 J_X12_element [.ref 59, .int (X.2 (i + 1).toNatClampNeg), .int (X.2 (i + 2).toNatClampNeg)] K1 M1 (some (.long r)) K2 M2) (hd1 : d1 < d) (hd2 : d2 < d) (hb1 : 0 < K.1) (hs1 : (K.2.2.1 0).1 = 11 + 6) (hb2 : 59 < K1.1) (hs2 : (K1.2.2.1 59).1 = 12 + 6) (hk1 : K.1 ≤ K1.1 ∧ K.2.1 ≤ K1.2.1) (hk2 : K1.1 ≤ K2.1 ∧ K1.2.1 ≤ K2.2.1) (hk3 : K2.1 ≤ K'.1 ∧ K2.2.1 ≤ K'.2.1)
    (kk : oEv X d J_L 18 [some (.ref 1000000), some (.ref 0), some (.ref 59), some (.int (i + 6))] [] K2 M2 (some (.int 1)) K' M') : oEv X d J_L 1614 [some (.ref 1000000), some (.ref 0), some (.ref 59), some (.int i)] [] K M (some (.int 1)) K' M' := by
  refine oe_aload_n (pc := 1614) d_L_1614 rfl ?_
  refine oe_aload_n (pc := 1615) d_L_1615 rfl ?_
  refine oe_iload_n (pc := 1616) d_L_1616 rfl ?_
  refine oe_iconst (pc := 1617) (v := 1) d_L_1617 rfl ?_
  refine oe_iadd (pc := 1618) d_L_1618 ?_
  refine oe_sld (pc := 1619) d_L_1619 g1 ?_
  refine oe_aload_n (pc := 1620) d_L_1620 rfl ?_
  refine oe_iload_n (pc := 1621) d_L_1621 rfl ?_
  refine oe_iconst (pc := 1622) (v := 2) d_L_1622 rfl ?_
  refine oe_iadd (pc := 1623) d_L_1623 ?_
  refine oe_sld (pc := 1624) d_L_1624 g2 ?_
  refine oe_callV (pc := 1625) (ci := 11) d_L_1625 hm1 hd1 ml_L_181 jJ_X11_element rfl rfl hb1 hs1 ock11 rfl (Nat.le_of_ble_eq_true rfl) ⟨hk1.1, Nat.le_trans hk2.1 hk3.1⟩ ⟨hk1.2, Nat.le_trans hk2.2 hk3.2⟩ ?_
  refine oe_aload_n (pc := 1628) d_L_1628 rfl ?_
  refine oe_aload_n (pc := 1629) d_L_1629 rfl ?_
  refine oe_iload_n (pc := 1630) d_L_1630 rfl ?_
  refine oe_iconst (pc := 1631) (v := 1) d_L_1631 rfl ?_
  refine oe_iadd (pc := 1632) d_L_1632 ?_
  refine oe_sld (pc := 1633) d_L_1633 g1 ?_
  refine oe_aload_n (pc := 1634) d_L_1634 rfl ?_
  refine oe_iload_n (pc := 1635) d_L_1635 rfl ?_
  refine oe_iconst (pc := 1636) (v := 2) d_L_1636 rfl ?_
  refine oe_iadd (pc := 1637) d_L_1637 ?_
  refine oe_sld (pc := 1638) d_L_1638 g2 ?_
  refine oe_callV (pc := 1639) (ci := 12) d_L_1639 hm2 hd2 ml_L_185 jJ_X12_element rfl rfl hb2 hs2 ock12 rfl (Nat.le_of_ble_eq_true rfl) ⟨hk2.1, hk3.1⟩ ⟨hk2.2, hk3.2⟩ ?_
  refine oe_lcmp (pc := 1642) d_L_1642 ?_
  refine oe_if_eq (pc := 1643) (tgt := 1767) d_L_1643 (by decide) (fun _ => ?_) (fun c => absurd (oCmp r) c)
  refine oe_iinc (pc := 1767) (v := i + 6) (L2 := [_, _, _, _]) d_L_1767 rfl rfl rfl (Nat.le_of_ble_eq_true rfl) rfl ?_
  exact oe_goto (pc := 1770) (tgt := 18) d_L_1770 (by decide) kk
theorem lc_41 {X : oX} {d d1 d2 : Nat} {i : Int32} {r : Int32} {K K1 K2 K' : oK} {M M1 M2 M' : oM} (g1 : vp_in (i + 1) X.1) (g2 : vp_in (i + 2) X.1) (g3 : vp_in (i + 3) X.1) (g4 : vp_in (i + 4) X.1) (g5 : vp_in (i + 5) X.1) (hm1 : oMet X d1 J_X11_shift [.ref 0, .int (X.2 (i + 1).toNatClampNeg), .int (X.2 (i + 2).toNatClampNeg), .int (X.2 (i + 3).toNatClampNeg), .int (X.2 (i + 4).toNatClampNeg), .int (X.2 (i + 5).toNatClampNeg)] K M (some (.int r)) K1 M1) (hm2 : oMet X d2 J_X12_shift [.ref 59, .int (X.2 (i + 1).toNatClampNeg), .int (X.2 (i + 2).toNatClampNeg), .int (X.2 (i + 3).toNatClampNeg), .int (X.2 (i + 4).toNatClampNeg), .int (X.2 (i + 5).toNatClampNeg)] K1 M1 (some (.int r)) K2 M2) (hd1 : d1 < d) (hd2 : d2 < d) (hb1 : 0 < K.1) (hs1 : (K.2.2.1 0).1 = 11 + 6) (hb2 : 59 < K1.1) (hs2 : (K1.2.2.1 59).1 = 12 + 6) (hk1 : K.1 ≤ K1.1 ∧ K.2.1 ≤ K1.2.1) (hk2 : K1.1 ≤ K2.1 ∧ K1.2.1 ≤ K2.2.1) (hk3 : K2.1 ≤ K'.1 ∧ K2.2.1 ≤ K'.2.1)
    (kk : oEv X d J_L 18 [some (.ref 1000000), some (.ref 0), some (.ref 59), some (.int (i + 6))] [] K2 M2 (some (.int 1)) K' M') : oEv X d J_L 1648 [some (.ref 1000000), some (.ref 0), some (.ref 59), some (.int i)] [] K M (some (.int 1)) K' M' := by
  refine oe_aload_n (pc := 1648) d_L_1648 rfl ?_
  refine oe_aload_n (pc := 1649) d_L_1649 rfl ?_
  refine oe_iload_n (pc := 1650) d_L_1650 rfl ?_
  refine oe_iconst (pc := 1651) (v := 1) d_L_1651 rfl ?_
  refine oe_iadd (pc := 1652) d_L_1652 ?_
  refine oe_sld (pc := 1653) d_L_1653 g1 ?_
  refine oe_aload_n (pc := 1654) d_L_1654 rfl ?_
  refine oe_iload_n (pc := 1655) d_L_1655 rfl ?_
  refine oe_iconst (pc := 1656) (v := 2) d_L_1656 rfl ?_
  refine oe_iadd (pc := 1657) d_L_1657 ?_
  refine oe_sld (pc := 1658) d_L_1658 g2 ?_
  refine oe_aload_n (pc := 1659) d_L_1659 rfl ?_
  refine oe_iload_n (pc := 1660) d_L_1660 rfl ?_
  refine oe_iconst (pc := 1661) (v := 3) d_L_1661 rfl ?_
  refine oe_iadd (pc := 1662) d_L_1662 ?_
  refine oe_sld (pc := 1663) d_L_1663 g3 ?_
  refine oe_aload_n (pc := 1664) d_L_1664 rfl ?_
  refine oe_iload_n (pc := 1665) d_L_1665 rfl ?_
  refine oe_iconst (pc := 1666) (v := 4) d_L_1666 rfl ?_
  refine oe_iadd (pc := 1667) d_L_1667 ?_
  refine oe_sld (pc := 1668) d_L_1668 g4 ?_
  refine oe_aload_n (pc := 1669) d_L_1669 rfl ?_
  refine oe_iload_n (pc := 1670) d_L_1670 rfl ?_
  refine oe_iconst (pc := 1671) (v := 5) d_L_1671 rfl ?_
  refine oe_iadd (pc := 1672) d_L_1672 ?_
  refine oe_sld (pc := 1673) d_L_1673 g5 ?_
  refine oe_callV (pc := 1674) (ci := 11) d_L_1674 hm1 hd1 ml_L_186 jJ_X11_shift rfl rfl hb1 hs1 ock11 rfl (Nat.le_of_ble_eq_true rfl) ⟨hk1.1, Nat.le_trans hk2.1 hk3.1⟩ ⟨hk1.2, Nat.le_trans hk2.2 hk3.2⟩ ?_
  refine oe_aload_n (pc := 1677) d_L_1677 rfl ?_
  refine oe_aload_n (pc := 1678) d_L_1678 rfl ?_
  refine oe_iload_n (pc := 1679) d_L_1679 rfl ?_
  refine oe_iconst (pc := 1680) (v := 1) d_L_1680 rfl ?_
  refine oe_iadd (pc := 1681) d_L_1681 ?_
  refine oe_sld (pc := 1682) d_L_1682 g1 ?_
  refine oe_aload_n (pc := 1683) d_L_1683 rfl ?_
  refine oe_iload_n (pc := 1684) d_L_1684 rfl ?_
  refine oe_iconst (pc := 1685) (v := 2) d_L_1685 rfl ?_
  refine oe_iadd (pc := 1686) d_L_1686 ?_
  refine oe_sld (pc := 1687) d_L_1687 g2 ?_
  refine oe_aload_n (pc := 1688) d_L_1688 rfl ?_
  refine oe_iload_n (pc := 1689) d_L_1689 rfl ?_
  refine oe_iconst (pc := 1690) (v := 3) d_L_1690 rfl ?_
  refine oe_iadd (pc := 1691) d_L_1691 ?_
  refine oe_sld (pc := 1692) d_L_1692 g3 ?_
  refine oe_aload_n (pc := 1693) d_L_1693 rfl ?_
  refine oe_iload_n (pc := 1694) d_L_1694 rfl ?_
  refine oe_iconst (pc := 1695) (v := 4) d_L_1695 rfl ?_
  refine oe_iadd (pc := 1696) d_L_1696 ?_
  refine oe_sld (pc := 1697) d_L_1697 g4 ?_
  refine oe_aload_n (pc := 1698) d_L_1698 rfl ?_
  refine oe_iload_n (pc := 1699) d_L_1699 rfl ?_
  refine oe_iconst (pc := 1700) (v := 5) d_L_1700 rfl ?_
  refine oe_iadd (pc := 1701) d_L_1701 ?_
  refine oe_sld (pc := 1702) d_L_1702 g5 ?_
  refine oe_callV (pc := 1703) (ci := 12) d_L_1703 hm2 hd2 ml_L_190 jJ_X12_shift rfl rfl hb2 hs2 ock12 rfl (Nat.le_of_ble_eq_true rfl) ⟨hk2.1, hk3.1⟩ ⟨hk2.2, hk3.2⟩ ?_
  refine oe_icmp_eq (pc := 1706) (tgt := 1767) d_L_1706 (by decide) (fun _ => ?_) (fun c => absurd rfl c)
  refine oe_iinc (pc := 1767) (v := i + 6) (L2 := [_, _, _, _]) d_L_1767 rfl rfl rfl (Nat.le_of_ble_eq_true rfl) rfl ?_
  exact oe_goto (pc := 1770) (tgt := 18) d_L_1770 (by decide) kk
theorem lc_42 {X : oX} {d d1 d2 : Nat} {i : Int32} {r : Int32} {K K1 K2 K' : oK} {M M1 M2 M' : oM} (g1 : vp_in (i + 1) X.1) (g2 : vp_in (i + 2) X.1) (hm1 : oMet X d1 J_X11_taken [.ref 0, .int (X.2 (i + 1).toNatClampNeg), .int (X.2 (i + 2).toNatClampNeg)] K M (some (.int r)) K1 M1) (hm2 : oMet X d2 J_X12_taken [.ref 59, .int (X.2 (i + 1).toNatClampNeg), .int (X.2 (i + 2).toNatClampNeg)] K1 M1 (some (.int r)) K2 M2) (hd1 : d1 < d) (hd2 : d2 < d) (hb1 : 0 < K.1) (hs1 : (K.2.2.1 0).1 = 11 + 6) (hb2 : 59 < K1.1) (hs2 : (K1.2.2.1 59).1 = 12 + 6) (hk1 : K.1 ≤ K1.1 ∧ K.2.1 ≤ K1.2.1) (hk2 : K1.1 ≤ K2.1 ∧ K1.2.1 ≤ K2.2.1) (hk3 : K2.1 ≤ K'.1 ∧ K2.2.1 ≤ K'.2.1)
    (kk : oEv X d J_L 18 [some (.ref 1000000), some (.ref 0), some (.ref 59), some (.int (i + 6))] [] K2 M2 (some (.int 1)) K' M') : oEv X d J_L 1711 [some (.ref 1000000), some (.ref 0), some (.ref 59), some (.int i)] [] K M (some (.int 1)) K' M' := by
  refine oe_aload_n (pc := 1711) d_L_1711 rfl ?_
  refine oe_aload_n (pc := 1712) d_L_1712 rfl ?_
  refine oe_iload_n (pc := 1713) d_L_1713 rfl ?_
  refine oe_iconst (pc := 1714) (v := 1) d_L_1714 rfl ?_
  refine oe_iadd (pc := 1715) d_L_1715 ?_
  refine oe_sld (pc := 1716) d_L_1716 g1 ?_
  refine oe_aload_n (pc := 1717) d_L_1717 rfl ?_
  refine oe_iload_n (pc := 1718) d_L_1718 rfl ?_
  refine oe_iconst (pc := 1719) (v := 2) d_L_1719 rfl ?_
  refine oe_iadd (pc := 1720) d_L_1720 ?_
  refine oe_sld (pc := 1721) d_L_1721 g2 ?_
  refine oe_callV (pc := 1722) (ci := 11) d_L_1722 hm1 hd1 ml_L_191 jJ_X11_taken rfl rfl hb1 hs1 ock11 rfl (Nat.le_of_ble_eq_true rfl) ⟨hk1.1, Nat.le_trans hk2.1 hk3.1⟩ ⟨hk1.2, Nat.le_trans hk2.2 hk3.2⟩ ?_
  refine oe_aload_n (pc := 1725) d_L_1725 rfl ?_
  refine oe_aload_n (pc := 1726) d_L_1726 rfl ?_
  refine oe_iload_n (pc := 1727) d_L_1727 rfl ?_
  refine oe_iconst (pc := 1728) (v := 1) d_L_1728 rfl ?_
  refine oe_iadd (pc := 1729) d_L_1729 ?_
  refine oe_sld (pc := 1730) d_L_1730 g1 ?_
  refine oe_aload_n (pc := 1731) d_L_1731 rfl ?_
  refine oe_iload_n (pc := 1732) d_L_1732 rfl ?_
  refine oe_iconst (pc := 1733) (v := 2) d_L_1733 rfl ?_
  refine oe_iadd (pc := 1734) d_L_1734 ?_
  refine oe_sld (pc := 1735) d_L_1735 g2 ?_
  refine oe_callV (pc := 1736) (ci := 12) d_L_1736 hm2 hd2 ml_L_194 jJ_X12_taken rfl rfl hb2 hs2 ock12 rfl (Nat.le_of_ble_eq_true rfl) ⟨hk2.1, hk3.1⟩ ⟨hk2.2, hk3.2⟩ ?_
  refine oe_icmp_eq (pc := 1739) (tgt := 1767) d_L_1739 (by decide) (fun _ => ?_) (fun c => absurd rfl c)
  refine oe_iinc (pc := 1767) (v := i + 6) (L2 := [_, _, _, _]) d_L_1767 rfl rfl rfl (Nat.le_of_ble_eq_true rfl) rfl ?_
  exact oe_goto (pc := 1770) (tgt := 18) d_L_1770 (by decide) kk
theorem lc_43 {X : oX} {d d1 d2 : Nat} {i : Int32} {r : Int32} {K K1 K2 K' : oK} {M M1 M2 M' : oM} (g1 : vp_in (i + 1) X.1) (hm1 : oMet X d1 J_X11_count [.ref 0, .int (X.2 (i + 1).toNatClampNeg)] K M (some (.int r)) K1 M1) (hm2 : oMet X d2 J_X12_count [.ref 59, .int (X.2 (i + 1).toNatClampNeg)] K1 M1 (some (.int r)) K2 M2) (hd1 : d1 < d) (hd2 : d2 < d) (hb1 : 0 < K.1) (hs1 : (K.2.2.1 0).1 = 11 + 6) (hb2 : 59 < K1.1) (hs2 : (K1.2.2.1 59).1 = 12 + 6) (hk1 : K.1 ≤ K1.1 ∧ K.2.1 ≤ K1.2.1) (hk2 : K1.1 ≤ K2.1 ∧ K1.2.1 ≤ K2.2.1) (hk3 : K2.1 ≤ K'.1 ∧ K2.2.1 ≤ K'.2.1)
    (kk : oEv X d J_L 18 [some (.ref 1000000), some (.ref 0), some (.ref 59), some (.int (i + 6))] [] K2 M2 (some (.int 1)) K' M') : oEv X d J_L 1744 [some (.ref 1000000), some (.ref 0), some (.ref 59), some (.int i)] [] K M (some (.int 1)) K' M' := by
  refine oe_aload_n (pc := 1744) d_L_1744 rfl ?_
  refine oe_aload_n (pc := 1745) d_L_1745 rfl ?_
  refine oe_iload_n (pc := 1746) d_L_1746 rfl ?_
  refine oe_iconst (pc := 1747) (v := 1) d_L_1747 rfl ?_
  refine oe_iadd (pc := 1748) d_L_1748 ?_
  refine oe_sld (pc := 1749) d_L_1749 g1 ?_
  refine oe_callV (pc := 1750) (ci := 11) d_L_1750 hm1 hd1 ml_L_195 jJ_X11_count rfl rfl hb1 hs1 ock11 rfl (Nat.le_of_ble_eq_true rfl) ⟨hk1.1, Nat.le_trans hk2.1 hk3.1⟩ ⟨hk1.2, Nat.le_trans hk2.2 hk3.2⟩ ?_
  refine oe_aload_n (pc := 1753) d_L_1753 rfl ?_
  refine oe_aload_n (pc := 1754) d_L_1754 rfl ?_
  refine oe_iload_n (pc := 1755) d_L_1755 rfl ?_
  refine oe_iconst (pc := 1756) (v := 1) d_L_1756 rfl ?_
  refine oe_iadd (pc := 1757) d_L_1757 ?_
  refine oe_sld (pc := 1758) d_L_1758 g1 ?_
  refine oe_callV (pc := 1759) (ci := 12) d_L_1759 hm2 hd2 ml_L_198 jJ_X12_count rfl rfl hb2 hs2 ock12 rfl (Nat.le_of_ble_eq_true rfl) ⟨hk2.1, hk3.1⟩ ⟨hk2.2, hk3.2⟩ ?_
  refine oe_icmp_eq (pc := 1762) (tgt := 1767) d_L_1762 (by decide) (fun _ => ?_) (fun c => absurd rfl c)
  refine oe_iinc (pc := 1767) (v := i + 6) (L2 := [_, _, _, _]) d_L_1767 rfl rfl rfl (Nat.le_of_ble_eq_true rfl) rfl ?_
  exact oe_goto (pc := 1770) (tgt := 18) d_L_1770 (by decide) kk
