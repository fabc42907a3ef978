theorem dL_law_0 : decode cL_law 0 = .ok (.new 7, 3) := by decide +kernel
theorem dL_law_3 : decode cL_law 3 = .ok (.dup, 1) := by decide +kernel
theorem dL_law_4 : decode cL_law 4 = .ok (.invokespecial 9, 3) := by decide +kernel
theorem dL_law_7 : decode cL_law 7 = .ok (.astore_n 1, 1) := by decide +kernel
theorem dL_law_8 : decode cL_law 8 = .ok (.new 10, 3) := by decide +kernel
theorem dL_law_11 : decode cL_law 11 = .ok (.dup, 1) := by decide +kernel
theorem dL_law_12 : decode cL_law 12 = .ok (.invokespecial 12, 3) := by decide +kernel
theorem dL_law_15 : decode cL_law 15 = .ok (.astore_n 2, 1) := by decide +kernel
theorem dL_law_16 : decode cL_law 16 = .ok (.iconst 0, 1) := by decide +kernel
theorem dL_law_17 : decode cL_law 17 = .ok (.istore_n 3, 1) := by decide +kernel
theorem dL_law_18 : decode cL_law 18 = .ok (.iload_n 3, 1) := by decide +kernel
theorem dL_law_19 : decode cL_law 19 = .ok (.aload_n 0, 1) := by decide +kernel
theorem dL_law_20 : decode cL_law 20 = .ok (.arraylength, 1) := by decide +kernel
theorem dL_law_21 : decode cL_law 21 = .ok (.bipush 6, 2) := by decide +kernel
theorem dL_law_23 : decode cL_law 23 = .ok (.isub, 1) := by decide +kernel
theorem dL_law_24 : decode cL_law 24 = .ok (.if_icmp .gt 1667, 3) := by decide +kernel
theorem dL_law_27 : decode cL_law 27 = .ok (.aload_n 0, 1) := by decide +kernel
theorem dL_law_28 : decode cL_law 28 = .ok (.iload_n 3, 1) := by decide +kernel
theorem dL_law_29 : decode cL_law 29 = .ok (.iaload, 1) := by decide +kernel
theorem dL_law_30 : decode cL_law 30 = .ok (.bipush 63, 2) := by decide +kernel
theorem dL_law_32 : decode cL_law 32 = .ok (.iand, 1) := by decide +kernel
theorem dL_law_33 : decode cL_law 33 = .ok (.tableswitch 1652 0 40 #[179, 243, 347, 381, 415, 509, 573, 607, 631, 705, 779, 803, 827, 891, 925, 959, 993, 1017, 1061, 1085, 1149, 1213, 1277, 1291, 1305, 1319, 1342, 1365, 1388, 1411, 1435, 1458, 1491, 1515, 1539, 1553, 1576, 1589, 1602, 1625, 1638], 179) := by decide +kernel
theorem dL_law_212 : decode cL_law 212 = .ok (.aload_n 1, 1) := by decide +kernel
theorem dL_law_213 : decode cL_law 213 = .ok (.aload_n 0, 1) := by decide +kernel
theorem dL_law_214 : decode cL_law 214 = .ok (.iload_n 3, 1) := by decide +kernel
theorem dL_law_215 : decode cL_law 215 = .ok (.iconst 1, 1) := by decide +kernel
theorem dL_law_216 : decode cL_law 216 = .ok (.iadd, 1) := by decide +kernel
theorem dL_law_217 : decode cL_law 217 = .ok (.iaload, 1) := by decide +kernel
theorem dL_law_218 : decode cL_law 218 = .ok (.aload_n 0, 1) := by decide +kernel
theorem dL_law_219 : decode cL_law 219 = .ok (.iload_n 3, 1) := by decide +kernel
theorem dL_law_220 : decode cL_law 220 = .ok (.iconst 2, 1) := by decide +kernel
theorem dL_law_221 : decode cL_law 221 = .ok (.iadd, 1) := by decide +kernel
theorem dL_law_222 : decode cL_law 222 = .ok (.iaload, 1) := by decide +kernel
theorem dL_law_223 : decode cL_law 223 = .ok (.i2l, 1) := by decide +kernel
theorem dL_law_224 : decode cL_law 224 = .ok (.bipush 32, 2) := by decide +kernel
theorem dL_law_226 : decode cL_law 226 = .ok (.lshl, 1) := by decide +kernel
theorem dL_law_227 : decode cL_law 227 = .ok (.aload_n 0, 1) := by decide +kernel
theorem dL_law_228 : decode cL_law 228 = .ok (.iload_n 3, 1) := by decide +kernel
theorem dL_law_229 : decode cL_law 229 = .ok (.iconst 3, 1) := by decide +kernel
theorem dL_law_230 : decode cL_law 230 = .ok (.iadd, 1) := by decide +kernel
theorem dL_law_231 : decode cL_law 231 = .ok (.iaload, 1) := by decide +kernel
theorem dL_law_232 : decode cL_law 232 = .ok (.i2l, 1) := by decide +kernel
theorem dL_law_233 : decode cL_law 233 = .ok (.ldc2_w 13, 3) := by decide +kernel
theorem dL_law_236 : decode cL_law 236 = .ok (.land, 1) := by decide +kernel
theorem dL_law_237 : decode cL_law 237 = .ok (.lor, 1) := by decide +kernel
theorem dL_law_238 : decode cL_law 238 = .ok (.invokevirtual 15, 3) := by decide +kernel
theorem dL_law_241 : decode cL_law 241 = .ok (.aload_n 2, 1) := by decide +kernel
theorem dL_law_242 : decode cL_law 242 = .ok (.aload_n 0, 1) := by decide +kernel
theorem dL_law_243 : decode cL_law 243 = .ok (.iload_n 3, 1) := by decide +kernel
theorem dL_law_244 : decode cL_law 244 = .ok (.iconst 1, 1) := by decide +kernel
theorem dL_law_245 : decode cL_law 245 = .ok (.iadd, 1) := by decide +kernel
theorem dL_law_246 : decode cL_law 246 = .ok (.iaload, 1) := by decide +kernel
theorem dL_law_247 : decode cL_law 247 = .ok (.aload_n 0, 1) := by decide +kernel
theorem dL_law_248 : decode cL_law 248 = .ok (.iload_n 3, 1) := by decide +kernel
theorem dL_law_249 : decode cL_law 249 = .ok (.iconst 2, 1) := by decide +kernel
theorem dL_law_250 : decode cL_law 250 = .ok (.iadd, 1) := by decide +kernel
theorem dL_law_251 : decode cL_law 251 = .ok (.iaload, 1) := by decide +kernel
theorem dL_law_252 : decode cL_law 252 = .ok (.i2l, 1) := by decide +kernel
theorem dL_law_253 : decode cL_law 253 = .ok (.bipush 32, 2) := by decide +kernel
theorem dL_law_255 : decode cL_law 255 = .ok (.lshl, 1) := by decide +kernel
theorem dL_law_256 : decode cL_law 256 = .ok (.aload_n 0, 1) := by decide +kernel
theorem dL_law_257 : decode cL_law 257 = .ok (.iload_n 3, 1) := by decide +kernel
theorem dL_law_258 : decode cL_law 258 = .ok (.iconst 3, 1) := by decide +kernel
theorem dL_law_259 : decode cL_law 259 = .ok (.iadd, 1) := by decide +kernel
theorem dL_law_260 : decode cL_law 260 = .ok (.iaload, 1) := by decide +kernel
theorem dL_law_261 : decode cL_law 261 = .ok (.i2l, 1) := by decide +kernel
theorem dL_law_262 : decode cL_law 262 = .ok (.ldc2_w 13, 3) := by decide +kernel
theorem dL_law_265 : decode cL_law 265 = .ok (.land, 1) := by decide +kernel
theorem dL_law_266 : decode cL_law 266 = .ok (.lor, 1) := by decide +kernel
theorem dL_law_267 : decode cL_law 267 = .ok (.invokevirtual 19, 3) := by decide +kernel
theorem dL_law_270 : decode cL_law 270 = .ok (.lcmp, 1) := by decide +kernel
theorem dL_law_271 : decode cL_law 271 = .ok (.ifCond .eq 1414, 3) := by decide +kernel
theorem dL_law_274 : decode cL_law 274 = .ok (.iconst 0, 1) := by decide +kernel
theorem dL_law_275 : decode cL_law 275 = .ok (.ireturn, 1) := by decide +kernel
theorem dL_law_276 : decode cL_law 276 = .ok (.aload_n 1, 1) := by decide +kernel
theorem dL_law_277 : decode cL_law 277 = .ok (.aload_n 0, 1) := by decide +kernel
theorem dL_law_278 : decode cL_law 278 = .ok (.iload_n 3, 1) := by decide +kernel
theorem dL_law_279 : decode cL_law 279 = .ok (.iconst 1, 1) := by decide +kernel
theorem dL_law_280 : decode cL_law 280 = .ok (.iadd, 1) := by decide +kernel
theorem dL_law_281 : decode cL_law 281 = .ok (.iaload, 1) := by decide +kernel
theorem dL_law_282 : decode cL_law 282 = .ok (.aload_n 0, 1) := by decide +kernel
theorem dL_law_283 : decode cL_law 283 = .ok (.iload_n 3, 1) := by decide +kernel
theorem dL_law_284 : decode cL_law 284 = .ok (.iconst 2, 1) := by decide +kernel
theorem dL_law_285 : decode cL_law 285 = .ok (.iadd, 1) := by decide +kernel
theorem dL_law_286 : decode cL_law 286 = .ok (.iaload, 1) := by decide +kernel
theorem dL_law_287 : decode cL_law 287 = .ok (.i2l, 1) := by decide +kernel
theorem dL_law_288 : decode cL_law 288 = .ok (.bipush 32, 2) := by decide +kernel
theorem dL_law_290 : decode cL_law 290 = .ok (.lshl, 1) := by decide +kernel
theorem dL_law_291 : decode cL_law 291 = .ok (.aload_n 0, 1) := by decide +kernel
theorem dL_law_292 : decode cL_law 292 = .ok (.iload_n 3, 1) := by decide +kernel
theorem dL_law_293 : decode cL_law 293 = .ok (.iconst 3, 1) := by decide +kernel
theorem dL_law_294 : decode cL_law 294 = .ok (.iadd, 1) := by decide +kernel
theorem dL_law_295 : decode cL_law 295 = .ok (.iaload, 1) := by decide +kernel
theorem dL_law_296 : decode cL_law 296 = .ok (.i2l, 1) := by decide +kernel
theorem dL_law_297 : decode cL_law 297 = .ok (.ldc2_w 13, 3) := by decide +kernel
theorem dL_law_300 : decode cL_law 300 = .ok (.land, 1) := by decide +kernel
theorem dL_law_301 : decode cL_law 301 = .ok (.lor, 1) := by decide +kernel
theorem dL_law_302 : decode cL_law 302 = .ok (.aload_n 0, 1) := by decide +kernel
theorem dL_law_303 : decode cL_law 303 = .ok (.iload_n 3, 1) := by decide +kernel
theorem dL_law_304 : decode cL_law 304 = .ok (.iconst 4, 1) := by decide +kernel
theorem dL_law_305 : decode cL_law 305 = .ok (.iadd, 1) := by decide +kernel
theorem dL_law_306 : decode cL_law 306 = .ok (.iaload, 1) := by decide +kernel
theorem dL_law_307 : decode cL_law 307 = .ok (.i2l, 1) := by decide +kernel
theorem dL_law_308 : decode cL_law 308 = .ok (.bipush 32, 2) := by decide +kernel
theorem dL_law_310 : decode cL_law 310 = .ok (.lshl, 1) := by decide +kernel
theorem dL_law_311 : decode cL_law 311 = .ok (.aload_n 0, 1) := by decide +kernel
theorem dL_law_312 : decode cL_law 312 = .ok (.iload_n 3, 1) := by decide +kernel
theorem dL_law_313 : decode cL_law 313 = .ok (.iconst 5, 1) := by decide +kernel
theorem dL_law_314 : decode cL_law 314 = .ok (.iadd, 1) := by decide +kernel
theorem dL_law_315 : decode cL_law 315 = .ok (.iaload, 1) := by decide +kernel
theorem dL_law_316 : decode cL_law 316 = .ok (.i2l, 1) := by decide +kernel
theorem dL_law_317 : decode cL_law 317 = .ok (.ldc2_w 13, 3) := by decide +kernel
theorem dL_law_320 : decode cL_law 320 = .ok (.land, 1) := by decide +kernel
theorem dL_law_321 : decode cL_law 321 = .ok (.lor, 1) := by decide +kernel
theorem dL_law_322 : decode cL_law 322 = .ok (.invokevirtual 20, 3) := by decide +kernel
theorem dL_law_325 : decode cL_law 325 = .ok (.aload_n 2, 1) := by decide +kernel
theorem dL_law_326 : decode cL_law 326 = .ok (.aload_n 0, 1) := by decide +kernel
theorem dL_law_327 : decode cL_law 327 = .ok (.iload_n 3, 1) := by decide +kernel
theorem dL_law_328 : decode cL_law 328 = .ok (.iconst 1, 1) := by decide +kernel
theorem dL_law_329 : decode cL_law 329 = .ok (.iadd, 1) := by decide +kernel
theorem dL_law_330 : decode cL_law 330 = .ok (.iaload, 1) := by decide +kernel
theorem dL_law_331 : decode cL_law 331 = .ok (.aload_n 0, 1) := by decide +kernel
theorem dL_law_332 : decode cL_law 332 = .ok (.iload_n 3, 1) := by decide +kernel
theorem dL_law_333 : decode cL_law 333 = .ok (.iconst 2, 1) := by decide +kernel
theorem dL_law_334 : decode cL_law 334 = .ok (.iadd, 1) := by decide +kernel
theorem dL_law_335 : decode cL_law 335 = .ok (.iaload, 1) := by decide +kernel
theorem dL_law_336 : decode cL_law 336 = .ok (.i2l, 1) := by decide +kernel
theorem dL_law_337 : decode cL_law 337 = .ok (.bipush 32, 2) := by decide +kernel
theorem dL_law_339 : decode cL_law 339 = .ok (.lshl, 1) := by decide +kernel
theorem dL_law_340 : decode cL_law 340 = .ok (.aload_n 0, 1) := by decide +kernel
theorem dL_law_341 : decode cL_law 341 = .ok (.iload_n 3, 1) := by decide +kernel
theorem dL_law_342 : decode cL_law 342 = .ok (.iconst 3, 1) := by decide +kernel
theorem dL_law_343 : decode cL_law 343 = .ok (.iadd, 1) := by decide +kernel
theorem dL_law_344 : decode cL_law 344 = .ok (.iaload, 1) := by decide +kernel
theorem dL_law_345 : decode cL_law 345 = .ok (.i2l, 1) := by decide +kernel
theorem dL_law_346 : decode cL_law 346 = .ok (.ldc2_w 13, 3) := by decide +kernel
theorem dL_law_349 : decode cL_law 349 = .ok (.land, 1) := by decide +kernel
theorem dL_law_350 : decode cL_law 350 = .ok (.lor, 1) := by decide +kernel
theorem dL_law_351 : decode cL_law 351 = .ok (.aload_n 0, 1) := by decide +kernel
theorem dL_law_352 : decode cL_law 352 = .ok (.iload_n 3, 1) := by decide +kernel
theorem dL_law_353 : decode cL_law 353 = .ok (.iconst 4, 1) := by decide +kernel
theorem dL_law_354 : decode cL_law 354 = .ok (.iadd, 1) := by decide +kernel
theorem dL_law_355 : decode cL_law 355 = .ok (.iaload, 1) := by decide +kernel
theorem dL_law_356 : decode cL_law 356 = .ok (.i2l, 1) := by decide +kernel
theorem dL_law_357 : decode cL_law 357 = .ok (.bipush 32, 2) := by decide +kernel
theorem dL_law_359 : decode cL_law 359 = .ok (.lshl, 1) := by decide +kernel
theorem dL_law_360 : decode cL_law 360 = .ok (.aload_n 0, 1) := by decide +kernel
theorem dL_law_361 : decode cL_law 361 = .ok (.iload_n 3, 1) := by decide +kernel
theorem dL_law_362 : decode cL_law 362 = .ok (.iconst 5, 1) := by decide +kernel
theorem dL_law_363 : decode cL_law 363 = .ok (.iadd, 1) := by decide +kernel
theorem dL_law_364 : decode cL_law 364 = .ok (.iaload, 1) := by decide +kernel
theorem dL_law_365 : decode cL_law 365 = .ok (.i2l, 1) := by decide +kernel
theorem dL_law_366 : decode cL_law 366 = .ok (.ldc2_w 13, 3) := by decide +kernel
theorem dL_law_369 : decode cL_law 369 = .ok (.land, 1) := by decide +kernel
theorem dL_law_370 : decode cL_law 370 = .ok (.lor, 1) := by decide +kernel
theorem dL_law_371 : decode cL_law 371 = .ok (.invokevirtual 24, 3) := by decide +kernel
theorem dL_law_374 : decode cL_law 374 = .ok (.lcmp, 1) := by decide +kernel
theorem dL_law_375 : decode cL_law 375 = .ok (.ifCond .eq 1310, 3) := by decide +kernel
theorem dL_law_378 : decode cL_law 378 = .ok (.iconst 0, 1) := by decide +kernel
theorem dL_law_379 : decode cL_law 379 = .ok (.ireturn, 1) := by decide +kernel
theorem dL_law_380 : decode cL_law 380 = .ok (.aload_n 1, 1) := by decide +kernel
theorem dL_law_381 : decode cL_law 381 = .ok (.aload_n 0, 1) := by decide +kernel
theorem dL_law_382 : decode cL_law 382 = .ok (.iload_n 3, 1) := by decide +kernel
theorem dL_law_383 : decode cL_law 383 = .ok (.iconst 1, 1) := by decide +kernel
theorem dL_law_384 : decode cL_law 384 = .ok (.iadd, 1) := by decide +kernel
theorem dL_law_385 : decode cL_law 385 = .ok (.iaload, 1) := by decide +kernel
theorem dL_law_386 : decode cL_law 386 = .ok (.aload_n 0, 1) := by decide +kernel
theorem dL_law_387 : decode cL_law 387 = .ok (.iload_n 3, 1) := by decide +kernel
theorem dL_law_388 : decode cL_law 388 = .ok (.iconst 2, 1) := by decide +kernel
theorem dL_law_389 : decode cL_law 389 = .ok (.iadd, 1) := by decide +kernel
theorem dL_law_390 : decode cL_law 390 = .ok (.iaload, 1) := by decide +kernel
theorem dL_law_391 : decode cL_law 391 = .ok (.invokevirtual 25, 3) := by decide +kernel
theorem dL_law_394 : decode cL_law 394 = .ok (.aload_n 2, 1) := by decide +kernel
theorem dL_law_395 : decode cL_law 395 = .ok (.aload_n 0, 1) := by decide +kernel
theorem dL_law_396 : decode cL_law 396 = .ok (.iload_n 3, 1) := by decide +kernel
theorem dL_law_397 : decode cL_law 397 = .ok (.iconst 1, 1) := by decide +kernel
theorem dL_law_398 : decode cL_law 398 = .ok (.iadd, 1) := by decide +kernel
theorem dL_law_399 : decode cL_law 399 = .ok (.iaload, 1) := by decide +kernel
theorem dL_law_400 : decode cL_law 400 = .ok (.aload_n 0, 1) := by decide +kernel
theorem dL_law_401 : decode cL_law 401 = .ok (.iload_n 3, 1) := by decide +kernel
theorem dL_law_402 : decode cL_law 402 = .ok (.iconst 2, 1) := by decide +kernel
theorem dL_law_403 : decode cL_law 403 = .ok (.iadd, 1) := by decide +kernel
theorem dL_law_404 : decode cL_law 404 = .ok (.iaload, 1) := by decide +kernel
theorem dL_law_405 : decode cL_law 405 = .ok (.invokevirtual 29, 3) := by decide +kernel
theorem dL_law_408 : decode cL_law 408 = .ok (.lcmp, 1) := by decide +kernel
theorem dL_law_409 : decode cL_law 409 = .ok (.ifCond .eq 1276, 3) := by decide +kernel
theorem dL_law_412 : decode cL_law 412 = .ok (.iconst 0, 1) := by decide +kernel
theorem dL_law_413 : decode cL_law 413 = .ok (.ireturn, 1) := by decide +kernel
theorem dL_law_414 : decode cL_law 414 = .ok (.aload_n 1, 1) := by decide +kernel
theorem dL_law_415 : decode cL_law 415 = .ok (.aload_n 0, 1) := by decide +kernel
theorem dL_law_416 : decode cL_law 416 = .ok (.iload_n 3, 1) := by decide +kernel
theorem dL_law_417 : decode cL_law 417 = .ok (.iconst 1, 1) := by decide +kernel
theorem dL_law_418 : decode cL_law 418 = .ok (.iadd, 1) := by decide +kernel
theorem dL_law_419 : decode cL_law 419 = .ok (.iaload, 1) := by decide +kernel
theorem dL_law_420 : decode cL_law 420 = .ok (.aload_n 0, 1) := by decide +kernel
theorem dL_law_421 : decode cL_law 421 = .ok (.iload_n 3, 1) := by decide +kernel
theorem dL_law_422 : decode cL_law 422 = .ok (.iconst 2, 1) := by decide +kernel
theorem dL_law_423 : decode cL_law 423 = .ok (.iadd, 1) := by decide +kernel
theorem dL_law_424 : decode cL_law 424 = .ok (.iaload, 1) := by decide +kernel
theorem dL_law_425 : decode cL_law 425 = .ok (.invokevirtual 30, 3) := by decide +kernel
theorem dL_law_428 : decode cL_law 428 = .ok (.aload_n 2, 1) := by decide +kernel
theorem dL_law_429 : decode cL_law 429 = .ok (.aload_n 0, 1) := by decide +kernel
theorem dL_law_430 : decode cL_law 430 = .ok (.iload_n 3, 1) := by decide +kernel
theorem dL_law_431 : decode cL_law 431 = .ok (.iconst 1, 1) := by decide +kernel
theorem dL_law_432 : decode cL_law 432 = .ok (.iadd, 1) := by decide +kernel
theorem dL_law_433 : decode cL_law 433 = .ok (.iaload, 1) := by decide +kernel
theorem dL_law_434 : decode cL_law 434 = .ok (.aload_n 0, 1) := by decide +kernel
theorem dL_law_435 : decode cL_law 435 = .ok (.iload_n 3, 1) := by decide +kernel
theorem dL_law_436 : decode cL_law 436 = .ok (.iconst 2, 1) := by decide +kernel
theorem dL_law_437 : decode cL_law 437 = .ok (.iadd, 1) := by decide +kernel
theorem dL_law_438 : decode cL_law 438 = .ok (.iaload, 1) := by decide +kernel
theorem dL_law_439 : decode cL_law 439 = .ok (.invokevirtual 33, 3) := by decide +kernel
theorem dL_law_442 : decode cL_law 442 = .ok (.lcmp, 1) := by decide +kernel
theorem dL_law_443 : decode cL_law 443 = .ok (.ifCond .eq 1242, 3) := by decide +kernel
theorem dL_law_446 : decode cL_law 446 = .ok (.iconst 0, 1) := by decide +kernel
theorem dL_law_447 : decode cL_law 447 = .ok (.ireturn, 1) := by decide +kernel
theorem dL_law_448 : decode cL_law 448 = .ok (.aload_n 1, 1) := by decide +kernel
theorem dL_law_449 : decode cL_law 449 = .ok (.aload_n 0, 1) := by decide +kernel
theorem dL_law_450 : decode cL_law 450 = .ok (.iload_n 3, 1) := by decide +kernel
theorem dL_law_451 : decode cL_law 451 = .ok (.iconst 1, 1) := by decide +kernel
theorem dL_law_452 : decode cL_law 452 = .ok (.iadd, 1) := by decide +kernel
theorem dL_law_453 : decode cL_law 453 = .ok (.iaload, 1) := by decide +kernel
theorem dL_law_454 : decode cL_law 454 = .ok (.i2l, 1) := by decide +kernel
theorem dL_law_455 : decode cL_law 455 = .ok (.bipush 32, 2) := by decide +kernel
theorem dL_law_457 : decode cL_law 457 = .ok (.lshl, 1) := by decide +kernel
theorem dL_law_458 : decode cL_law 458 = .ok (.aload_n 0, 1) := by decide +kernel
theorem dL_law_459 : decode cL_law 459 = .ok (.iload_n 3, 1) := by decide +kernel
theorem dL_law_460 : decode cL_law 460 = .ok (.iconst 2, 1) := by decide +kernel
theorem dL_law_461 : decode cL_law 461 = .ok (.iadd, 1) := by decide +kernel
theorem dL_law_462 : decode cL_law 462 = .ok (.iaload, 1) := by decide +kernel
theorem dL_law_463 : decode cL_law 463 = .ok (.i2l, 1) := by decide +kernel
theorem dL_law_464 : decode cL_law 464 = .ok (.ldc2_w 13, 3) := by decide +kernel
theorem dL_law_467 : decode cL_law 467 = .ok (.land, 1) := by decide +kernel
theorem dL_law_468 : decode cL_law 468 = .ok (.lor, 1) := by decide +kernel
theorem dL_law_469 : decode cL_law 469 = .ok (.aload_n 0, 1) := by decide +kernel
theorem dL_law_470 : decode cL_law 470 = .ok (.iload_n 3, 1) := by decide +kernel
theorem dL_law_471 : decode cL_law 471 = .ok (.iconst 3, 1) := by decide +kernel
theorem dL_law_472 : decode cL_law 472 = .ok (.iadd, 1) := by decide +kernel
theorem dL_law_473 : decode cL_law 473 = .ok (.iaload, 1) := by decide +kernel
theorem dL_law_474 : decode cL_law 474 = .ok (.i2l, 1) := by decide +kernel
theorem dL_law_475 : decode cL_law 475 = .ok (.bipush 32, 2) := by decide +kernel
theorem dL_law_477 : decode cL_law 477 = .ok (.lshl, 1) := by decide +kernel
theorem dL_law_478 : decode cL_law 478 = .ok (.aload_n 0, 1) := by decide +kernel
theorem dL_law_479 : decode cL_law 479 = .ok (.iload_n 3, 1) := by decide +kernel
theorem dL_law_480 : decode cL_law 480 = .ok (.iconst 4, 1) := by decide +kernel
theorem dL_law_481 : decode cL_law 481 = .ok (.iadd, 1) := by decide +kernel
theorem dL_law_482 : decode cL_law 482 = .ok (.iaload, 1) := by decide +kernel
theorem dL_law_483 : decode cL_law 483 = .ok (.i2l, 1) := by decide +kernel
theorem dL_law_484 : decode cL_law 484 = .ok (.ldc2_w 13, 3) := by decide +kernel
theorem dL_law_487 : decode cL_law 487 = .ok (.land, 1) := by decide +kernel
theorem dL_law_488 : decode cL_law 488 = .ok (.lor, 1) := by decide +kernel
theorem dL_law_489 : decode cL_law 489 = .ok (.invokevirtual 34, 3) := by decide +kernel
theorem dL_law_492 : decode cL_law 492 = .ok (.aload_n 2, 1) := by decide +kernel
theorem dL_law_493 : decode cL_law 493 = .ok (.aload_n 0, 1) := by decide +kernel
theorem dL_law_494 : decode cL_law 494 = .ok (.iload_n 3, 1) := by decide +kernel
theorem dL_law_495 : decode cL_law 495 = .ok (.iconst 1, 1) := by decide +kernel
theorem dL_law_496 : decode cL_law 496 = .ok (.iadd, 1) := by decide +kernel
theorem dL_law_497 : decode cL_law 497 = .ok (.iaload, 1) := by decide +kernel
theorem dL_law_498 : decode cL_law 498 = .ok (.i2l, 1) := by decide +kernel
theorem dL_law_499 : decode cL_law 499 = .ok (.bipush 32, 2) := by decide +kernel
theorem dL_law_501 : decode cL_law 501 = .ok (.lshl, 1) := by decide +kernel
theorem dL_law_502 : decode cL_law 502 = .ok (.aload_n 0, 1) := by decide +kernel
theorem dL_law_503 : decode cL_law 503 = .ok (.iload_n 3, 1) := by decide +kernel
theorem dL_law_504 : decode cL_law 504 = .ok (.iconst 2, 1) := by decide +kernel
theorem dL_law_505 : decode cL_law 505 = .ok (.iadd, 1) := by decide +kernel
theorem dL_law_506 : decode cL_law 506 = .ok (.iaload, 1) := by decide +kernel
theorem dL_law_507 : decode cL_law 507 = .ok (.i2l, 1) := by decide +kernel
theorem dL_law_508 : decode cL_law 508 = .ok (.ldc2_w 13, 3) := by decide +kernel
theorem dL_law_511 : decode cL_law 511 = .ok (.land, 1) := by decide +kernel
theorem dL_law_512 : decode cL_law 512 = .ok (.lor, 1) := by decide +kernel
theorem dL_law_513 : decode cL_law 513 = .ok (.aload_n 0, 1) := by decide +kernel
theorem dL_law_514 : decode cL_law 514 = .ok (.iload_n 3, 1) := by decide +kernel
theorem dL_law_515 : decode cL_law 515 = .ok (.iconst 3, 1) := by decide +kernel
theorem dL_law_516 : decode cL_law 516 = .ok (.iadd, 1) := by decide +kernel
theorem dL_law_517 : decode cL_law 517 = .ok (.iaload, 1) := by decide +kernel
theorem dL_law_518 : decode cL_law 518 = .ok (.i2l, 1) := by decide +kernel
theorem dL_law_519 : decode cL_law 519 = .ok (.bipush 32, 2) := by decide +kernel
theorem dL_law_521 : decode cL_law 521 = .ok (.lshl, 1) := by decide +kernel
theorem dL_law_522 : decode cL_law 522 = .ok (.aload_n 0, 1) := by decide +kernel
theorem dL_law_523 : decode cL_law 523 = .ok (.iload_n 3, 1) := by decide +kernel
theorem dL_law_524 : decode cL_law 524 = .ok (.iconst 4, 1) := by decide +kernel
theorem dL_law_525 : decode cL_law 525 = .ok (.iadd, 1) := by decide +kernel
theorem dL_law_526 : decode cL_law 526 = .ok (.iaload, 1) := by decide +kernel
theorem dL_law_527 : decode cL_law 527 = .ok (.i2l, 1) := by decide +kernel
theorem dL_law_528 : decode cL_law 528 = .ok (.ldc2_w 13, 3) := by decide +kernel
theorem dL_law_531 : decode cL_law 531 = .ok (.land, 1) := by decide +kernel
theorem dL_law_532 : decode cL_law 532 = .ok (.lor, 1) := by decide +kernel
theorem dL_law_533 : decode cL_law 533 = .ok (.invokevirtual 38, 3) := by decide +kernel
theorem dL_law_536 : decode cL_law 536 = .ok (.lcmp, 1) := by decide +kernel
theorem dL_law_537 : decode cL_law 537 = .ok (.ifCond .eq 1148, 3) := by decide +kernel
theorem dL_law_540 : decode cL_law 540 = .ok (.iconst 0, 1) := by decide +kernel
theorem dL_law_541 : decode cL_law 541 = .ok (.ireturn, 1) := by decide +kernel
theorem dL_law_542 : decode cL_law 542 = .ok (.aload_n 1, 1) := by decide +kernel
theorem dL_law_543 : decode cL_law 543 = .ok (.aload_n 0, 1) := by decide +kernel
theorem dL_law_544 : decode cL_law 544 = .ok (.iload_n 3, 1) := by decide +kernel
theorem dL_law_545 : decode cL_law 545 = .ok (.iconst 1, 1) := by decide +kernel
theorem dL_law_546 : decode cL_law 546 = .ok (.iadd, 1) := by decide +kernel
theorem dL_law_547 : decode cL_law 547 = .ok (.iaload, 1) := by decide +kernel
theorem dL_law_548 : decode cL_law 548 = .ok (.i2l, 1) := by decide +kernel
theorem dL_law_549 : decode cL_law 549 = .ok (.bipush 32, 2) := by decide +kernel
theorem dL_law_551 : decode cL_law 551 = .ok (.lshl, 1) := by decide +kernel
theorem dL_law_552 : decode cL_law 552 = .ok (.aload_n 0, 1) := by decide +kernel
theorem dL_law_553 : decode cL_law 553 = .ok (.iload_n 3, 1) := by decide +kernel
theorem dL_law_554 : decode cL_law 554 = .ok (.iconst 2, 1) := by decide +kernel
theorem dL_law_555 : decode cL_law 555 = .ok (.iadd, 1) := by decide +kernel
theorem dL_law_556 : decode cL_law 556 = .ok (.iaload, 1) := by decide +kernel
theorem dL_law_557 : decode cL_law 557 = .ok (.i2l, 1) := by decide +kernel
theorem dL_law_558 : decode cL_law 558 = .ok (.ldc2_w 13, 3) := by decide +kernel
theorem dL_law_561 : decode cL_law 561 = .ok (.land, 1) := by decide +kernel
theorem dL_law_562 : decode cL_law 562 = .ok (.lor, 1) := by decide +kernel
theorem dL_law_563 : decode cL_law 563 = .ok (.aload_n 0, 1) := by decide +kernel
theorem dL_law_564 : decode cL_law 564 = .ok (.iload_n 3, 1) := by decide +kernel
theorem dL_law_565 : decode cL_law 565 = .ok (.iconst 3, 1) := by decide +kernel
theorem dL_law_566 : decode cL_law 566 = .ok (.iadd, 1) := by decide +kernel
theorem dL_law_567 : decode cL_law 567 = .ok (.iaload, 1) := by decide +kernel
theorem dL_law_568 : decode cL_law 568 = .ok (.invokevirtual 39, 3) := by decide +kernel
theorem dL_law_571 : decode cL_law 571 = .ok (.aload_n 2, 1) := by decide +kernel
theorem dL_law_572 : decode cL_law 572 = .ok (.aload_n 0, 1) := by decide +kernel
theorem dL_law_573 : decode cL_law 573 = .ok (.iload_n 3, 1) := by decide +kernel
theorem dL_law_574 : decode cL_law 574 = .ok (.iconst 1, 1) := by decide +kernel
theorem dL_law_575 : decode cL_law 575 = .ok (.iadd, 1) := by decide +kernel
theorem dL_law_576 : decode cL_law 576 = .ok (.iaload, 1) := by decide +kernel
theorem dL_law_577 : decode cL_law 577 = .ok (.i2l, 1) := by decide +kernel
theorem dL_law_578 : decode cL_law 578 = .ok (.bipush 32, 2) := by decide +kernel
theorem dL_law_580 : decode cL_law 580 = .ok (.lshl, 1) := by decide +kernel
theorem dL_law_581 : decode cL_law 581 = .ok (.aload_n 0, 1) := by decide +kernel
theorem dL_law_582 : decode cL_law 582 = .ok (.iload_n 3, 1) := by decide +kernel
theorem dL_law_583 : decode cL_law 583 = .ok (.iconst 2, 1) := by decide +kernel
theorem dL_law_584 : decode cL_law 584 = .ok (.iadd, 1) := by decide +kernel
theorem dL_law_585 : decode cL_law 585 = .ok (.iaload, 1) := by decide +kernel
theorem dL_law_586 : decode cL_law 586 = .ok (.i2l, 1) := by decide +kernel
theorem dL_law_587 : decode cL_law 587 = .ok (.ldc2_w 13, 3) := by decide +kernel
theorem dL_law_590 : decode cL_law 590 = .ok (.land, 1) := by decide +kernel
theorem dL_law_591 : decode cL_law 591 = .ok (.lor, 1) := by decide +kernel
theorem dL_law_592 : decode cL_law 592 = .ok (.aload_n 0, 1) := by decide +kernel
theorem dL_law_593 : decode cL_law 593 = .ok (.iload_n 3, 1) := by decide +kernel
theorem dL_law_594 : decode cL_law 594 = .ok (.iconst 3, 1) := by decide +kernel
theorem dL_law_595 : decode cL_law 595 = .ok (.iadd, 1) := by decide +kernel
theorem dL_law_596 : decode cL_law 596 = .ok (.iaload, 1) := by decide +kernel
theorem dL_law_597 : decode cL_law 597 = .ok (.invokevirtual 43, 3) := by decide +kernel
theorem dL_law_600 : decode cL_law 600 = .ok (.lcmp, 1) := by decide +kernel
theorem dL_law_601 : decode cL_law 601 = .ok (.ifCond .eq 1084, 3) := by decide +kernel
theorem dL_law_604 : decode cL_law 604 = .ok (.iconst 0, 1) := by decide +kernel
theorem dL_law_605 : decode cL_law 605 = .ok (.ireturn, 1) := by decide +kernel
theorem dL_law_606 : decode cL_law 606 = .ok (.aload_n 1, 1) := by decide +kernel
theorem dL_law_607 : decode cL_law 607 = .ok (.aload_n 0, 1) := by decide +kernel
theorem dL_law_608 : decode cL_law 608 = .ok (.iload_n 3, 1) := by decide +kernel
theorem dL_law_609 : decode cL_law 609 = .ok (.iconst 1, 1) := by decide +kernel
theorem dL_law_610 : decode cL_law 610 = .ok (.iadd, 1) := by decide +kernel
theorem dL_law_611 : decode cL_law 611 = .ok (.iaload, 1) := by decide +kernel
theorem dL_law_612 : decode cL_law 612 = .ok (.aload_n 0, 1) := by decide +kernel
theorem dL_law_613 : decode cL_law 613 = .ok (.iload_n 3, 1) := by decide +kernel
theorem dL_law_614 : decode cL_law 614 = .ok (.iconst 2, 1) := by decide +kernel
theorem dL_law_615 : decode cL_law 615 = .ok (.iadd, 1) := by decide +kernel
theorem dL_law_616 : decode cL_law 616 = .ok (.iaload, 1) := by decide +kernel
theorem dL_law_617 : decode cL_law 617 = .ok (.invokevirtual 44, 3) := by decide +kernel
theorem dL_law_620 : decode cL_law 620 = .ok (.aload_n 2, 1) := by decide +kernel
theorem dL_law_621 : decode cL_law 621 = .ok (.aload_n 0, 1) := by decide +kernel
theorem dL_law_622 : decode cL_law 622 = .ok (.iload_n 3, 1) := by decide +kernel
theorem dL_law_623 : decode cL_law 623 = .ok (.iconst 1, 1) := by decide +kernel
theorem dL_law_624 : decode cL_law 624 = .ok (.iadd, 1) := by decide +kernel
theorem dL_law_625 : decode cL_law 625 = .ok (.iaload, 1) := by decide +kernel
theorem dL_law_626 : decode cL_law 626 = .ok (.aload_n 0, 1) := by decide +kernel
theorem dL_law_627 : decode cL_law 627 = .ok (.iload_n 3, 1) := by decide +kernel
theorem dL_law_628 : decode cL_law 628 = .ok (.iconst 2, 1) := by decide +kernel
theorem dL_law_629 : decode cL_law 629 = .ok (.iadd, 1) := by decide +kernel
theorem dL_law_630 : decode cL_law 630 = .ok (.iaload, 1) := by decide +kernel
theorem dL_law_631 : decode cL_law 631 = .ok (.invokevirtual 47, 3) := by decide +kernel
theorem dL_law_634 : decode cL_law 634 = .ok (.lcmp, 1) := by decide +kernel
theorem dL_law_635 : decode cL_law 635 = .ok (.ifCond .eq 1050, 3) := by decide +kernel
theorem dL_law_638 : decode cL_law 638 = .ok (.iconst 0, 1) := by decide +kernel
theorem dL_law_639 : decode cL_law 639 = .ok (.ireturn, 1) := by decide +kernel
theorem dL_law_640 : decode cL_law 640 = .ok (.aload_n 1, 1) := by decide +kernel
theorem dL_law_641 : decode cL_law 641 = .ok (.aload_n 0, 1) := by decide +kernel
theorem dL_law_642 : decode cL_law 642 = .ok (.iload_n 3, 1) := by decide +kernel
theorem dL_law_643 : decode cL_law 643 = .ok (.iconst 1, 1) := by decide +kernel
theorem dL_law_644 : decode cL_law 644 = .ok (.iadd, 1) := by decide +kernel
theorem dL_law_645 : decode cL_law 645 = .ok (.iaload, 1) := by decide +kernel
theorem dL_law_646 : decode cL_law 646 = .ok (.invokevirtual 48, 3) := by decide +kernel
theorem dL_law_649 : decode cL_law 649 = .ok (.aload_n 2, 1) := by decide +kernel
theorem dL_law_650 : decode cL_law 650 = .ok (.aload_n 0, 1) := by decide +kernel
theorem dL_law_651 : decode cL_law 651 = .ok (.iload_n 3, 1) := by decide +kernel
theorem dL_law_652 : decode cL_law 652 = .ok (.iconst 1, 1) := by decide +kernel
theorem dL_law_653 : decode cL_law 653 = .ok (.iadd, 1) := by decide +kernel
theorem dL_law_654 : decode cL_law 654 = .ok (.iaload, 1) := by decide +kernel
theorem dL_law_655 : decode cL_law 655 = .ok (.invokevirtual 52, 3) := by decide +kernel
theorem dL_law_658 : decode cL_law 658 = .ok (.lcmp, 1) := by decide +kernel
theorem dL_law_659 : decode cL_law 659 = .ok (.ifCond .eq 1026, 3) := by decide +kernel
theorem dL_law_662 : decode cL_law 662 = .ok (.iconst 0, 1) := by decide +kernel
theorem dL_law_663 : decode cL_law 663 = .ok (.ireturn, 1) := by decide +kernel
theorem dL_law_664 : decode cL_law 664 = .ok (.aload_n 1, 1) := by decide +kernel
theorem dL_law_665 : decode cL_law 665 = .ok (.aload_n 0, 1) := by decide +kernel
theorem dL_law_666 : decode cL_law 666 = .ok (.iload_n 3, 1) := by decide +kernel
theorem dL_law_667 : decode cL_law 667 = .ok (.iconst 1, 1) := by decide +kernel
theorem dL_law_668 : decode cL_law 668 = .ok (.iadd, 1) := by decide +kernel
theorem dL_law_669 : decode cL_law 669 = .ok (.iaload, 1) := by decide +kernel
theorem dL_law_670 : decode cL_law 670 = .ok (.aload_n 0, 1) := by decide +kernel
theorem dL_law_671 : decode cL_law 671 = .ok (.iload_n 3, 1) := by decide +kernel
theorem dL_law_672 : decode cL_law 672 = .ok (.iconst 2, 1) := by decide +kernel
theorem dL_law_673 : decode cL_law 673 = .ok (.iadd, 1) := by decide +kernel
theorem dL_law_674 : decode cL_law 674 = .ok (.iaload, 1) := by decide +kernel
theorem dL_law_675 : decode cL_law 675 = .ok (.aload_n 0, 1) := by decide +kernel
theorem dL_law_676 : decode cL_law 676 = .ok (.iload_n 3, 1) := by decide +kernel
theorem dL_law_677 : decode cL_law 677 = .ok (.iconst 3, 1) := by decide +kernel
theorem dL_law_678 : decode cL_law 678 = .ok (.iadd, 1) := by decide +kernel
theorem dL_law_679 : decode cL_law 679 = .ok (.iaload, 1) := by decide +kernel
theorem dL_law_680 : decode cL_law 680 = .ok (.i2l, 1) := by decide +kernel
theorem dL_law_681 : decode cL_law 681 = .ok (.bipush 32, 2) := by decide +kernel
theorem dL_law_683 : decode cL_law 683 = .ok (.lshl, 1) := by decide +kernel
theorem dL_law_684 : decode cL_law 684 = .ok (.aload_n 0, 1) := by decide +kernel
theorem dL_law_685 : decode cL_law 685 = .ok (.iload_n 3, 1) := by decide +kernel
theorem dL_law_686 : decode cL_law 686 = .ok (.iconst 4, 1) := by decide +kernel
theorem dL_law_687 : decode cL_law 687 = .ok (.iadd, 1) := by decide +kernel
theorem dL_law_688 : decode cL_law 688 = .ok (.iaload, 1) := by decide +kernel
theorem dL_law_689 : decode cL_law 689 = .ok (.i2l, 1) := by decide +kernel
theorem dL_law_690 : decode cL_law 690 = .ok (.ldc2_w 13, 3) := by decide +kernel
theorem dL_law_693 : decode cL_law 693 = .ok (.land, 1) := by decide +kernel
theorem dL_law_694 : decode cL_law 694 = .ok (.lor, 1) := by decide +kernel
theorem dL_law_695 : decode cL_law 695 = .ok (.invokevirtual 53, 3) := by decide +kernel
theorem dL_law_698 : decode cL_law 698 = .ok (.aload_n 2, 1) := by decide +kernel
theorem dL_law_699 : decode cL_law 699 = .ok (.aload_n 0, 1) := by decide +kernel
theorem dL_law_700 : decode cL_law 700 = .ok (.iload_n 3, 1) := by decide +kernel
theorem dL_law_701 : decode cL_law 701 = .ok (.iconst 1, 1) := by decide +kernel
theorem dL_law_702 : decode cL_law 702 = .ok (.iadd, 1) := by decide +kernel
theorem dL_law_703 : decode cL_law 703 = .ok (.iaload, 1) := by decide +kernel
theorem dL_law_704 : decode cL_law 704 = .ok (.aload_n 0, 1) := by decide +kernel
theorem dL_law_705 : decode cL_law 705 = .ok (.iload_n 3, 1) := by decide +kernel
theorem dL_law_706 : decode cL_law 706 = .ok (.iconst 2, 1) := by decide +kernel
theorem dL_law_707 : decode cL_law 707 = .ok (.iadd, 1) := by decide +kernel
theorem dL_law_708 : decode cL_law 708 = .ok (.iaload, 1) := by decide +kernel
theorem dL_law_709 : decode cL_law 709 = .ok (.aload_n 0, 1) := by decide +kernel
theorem dL_law_710 : decode cL_law 710 = .ok (.iload_n 3, 1) := by decide +kernel
theorem dL_law_711 : decode cL_law 711 = .ok (.iconst 3, 1) := by decide +kernel
theorem dL_law_712 : decode cL_law 712 = .ok (.iadd, 1) := by decide +kernel
theorem dL_law_713 : decode cL_law 713 = .ok (.iaload, 1) := by decide +kernel
theorem dL_law_714 : decode cL_law 714 = .ok (.i2l, 1) := by decide +kernel
theorem dL_law_715 : decode cL_law 715 = .ok (.bipush 32, 2) := by decide +kernel
theorem dL_law_717 : decode cL_law 717 = .ok (.lshl, 1) := by decide +kernel
theorem dL_law_718 : decode cL_law 718 = .ok (.aload_n 0, 1) := by decide +kernel
theorem dL_law_719 : decode cL_law 719 = .ok (.iload_n 3, 1) := by decide +kernel
theorem dL_law_720 : decode cL_law 720 = .ok (.iconst 4, 1) := by decide +kernel
theorem dL_law_721 : decode cL_law 721 = .ok (.iadd, 1) := by decide +kernel
theorem dL_law_722 : decode cL_law 722 = .ok (.iaload, 1) := by decide +kernel
theorem dL_law_723 : decode cL_law 723 = .ok (.i2l, 1) := by decide +kernel
theorem dL_law_724 : decode cL_law 724 = .ok (.ldc2_w 13, 3) := by decide +kernel
theorem dL_law_727 : decode cL_law 727 = .ok (.land, 1) := by decide +kernel
theorem dL_law_728 : decode cL_law 728 = .ok (.lor, 1) := by decide +kernel
theorem dL_law_729 : decode cL_law 729 = .ok (.invokevirtual 57, 3) := by decide +kernel
theorem dL_law_732 : decode cL_law 732 = .ok (.lcmp, 1) := by decide +kernel
theorem dL_law_733 : decode cL_law 733 = .ok (.ifCond .eq 952, 3) := by decide +kernel
theorem dL_law_736 : decode cL_law 736 = .ok (.iconst 0, 1) := by decide +kernel
theorem dL_law_737 : decode cL_law 737 = .ok (.ireturn, 1) := by decide +kernel
theorem dL_law_738 : decode cL_law 738 = .ok (.aload_n 1, 1) := by decide +kernel
theorem dL_law_739 : decode cL_law 739 = .ok (.aload_n 0, 1) := by decide +kernel
theorem dL_law_740 : decode cL_law 740 = .ok (.iload_n 3, 1) := by decide +kernel
theorem dL_law_741 : decode cL_law 741 = .ok (.iconst 1, 1) := by decide +kernel
theorem dL_law_742 : decode cL_law 742 = .ok (.iadd, 1) := by decide +kernel
theorem dL_law_743 : decode cL_law 743 = .ok (.iaload, 1) := by decide +kernel
theorem dL_law_744 : decode cL_law 744 = .ok (.aload_n 0, 1) := by decide +kernel
theorem dL_law_745 : decode cL_law 745 = .ok (.iload_n 3, 1) := by decide +kernel
theorem dL_law_746 : decode cL_law 746 = .ok (.iconst 2, 1) := by decide +kernel
theorem dL_law_747 : decode cL_law 747 = .ok (.iadd, 1) := by decide +kernel
theorem dL_law_748 : decode cL_law 748 = .ok (.iaload, 1) := by decide +kernel
theorem dL_law_749 : decode cL_law 749 = .ok (.aload_n 0, 1) := by decide +kernel
theorem dL_law_750 : decode cL_law 750 = .ok (.iload_n 3, 1) := by decide +kernel
theorem dL_law_751 : decode cL_law 751 = .ok (.iconst 3, 1) := by decide +kernel
theorem dL_law_752 : decode cL_law 752 = .ok (.iadd, 1) := by decide +kernel
theorem dL_law_753 : decode cL_law 753 = .ok (.iaload, 1) := by decide +kernel
theorem dL_law_754 : decode cL_law 754 = .ok (.i2l, 1) := by decide +kernel
theorem dL_law_755 : decode cL_law 755 = .ok (.bipush 32, 2) := by decide +kernel
theorem dL_law_757 : decode cL_law 757 = .ok (.lshl, 1) := by decide +kernel
theorem dL_law_758 : decode cL_law 758 = .ok (.aload_n 0, 1) := by decide +kernel
theorem dL_law_759 : decode cL_law 759 = .ok (.iload_n 3, 1) := by decide +kernel
theorem dL_law_760 : decode cL_law 760 = .ok (.iconst 4, 1) := by decide +kernel
theorem dL_law_761 : decode cL_law 761 = .ok (.iadd, 1) := by decide +kernel
theorem dL_law_762 : decode cL_law 762 = .ok (.iaload, 1) := by decide +kernel
theorem dL_law_763 : decode cL_law 763 = .ok (.i2l, 1) := by decide +kernel
theorem dL_law_764 : decode cL_law 764 = .ok (.ldc2_w 13, 3) := by decide +kernel
theorem dL_law_767 : decode cL_law 767 = .ok (.land, 1) := by decide +kernel
theorem dL_law_768 : decode cL_law 768 = .ok (.lor, 1) := by decide +kernel
theorem dL_law_769 : decode cL_law 769 = .ok (.invokevirtual 58, 3) := by decide +kernel
theorem dL_law_772 : decode cL_law 772 = .ok (.aload_n 2, 1) := by decide +kernel
theorem dL_law_773 : decode cL_law 773 = .ok (.aload_n 0, 1) := by decide +kernel
theorem dL_law_774 : decode cL_law 774 = .ok (.iload_n 3, 1) := by decide +kernel
theorem dL_law_775 : decode cL_law 775 = .ok (.iconst 1, 1) := by decide +kernel
theorem dL_law_776 : decode cL_law 776 = .ok (.iadd, 1) := by decide +kernel
theorem dL_law_777 : decode cL_law 777 = .ok (.iaload, 1) := by decide +kernel
theorem dL_law_778 : decode cL_law 778 = .ok (.aload_n 0, 1) := by decide +kernel
theorem dL_law_779 : decode cL_law 779 = .ok (.iload_n 3, 1) := by decide +kernel
theorem dL_law_780 : decode cL_law 780 = .ok (.iconst 2, 1) := by decide +kernel
theorem dL_law_781 : decode cL_law 781 = .ok (.iadd, 1) := by decide +kernel
theorem dL_law_782 : decode cL_law 782 = .ok (.iaload, 1) := by decide +kernel
theorem dL_law_783 : decode cL_law 783 = .ok (.aload_n 0, 1) := by decide +kernel
theorem dL_law_784 : decode cL_law 784 = .ok (.iload_n 3, 1) := by decide +kernel
theorem dL_law_785 : decode cL_law 785 = .ok (.iconst 3, 1) := by decide +kernel
theorem dL_law_786 : decode cL_law 786 = .ok (.iadd, 1) := by decide +kernel
theorem dL_law_787 : decode cL_law 787 = .ok (.iaload, 1) := by decide +kernel
theorem dL_law_788 : decode cL_law 788 = .ok (.i2l, 1) := by decide +kernel
theorem dL_law_789 : decode cL_law 789 = .ok (.bipush 32, 2) := by decide +kernel
theorem dL_law_791 : decode cL_law 791 = .ok (.lshl, 1) := by decide +kernel
theorem dL_law_792 : decode cL_law 792 = .ok (.aload_n 0, 1) := by decide +kernel
theorem dL_law_793 : decode cL_law 793 = .ok (.iload_n 3, 1) := by decide +kernel
theorem dL_law_794 : decode cL_law 794 = .ok (.iconst 4, 1) := by decide +kernel
theorem dL_law_795 : decode cL_law 795 = .ok (.iadd, 1) := by decide +kernel
theorem dL_law_796 : decode cL_law 796 = .ok (.iaload, 1) := by decide +kernel
theorem dL_law_797 : decode cL_law 797 = .ok (.i2l, 1) := by decide +kernel
theorem dL_law_798 : decode cL_law 798 = .ok (.ldc2_w 13, 3) := by decide +kernel
theorem dL_law_801 : decode cL_law 801 = .ok (.land, 1) := by decide +kernel
theorem dL_law_802 : decode cL_law 802 = .ok (.lor, 1) := by decide +kernel
theorem dL_law_803 : decode cL_law 803 = .ok (.invokevirtual 61, 3) := by decide +kernel
theorem dL_law_806 : decode cL_law 806 = .ok (.lcmp, 1) := by decide +kernel
theorem dL_law_807 : decode cL_law 807 = .ok (.ifCond .eq 878, 3) := by decide +kernel
theorem dL_law_810 : decode cL_law 810 = .ok (.iconst 0, 1) := by decide +kernel
theorem dL_law_811 : decode cL_law 811 = .ok (.ireturn, 1) := by decide +kernel
theorem dL_law_812 : decode cL_law 812 = .ok (.aload_n 1, 1) := by decide +kernel
theorem dL_law_813 : decode cL_law 813 = .ok (.aload_n 0, 1) := by decide +kernel
theorem dL_law_814 : decode cL_law 814 = .ok (.iload_n 3, 1) := by decide +kernel
theorem dL_law_815 : decode cL_law 815 = .ok (.iconst 1, 1) := by decide +kernel
theorem dL_law_816 : decode cL_law 816 = .ok (.iadd, 1) := by decide +kernel
theorem dL_law_817 : decode cL_law 817 = .ok (.iaload, 1) := by decide +kernel
theorem dL_law_818 : decode cL_law 818 = .ok (.invokevirtual 62, 3) := by decide +kernel
theorem dL_law_821 : decode cL_law 821 = .ok (.aload_n 2, 1) := by decide +kernel
theorem dL_law_822 : decode cL_law 822 = .ok (.aload_n 0, 1) := by decide +kernel
theorem dL_law_823 : decode cL_law 823 = .ok (.iload_n 3, 1) := by decide +kernel
theorem dL_law_824 : decode cL_law 824 = .ok (.iconst 1, 1) := by decide +kernel
theorem dL_law_825 : decode cL_law 825 = .ok (.iadd, 1) := by decide +kernel
theorem dL_law_826 : decode cL_law 826 = .ok (.iaload, 1) := by decide +kernel
theorem dL_law_827 : decode cL_law 827 = .ok (.invokevirtual 65, 3) := by decide +kernel
theorem dL_law_830 : decode cL_law 830 = .ok (.lcmp, 1) := by decide +kernel
theorem dL_law_831 : decode cL_law 831 = .ok (.ifCond .eq 854, 3) := by decide +kernel
theorem dL_law_834 : decode cL_law 834 = .ok (.iconst 0, 1) := by decide +kernel
theorem dL_law_835 : decode cL_law 835 = .ok (.ireturn, 1) := by decide +kernel
theorem dL_law_836 : decode cL_law 836 = .ok (.aload_n 1, 1) := by decide +kernel
theorem dL_law_837 : decode cL_law 837 = .ok (.aload_n 0, 1) := by decide +kernel
theorem dL_law_838 : decode cL_law 838 = .ok (.iload_n 3, 1) := by decide +kernel
theorem dL_law_839 : decode cL_law 839 = .ok (.iconst 1, 1) := by decide +kernel
theorem dL_law_840 : decode cL_law 840 = .ok (.iadd, 1) := by decide +kernel
theorem dL_law_841 : decode cL_law 841 = .ok (.iaload, 1) := by decide +kernel
theorem dL_law_842 : decode cL_law 842 = .ok (.invokevirtual 66, 3) := by decide +kernel
theorem dL_law_845 : decode cL_law 845 = .ok (.aload_n 2, 1) := by decide +kernel
theorem dL_law_846 : decode cL_law 846 = .ok (.aload_n 0, 1) := by decide +kernel
theorem dL_law_847 : decode cL_law 847 = .ok (.iload_n 3, 1) := by decide +kernel
theorem dL_law_848 : decode cL_law 848 = .ok (.iconst 1, 1) := by decide +kernel
theorem dL_law_849 : decode cL_law 849 = .ok (.iadd, 1) := by decide +kernel
theorem dL_law_850 : decode cL_law 850 = .ok (.iaload, 1) := by decide +kernel
theorem dL_law_851 : decode cL_law 851 = .ok (.invokevirtual 69, 3) := by decide +kernel
theorem dL_law_854 : decode cL_law 854 = .ok (.lcmp, 1) := by decide +kernel
theorem dL_law_855 : decode cL_law 855 = .ok (.ifCond .eq 830, 3) := by decide +kernel
theorem dL_law_858 : decode cL_law 858 = .ok (.iconst 0, 1) := by decide +kernel
theorem dL_law_859 : decode cL_law 859 = .ok (.ireturn, 1) := by decide +kernel
theorem dL_law_860 : decode cL_law 860 = .ok (.aload_n 1, 1) := by decide +kernel
theorem dL_law_861 : decode cL_law 861 = .ok (.aload_n 0, 1) := by decide +kernel
theorem dL_law_862 : decode cL_law 862 = .ok (.iload_n 3, 1) := by decide +kernel
theorem dL_law_863 : decode cL_law 863 = .ok (.iconst 1, 1) := by decide +kernel
theorem dL_law_864 : decode cL_law 864 = .ok (.iadd, 1) := by decide +kernel
theorem dL_law_865 : decode cL_law 865 = .ok (.iaload, 1) := by decide +kernel
theorem dL_law_866 : decode cL_law 866 = .ok (.aload_n 0, 1) := by decide +kernel
theorem dL_law_867 : decode cL_law 867 = .ok (.iload_n 3, 1) := by decide +kernel
theorem dL_law_868 : decode cL_law 868 = .ok (.iconst 2, 1) := by decide +kernel
theorem dL_law_869 : decode cL_law 869 = .ok (.iadd, 1) := by decide +kernel
theorem dL_law_870 : decode cL_law 870 = .ok (.iaload, 1) := by decide +kernel
theorem dL_law_871 : decode cL_law 871 = .ok (.i2l, 1) := by decide +kernel
theorem dL_law_872 : decode cL_law 872 = .ok (.bipush 32, 2) := by decide +kernel
theorem dL_law_874 : decode cL_law 874 = .ok (.lshl, 1) := by decide +kernel
theorem dL_law_875 : decode cL_law 875 = .ok (.aload_n 0, 1) := by decide +kernel
theorem dL_law_876 : decode cL_law 876 = .ok (.iload_n 3, 1) := by decide +kernel
theorem dL_law_877 : decode cL_law 877 = .ok (.iconst 3, 1) := by decide +kernel
theorem dL_law_878 : decode cL_law 878 = .ok (.iadd, 1) := by decide +kernel
theorem dL_law_879 : decode cL_law 879 = .ok (.iaload, 1) := by decide +kernel
theorem dL_law_880 : decode cL_law 880 = .ok (.i2l, 1) := by decide +kernel
theorem dL_law_881 : decode cL_law 881 = .ok (.ldc2_w 13, 3) := by decide +kernel
theorem dL_law_884 : decode cL_law 884 = .ok (.land, 1) := by decide +kernel
theorem dL_law_885 : decode cL_law 885 = .ok (.lor, 1) := by decide +kernel
theorem dL_law_886 : decode cL_law 886 = .ok (.invokevirtual 70, 3) := by decide +kernel
theorem dL_law_889 : decode cL_law 889 = .ok (.aload_n 2, 1) := by decide +kernel
theorem dL_law_890 : decode cL_law 890 = .ok (.aload_n 0, 1) := by decide +kernel
theorem dL_law_891 : decode cL_law 891 = .ok (.iload_n 3, 1) := by decide +kernel
theorem dL_law_892 : decode cL_law 892 = .ok (.iconst 1, 1) := by decide +kernel
theorem dL_law_893 : decode cL_law 893 = .ok (.iadd, 1) := by decide +kernel
theorem dL_law_894 : decode cL_law 894 = .ok (.iaload, 1) := by decide +kernel
theorem dL_law_895 : decode cL_law 895 = .ok (.aload_n 0, 1) := by decide +kernel
theorem dL_law_896 : decode cL_law 896 = .ok (.iload_n 3, 1) := by decide +kernel
theorem dL_law_897 : decode cL_law 897 = .ok (.iconst 2, 1) := by decide +kernel
theorem dL_law_898 : decode cL_law 898 = .ok (.iadd, 1) := by decide +kernel
theorem dL_law_899 : decode cL_law 899 = .ok (.iaload, 1) := by decide +kernel
theorem dL_law_900 : decode cL_law 900 = .ok (.i2l, 1) := by decide +kernel
theorem dL_law_901 : decode cL_law 901 = .ok (.bipush 32, 2) := by decide +kernel
theorem dL_law_903 : decode cL_law 903 = .ok (.lshl, 1) := by decide +kernel
theorem dL_law_904 : decode cL_law 904 = .ok (.aload_n 0, 1) := by decide +kernel
theorem dL_law_905 : decode cL_law 905 = .ok (.iload_n 3, 1) := by decide +kernel
theorem dL_law_906 : decode cL_law 906 = .ok (.iconst 3, 1) := by decide +kernel
theorem dL_law_907 : decode cL_law 907 = .ok (.iadd, 1) := by decide +kernel
theorem dL_law_908 : decode cL_law 908 = .ok (.iaload, 1) := by decide +kernel
theorem dL_law_909 : decode cL_law 909 = .ok (.i2l, 1) := by decide +kernel
theorem dL_law_910 : decode cL_law 910 = .ok (.ldc2_w 13, 3) := by decide +kernel
theorem dL_law_913 : decode cL_law 913 = .ok (.land, 1) := by decide +kernel
theorem dL_law_914 : decode cL_law 914 = .ok (.lor, 1) := by decide +kernel
theorem dL_law_915 : decode cL_law 915 = .ok (.invokevirtual 73, 3) := by decide +kernel
theorem dL_law_918 : decode cL_law 918 = .ok (.lcmp, 1) := by decide +kernel
theorem dL_law_919 : decode cL_law 919 = .ok (.ifCond .eq 766, 3) := by decide +kernel
theorem dL_law_922 : decode cL_law 922 = .ok (.iconst 0, 1) := by decide +kernel
theorem dL_law_923 : decode cL_law 923 = .ok (.ireturn, 1) := by decide +kernel
theorem dL_law_924 : decode cL_law 924 = .ok (.aload_n 1, 1) := by decide +kernel
theorem dL_law_925 : decode cL_law 925 = .ok (.aload_n 0, 1) := by decide +kernel
theorem dL_law_926 : decode cL_law 926 = .ok (.iload_n 3, 1) := by decide +kernel
theorem dL_law_927 : decode cL_law 927 = .ok (.iconst 1, 1) := by decide +kernel
theorem dL_law_928 : decode cL_law 928 = .ok (.iadd, 1) := by decide +kernel
theorem dL_law_929 : decode cL_law 929 = .ok (.iaload, 1) := by decide +kernel
theorem dL_law_930 : decode cL_law 930 = .ok (.aload_n 0, 1) := by decide +kernel
theorem dL_law_931 : decode cL_law 931 = .ok (.iload_n 3, 1) := by decide +kernel
theorem dL_law_932 : decode cL_law 932 = .ok (.iconst 2, 1) := by decide +kernel
theorem dL_law_933 : decode cL_law 933 = .ok (.iadd, 1) := by decide +kernel
theorem dL_law_934 : decode cL_law 934 = .ok (.iaload, 1) := by decide +kernel
theorem dL_law_935 : decode cL_law 935 = .ok (.invokevirtual 74, 3) := by decide +kernel
theorem dL_law_938 : decode cL_law 938 = .ok (.aload_n 2, 1) := by decide +kernel
theorem dL_law_939 : decode cL_law 939 = .ok (.aload_n 0, 1) := by decide +kernel
theorem dL_law_940 : decode cL_law 940 = .ok (.iload_n 3, 1) := by decide +kernel
theorem dL_law_941 : decode cL_law 941 = .ok (.iconst 1, 1) := by decide +kernel
theorem dL_law_942 : decode cL_law 942 = .ok (.iadd, 1) := by decide +kernel
theorem dL_law_943 : decode cL_law 943 = .ok (.iaload, 1) := by decide +kernel
theorem dL_law_944 : decode cL_law 944 = .ok (.aload_n 0, 1) := by decide +kernel
theorem dL_law_945 : decode cL_law 945 = .ok (.iload_n 3, 1) := by decide +kernel
theorem dL_law_946 : decode cL_law 946 = .ok (.iconst 2, 1) := by decide +kernel
theorem dL_law_947 : decode cL_law 947 = .ok (.iadd, 1) := by decide +kernel
theorem dL_law_948 : decode cL_law 948 = .ok (.iaload, 1) := by decide +kernel
theorem dL_law_949 : decode cL_law 949 = .ok (.invokevirtual 77, 3) := by decide +kernel
theorem dL_law_952 : decode cL_law 952 = .ok (.lcmp, 1) := by decide +kernel
theorem dL_law_953 : decode cL_law 953 = .ok (.ifCond .eq 732, 3) := by decide +kernel
theorem dL_law_956 : decode cL_law 956 = .ok (.iconst 0, 1) := by decide +kernel
theorem dL_law_957 : decode cL_law 957 = .ok (.ireturn, 1) := by decide +kernel
theorem dL_law_958 : decode cL_law 958 = .ok (.aload_n 1, 1) := by decide +kernel
theorem dL_law_959 : decode cL_law 959 = .ok (.aload_n 0, 1) := by decide +kernel
theorem dL_law_960 : decode cL_law 960 = .ok (.iload_n 3, 1) := by decide +kernel
theorem dL_law_961 : decode cL_law 961 = .ok (.iconst 1, 1) := by decide +kernel
theorem dL_law_962 : decode cL_law 962 = .ok (.iadd, 1) := by decide +kernel
theorem dL_law_963 : decode cL_law 963 = .ok (.iaload, 1) := by decide +kernel
theorem dL_law_964 : decode cL_law 964 = .ok (.aload_n 0, 1) := by decide +kernel
theorem dL_law_965 : decode cL_law 965 = .ok (.iload_n 3, 1) := by decide +kernel
theorem dL_law_966 : decode cL_law 966 = .ok (.iconst 2, 1) := by decide +kernel
theorem dL_law_967 : decode cL_law 967 = .ok (.iadd, 1) := by decide +kernel
theorem dL_law_968 : decode cL_law 968 = .ok (.iaload, 1) := by decide +kernel
theorem dL_law_969 : decode cL_law 969 = .ok (.invokevirtual 78, 3) := by decide +kernel
theorem dL_law_972 : decode cL_law 972 = .ok (.aload_n 2, 1) := by decide +kernel
theorem dL_law_973 : decode cL_law 973 = .ok (.aload_n 0, 1) := by decide +kernel
theorem dL_law_974 : decode cL_law 974 = .ok (.iload_n 3, 1) := by decide +kernel
theorem dL_law_975 : decode cL_law 975 = .ok (.iconst 1, 1) := by decide +kernel
theorem dL_law_976 : decode cL_law 976 = .ok (.iadd, 1) := by decide +kernel
theorem dL_law_977 : decode cL_law 977 = .ok (.iaload, 1) := by decide +kernel
theorem dL_law_978 : decode cL_law 978 = .ok (.aload_n 0, 1) := by decide +kernel
theorem dL_law_979 : decode cL_law 979 = .ok (.iload_n 3, 1) := by decide +kernel
theorem dL_law_980 : decode cL_law 980 = .ok (.iconst 2, 1) := by decide +kernel
theorem dL_law_981 : decode cL_law 981 = .ok (.iadd, 1) := by decide +kernel
theorem dL_law_982 : decode cL_law 982 = .ok (.iaload, 1) := by decide +kernel
theorem dL_law_983 : decode cL_law 983 = .ok (.invokevirtual 81, 3) := by decide +kernel
theorem dL_law_986 : decode cL_law 986 = .ok (.lcmp, 1) := by decide +kernel
theorem dL_law_987 : decode cL_law 987 = .ok (.ifCond .eq 698, 3) := by decide +kernel
theorem dL_law_990 : decode cL_law 990 = .ok (.iconst 0, 1) := by decide +kernel
theorem dL_law_991 : decode cL_law 991 = .ok (.ireturn, 1) := by decide +kernel
theorem dL_law_992 : decode cL_law 992 = .ok (.aload_n 1, 1) := by decide +kernel
theorem dL_law_993 : decode cL_law 993 = .ok (.aload_n 0, 1) := by decide +kernel
theorem dL_law_994 : decode cL_law 994 = .ok (.iload_n 3, 1) := by decide +kernel
theorem dL_law_995 : decode cL_law 995 = .ok (.iconst 1, 1) := by decide +kernel
theorem dL_law_996 : decode cL_law 996 = .ok (.iadd, 1) := by decide +kernel
theorem dL_law_997 : decode cL_law 997 = .ok (.iaload, 1) := by decide +kernel
theorem dL_law_998 : decode cL_law 998 = .ok (.aload_n 0, 1) := by decide +kernel
theorem dL_law_999 : decode cL_law 999 = .ok (.iload_n 3, 1) := by decide +kernel
theorem dL_law_1000 : decode cL_law 1000 = .ok (.iconst 2, 1) := by decide +kernel
theorem dL_law_1001 : decode cL_law 1001 = .ok (.iadd, 1) := by decide +kernel
theorem dL_law_1002 : decode cL_law 1002 = .ok (.iaload, 1) := by decide +kernel
theorem dL_law_1003 : decode cL_law 1003 = .ok (.invokevirtual 82, 3) := by decide +kernel
theorem dL_law_1006 : decode cL_law 1006 = .ok (.aload_n 2, 1) := by decide +kernel
theorem dL_law_1007 : decode cL_law 1007 = .ok (.aload_n 0, 1) := by decide +kernel
theorem dL_law_1008 : decode cL_law 1008 = .ok (.iload_n 3, 1) := by decide +kernel
theorem dL_law_1009 : decode cL_law 1009 = .ok (.iconst 1, 1) := by decide +kernel
theorem dL_law_1010 : decode cL_law 1010 = .ok (.iadd, 1) := by decide +kernel
theorem dL_law_1011 : decode cL_law 1011 = .ok (.iaload, 1) := by decide +kernel
theorem dL_law_1012 : decode cL_law 1012 = .ok (.aload_n 0, 1) := by decide +kernel
theorem dL_law_1013 : decode cL_law 1013 = .ok (.iload_n 3, 1) := by decide +kernel
theorem dL_law_1014 : decode cL_law 1014 = .ok (.iconst 2, 1) := by decide +kernel
theorem dL_law_1015 : decode cL_law 1015 = .ok (.iadd, 1) := by decide +kernel
theorem dL_law_1016 : decode cL_law 1016 = .ok (.iaload, 1) := by decide +kernel
theorem dL_law_1017 : decode cL_law 1017 = .ok (.invokevirtual 85, 3) := by decide +kernel
theorem dL_law_1020 : decode cL_law 1020 = .ok (.lcmp, 1) := by decide +kernel
theorem dL_law_1021 : decode cL_law 1021 = .ok (.ifCond .eq 664, 3) := by decide +kernel
theorem dL_law_1024 : decode cL_law 1024 = .ok (.iconst 0, 1) := by decide +kernel
theorem dL_law_1025 : decode cL_law 1025 = .ok (.ireturn, 1) := by decide +kernel
theorem dL_law_1026 : decode cL_law 1026 = .ok (.aload_n 1, 1) := by decide +kernel
theorem dL_law_1027 : decode cL_law 1027 = .ok (.aload_n 0, 1) := by decide +kernel
theorem dL_law_1028 : decode cL_law 1028 = .ok (.iload_n 3, 1) := by decide +kernel
theorem dL_law_1029 : decode cL_law 1029 = .ok (.iconst 1, 1) := by decide +kernel
theorem dL_law_1030 : decode cL_law 1030 = .ok (.iadd, 1) := by decide +kernel
theorem dL_law_1031 : decode cL_law 1031 = .ok (.iaload, 1) := by decide +kernel
theorem dL_law_1032 : decode cL_law 1032 = .ok (.invokevirtual 86, 3) := by decide +kernel
theorem dL_law_1035 : decode cL_law 1035 = .ok (.aload_n 2, 1) := by decide +kernel
theorem dL_law_1036 : decode cL_law 1036 = .ok (.aload_n 0, 1) := by decide +kernel
theorem dL_law_1037 : decode cL_law 1037 = .ok (.iload_n 3, 1) := by decide +kernel
theorem dL_law_1038 : decode cL_law 1038 = .ok (.iconst 1, 1) := by decide +kernel
theorem dL_law_1039 : decode cL_law 1039 = .ok (.iadd, 1) := by decide +kernel
theorem dL_law_1040 : decode cL_law 1040 = .ok (.iaload, 1) := by decide +kernel
theorem dL_law_1041 : decode cL_law 1041 = .ok (.invokevirtual 89, 3) := by decide +kernel
theorem dL_law_1044 : decode cL_law 1044 = .ok (.lcmp, 1) := by decide +kernel
theorem dL_law_1045 : decode cL_law 1045 = .ok (.ifCond .eq 640, 3) := by decide +kernel
theorem dL_law_1048 : decode cL_law 1048 = .ok (.iconst 0, 1) := by decide +kernel
theorem dL_law_1049 : decode cL_law 1049 = .ok (.ireturn, 1) := by decide +kernel
theorem dL_law_1050 : decode cL_law 1050 = .ok (.aload_n 1, 1) := by decide +kernel
theorem dL_law_1051 : decode cL_law 1051 = .ok (.aload_n 0, 1) := by decide +kernel
theorem dL_law_1052 : decode cL_law 1052 = .ok (.iload_n 3, 1) := by decide +kernel
theorem dL_law_1053 : decode cL_law 1053 = .ok (.iconst 1, 1) := by decide +kernel
theorem dL_law_1054 : decode cL_law 1054 = .ok (.iadd, 1) := by decide +kernel
theorem dL_law_1055 : decode cL_law 1055 = .ok (.iaload, 1) := by decide +kernel
theorem dL_law_1056 : decode cL_law 1056 = .ok (.aload_n 0, 1) := by decide +kernel
theorem dL_law_1057 : decode cL_law 1057 = .ok (.iload_n 3, 1) := by decide +kernel
theorem dL_law_1058 : decode cL_law 1058 = .ok (.iconst 2, 1) := by decide +kernel
theorem dL_law_1059 : decode cL_law 1059 = .ok (.iadd, 1) := by decide +kernel
theorem dL_law_1060 : decode cL_law 1060 = .ok (.iaload, 1) := by decide +kernel
theorem dL_law_1061 : decode cL_law 1061 = .ok (.aload_n 0, 1) := by decide +kernel
theorem dL_law_1062 : decode cL_law 1062 = .ok (.iload_n 3, 1) := by decide +kernel
theorem dL_law_1063 : decode cL_law 1063 = .ok (.iconst 3, 1) := by decide +kernel
theorem dL_law_1064 : decode cL_law 1064 = .ok (.iadd, 1) := by decide +kernel
theorem dL_law_1065 : decode cL_law 1065 = .ok (.iaload, 1) := by decide +kernel
theorem dL_law_1066 : decode cL_law 1066 = .ok (.invokevirtual 90, 3) := by decide +kernel
theorem dL_law_1069 : decode cL_law 1069 = .ok (.aload_n 2, 1) := by decide +kernel
theorem dL_law_1070 : decode cL_law 1070 = .ok (.aload_n 0, 1) := by decide +kernel
theorem dL_law_1071 : decode cL_law 1071 = .ok (.iload_n 3, 1) := by decide +kernel
theorem dL_law_1072 : decode cL_law 1072 = .ok (.iconst 1, 1) := by decide +kernel
theorem dL_law_1073 : decode cL_law 1073 = .ok (.iadd, 1) := by decide +kernel
theorem dL_law_1074 : decode cL_law 1074 = .ok (.iaload, 1) := by decide +kernel
theorem dL_law_1075 : decode cL_law 1075 = .ok (.aload_n 0, 1) := by decide +kernel
theorem dL_law_1076 : decode cL_law 1076 = .ok (.iload_n 3, 1) := by decide +kernel
theorem dL_law_1077 : decode cL_law 1077 = .ok (.iconst 2, 1) := by decide +kernel
theorem dL_law_1078 : decode cL_law 1078 = .ok (.iadd, 1) := by decide +kernel
theorem dL_law_1079 : decode cL_law 1079 = .ok (.iaload, 1) := by decide +kernel
theorem dL_law_1080 : decode cL_law 1080 = .ok (.aload_n 0, 1) := by decide +kernel
theorem dL_law_1081 : decode cL_law 1081 = .ok (.iload_n 3, 1) := by decide +kernel
theorem dL_law_1082 : decode cL_law 1082 = .ok (.iconst 3, 1) := by decide +kernel
theorem dL_law_1083 : decode cL_law 1083 = .ok (.iadd, 1) := by decide +kernel
theorem dL_law_1084 : decode cL_law 1084 = .ok (.iaload, 1) := by decide +kernel
theorem dL_law_1085 : decode cL_law 1085 = .ok (.invokevirtual 94, 3) := by decide +kernel
theorem dL_law_1088 : decode cL_law 1088 = .ok (.lcmp, 1) := by decide +kernel
theorem dL_law_1089 : decode cL_law 1089 = .ok (.ifCond .eq 596, 3) := by decide +kernel
theorem dL_law_1092 : decode cL_law 1092 = .ok (.iconst 0, 1) := by decide +kernel
theorem dL_law_1093 : decode cL_law 1093 = .ok (.ireturn, 1) := by decide +kernel
theorem dL_law_1094 : decode cL_law 1094 = .ok (.aload_n 1, 1) := by decide +kernel
theorem dL_law_1095 : decode cL_law 1095 = .ok (.aload_n 0, 1) := by decide +kernel
theorem dL_law_1096 : decode cL_law 1096 = .ok (.iload_n 3, 1) := by decide +kernel
theorem dL_law_1097 : decode cL_law 1097 = .ok (.iconst 1, 1) := by decide +kernel
theorem dL_law_1098 : decode cL_law 1098 = .ok (.iadd, 1) := by decide +kernel
theorem dL_law_1099 : decode cL_law 1099 = .ok (.iaload, 1) := by decide +kernel
theorem dL_law_1100 : decode cL_law 1100 = .ok (.invokevirtual 95, 3) := by decide +kernel
theorem dL_law_1103 : decode cL_law 1103 = .ok (.aload_n 2, 1) := by decide +kernel
theorem dL_law_1104 : decode cL_law 1104 = .ok (.aload_n 0, 1) := by decide +kernel
theorem dL_law_1105 : decode cL_law 1105 = .ok (.iload_n 3, 1) := by decide +kernel
theorem dL_law_1106 : decode cL_law 1106 = .ok (.iconst 1, 1) := by decide +kernel
theorem dL_law_1107 : decode cL_law 1107 = .ok (.iadd, 1) := by decide +kernel
theorem dL_law_1108 : decode cL_law 1108 = .ok (.iaload, 1) := by decide +kernel
theorem dL_law_1109 : decode cL_law 1109 = .ok (.invokevirtual 98, 3) := by decide +kernel
theorem dL_law_1112 : decode cL_law 1112 = .ok (.lcmp, 1) := by decide +kernel
theorem dL_law_1113 : decode cL_law 1113 = .ok (.ifCond .eq 572, 3) := by decide +kernel
theorem dL_law_1116 : decode cL_law 1116 = .ok (.iconst 0, 1) := by decide +kernel
theorem dL_law_1117 : decode cL_law 1117 = .ok (.ireturn, 1) := by decide +kernel
theorem dL_law_1118 : decode cL_law 1118 = .ok (.aload_n 1, 1) := by decide +kernel
theorem dL_law_1119 : decode cL_law 1119 = .ok (.aload_n 0, 1) := by decide +kernel
theorem dL_law_1120 : decode cL_law 1120 = .ok (.iload_n 3, 1) := by decide +kernel
theorem dL_law_1121 : decode cL_law 1121 = .ok (.iconst 1, 1) := by decide +kernel
theorem dL_law_1122 : decode cL_law 1122 = .ok (.iadd, 1) := by decide +kernel
theorem dL_law_1123 : decode cL_law 1123 = .ok (.iaload, 1) := by decide +kernel
theorem dL_law_1124 : decode cL_law 1124 = .ok (.aload_n 0, 1) := by decide +kernel
theorem dL_law_1125 : decode cL_law 1125 = .ok (.iload_n 3, 1) := by decide +kernel
theorem dL_law_1126 : decode cL_law 1126 = .ok (.iconst 2, 1) := by decide +kernel
theorem dL_law_1127 : decode cL_law 1127 = .ok (.iadd, 1) := by decide +kernel
theorem dL_law_1128 : decode cL_law 1128 = .ok (.iaload, 1) := by decide +kernel
theorem dL_law_1129 : decode cL_law 1129 = .ok (.i2l, 1) := by decide +kernel
theorem dL_law_1130 : decode cL_law 1130 = .ok (.bipush 32, 2) := by decide +kernel
theorem dL_law_1132 : decode cL_law 1132 = .ok (.lshl, 1) := by decide +kernel
theorem dL_law_1133 : decode cL_law 1133 = .ok (.aload_n 0, 1) := by decide +kernel
theorem dL_law_1134 : decode cL_law 1134 = .ok (.iload_n 3, 1) := by decide +kernel
theorem dL_law_1135 : decode cL_law 1135 = .ok (.iconst 3, 1) := by decide +kernel
theorem dL_law_1136 : decode cL_law 1136 = .ok (.iadd, 1) := by decide +kernel
theorem dL_law_1137 : decode cL_law 1137 = .ok (.iaload, 1) := by decide +kernel
theorem dL_law_1138 : decode cL_law 1138 = .ok (.i2l, 1) := by decide +kernel
theorem dL_law_1139 : decode cL_law 1139 = .ok (.ldc2_w 13, 3) := by decide +kernel
theorem dL_law_1142 : decode cL_law 1142 = .ok (.land, 1) := by decide +kernel
theorem dL_law_1143 : decode cL_law 1143 = .ok (.lor, 1) := by decide +kernel
theorem dL_law_1144 : decode cL_law 1144 = .ok (.invokevirtual 99, 3) := by decide +kernel
theorem dL_law_1147 : decode cL_law 1147 = .ok (.aload_n 2, 1) := by decide +kernel
theorem dL_law_1148 : decode cL_law 1148 = .ok (.aload_n 0, 1) := by decide +kernel
theorem dL_law_1149 : decode cL_law 1149 = .ok (.iload_n 3, 1) := by decide +kernel
theorem dL_law_1150 : decode cL_law 1150 = .ok (.iconst 1, 1) := by decide +kernel
theorem dL_law_1151 : decode cL_law 1151 = .ok (.iadd, 1) := by decide +kernel
theorem dL_law_1152 : decode cL_law 1152 = .ok (.iaload, 1) := by decide +kernel
theorem dL_law_1153 : decode cL_law 1153 = .ok (.aload_n 0, 1) := by decide +kernel
theorem dL_law_1154 : decode cL_law 1154 = .ok (.iload_n 3, 1) := by decide +kernel
theorem dL_law_1155 : decode cL_law 1155 = .ok (.iconst 2, 1) := by decide +kernel
theorem dL_law_1156 : decode cL_law 1156 = .ok (.iadd, 1) := by decide +kernel
theorem dL_law_1157 : decode cL_law 1157 = .ok (.iaload, 1) := by decide +kernel
theorem dL_law_1158 : decode cL_law 1158 = .ok (.i2l, 1) := by decide +kernel
theorem dL_law_1159 : decode cL_law 1159 = .ok (.bipush 32, 2) := by decide +kernel
theorem dL_law_1161 : decode cL_law 1161 = .ok (.lshl, 1) := by decide +kernel
theorem dL_law_1162 : decode cL_law 1162 = .ok (.aload_n 0, 1) := by decide +kernel
theorem dL_law_1163 : decode cL_law 1163 = .ok (.iload_n 3, 1) := by decide +kernel
theorem dL_law_1164 : decode cL_law 1164 = .ok (.iconst 3, 1) := by decide +kernel
theorem dL_law_1165 : decode cL_law 1165 = .ok (.iadd, 1) := by decide +kernel
theorem dL_law_1166 : decode cL_law 1166 = .ok (.iaload, 1) := by decide +kernel
theorem dL_law_1167 : decode cL_law 1167 = .ok (.i2l, 1) := by decide +kernel
theorem dL_law_1168 : decode cL_law 1168 = .ok (.ldc2_w 13, 3) := by decide +kernel
theorem dL_law_1171 : decode cL_law 1171 = .ok (.land, 1) := by decide +kernel
theorem dL_law_1172 : decode cL_law 1172 = .ok (.lor, 1) := by decide +kernel
theorem dL_law_1173 : decode cL_law 1173 = .ok (.invokevirtual 102, 3) := by decide +kernel
theorem dL_law_1176 : decode cL_law 1176 = .ok (.lcmp, 1) := by decide +kernel
theorem dL_law_1177 : decode cL_law 1177 = .ok (.ifCond .eq 508, 3) := by decide +kernel
theorem dL_law_1180 : decode cL_law 1180 = .ok (.iconst 0, 1) := by decide +kernel
theorem dL_law_1181 : decode cL_law 1181 = .ok (.ireturn, 1) := by decide +kernel
theorem dL_law_1182 : decode cL_law 1182 = .ok (.aload_n 1, 1) := by decide +kernel
theorem dL_law_1183 : decode cL_law 1183 = .ok (.aload_n 0, 1) := by decide +kernel
theorem dL_law_1184 : decode cL_law 1184 = .ok (.iload_n 3, 1) := by decide +kernel
theorem dL_law_1185 : decode cL_law 1185 = .ok (.iconst 1, 1) := by decide +kernel
theorem dL_law_1186 : decode cL_law 1186 = .ok (.iadd, 1) := by decide +kernel
theorem dL_law_1187 : decode cL_law 1187 = .ok (.iaload, 1) := by decide +kernel
theorem dL_law_1188 : decode cL_law 1188 = .ok (.aload_n 0, 1) := by decide +kernel
theorem dL_law_1189 : decode cL_law 1189 = .ok (.iload_n 3, 1) := by decide +kernel
theorem dL_law_1190 : decode cL_law 1190 = .ok (.iconst 2, 1) := by decide +kernel
theorem dL_law_1191 : decode cL_law 1191 = .ok (.iadd, 1) := by decide +kernel
theorem dL_law_1192 : decode cL_law 1192 = .ok (.iaload, 1) := by decide +kernel
theorem dL_law_1193 : decode cL_law 1193 = .ok (.i2l, 1) := by decide +kernel
theorem dL_law_1194 : decode cL_law 1194 = .ok (.bipush 32, 2) := by decide +kernel
theorem dL_law_1196 : decode cL_law 1196 = .ok (.lshl, 1) := by decide +kernel
theorem dL_law_1197 : decode cL_law 1197 = .ok (.aload_n 0, 1) := by decide +kernel
theorem dL_law_1198 : decode cL_law 1198 = .ok (.iload_n 3, 1) := by decide +kernel
theorem dL_law_1199 : decode cL_law 1199 = .ok (.iconst 3, 1) := by decide +kernel
theorem dL_law_1200 : decode cL_law 1200 = .ok (.iadd, 1) := by decide +kernel
theorem dL_law_1201 : decode cL_law 1201 = .ok (.iaload, 1) := by decide +kernel
theorem dL_law_1202 : decode cL_law 1202 = .ok (.i2l, 1) := by decide +kernel
theorem dL_law_1203 : decode cL_law 1203 = .ok (.ldc2_w 13, 3) := by decide +kernel
theorem dL_law_1206 : decode cL_law 1206 = .ok (.land, 1) := by decide +kernel
theorem dL_law_1207 : decode cL_law 1207 = .ok (.lor, 1) := by decide +kernel
theorem dL_law_1208 : decode cL_law 1208 = .ok (.invokevirtual 103, 3) := by decide +kernel
theorem dL_law_1211 : decode cL_law 1211 = .ok (.aload_n 2, 1) := by decide +kernel
theorem dL_law_1212 : decode cL_law 1212 = .ok (.aload_n 0, 1) := by decide +kernel
theorem dL_law_1213 : decode cL_law 1213 = .ok (.iload_n 3, 1) := by decide +kernel
theorem dL_law_1214 : decode cL_law 1214 = .ok (.iconst 1, 1) := by decide +kernel
theorem dL_law_1215 : decode cL_law 1215 = .ok (.iadd, 1) := by decide +kernel
theorem dL_law_1216 : decode cL_law 1216 = .ok (.iaload, 1) := by decide +kernel
theorem dL_law_1217 : decode cL_law 1217 = .ok (.aload_n 0, 1) := by decide +kernel
theorem dL_law_1218 : decode cL_law 1218 = .ok (.iload_n 3, 1) := by decide +kernel
theorem dL_law_1219 : decode cL_law 1219 = .ok (.iconst 2, 1) := by decide +kernel
theorem dL_law_1220 : decode cL_law 1220 = .ok (.iadd, 1) := by decide +kernel
theorem dL_law_1221 : decode cL_law 1221 = .ok (.iaload, 1) := by decide +kernel
theorem dL_law_1222 : decode cL_law 1222 = .ok (.i2l, 1) := by decide +kernel
theorem dL_law_1223 : decode cL_law 1223 = .ok (.bipush 32, 2) := by decide +kernel
theorem dL_law_1225 : decode cL_law 1225 = .ok (.lshl, 1) := by decide +kernel
theorem dL_law_1226 : decode cL_law 1226 = .ok (.aload_n 0, 1) := by decide +kernel
theorem dL_law_1227 : decode cL_law 1227 = .ok (.iload_n 3, 1) := by decide +kernel
theorem dL_law_1228 : decode cL_law 1228 = .ok (.iconst 3, 1) := by decide +kernel
theorem dL_law_1229 : decode cL_law 1229 = .ok (.iadd, 1) := by decide +kernel
theorem dL_law_1230 : decode cL_law 1230 = .ok (.iaload, 1) := by decide +kernel
theorem dL_law_1231 : decode cL_law 1231 = .ok (.i2l, 1) := by decide +kernel
theorem dL_law_1232 : decode cL_law 1232 = .ok (.ldc2_w 13, 3) := by decide +kernel
theorem dL_law_1235 : decode cL_law 1235 = .ok (.land, 1) := by decide +kernel
theorem dL_law_1236 : decode cL_law 1236 = .ok (.lor, 1) := by decide +kernel
theorem dL_law_1237 : decode cL_law 1237 = .ok (.invokevirtual 106, 3) := by decide +kernel
theorem dL_law_1240 : decode cL_law 1240 = .ok (.lcmp, 1) := by decide +kernel
theorem dL_law_1241 : decode cL_law 1241 = .ok (.ifCond .eq 444, 3) := by decide +kernel
theorem dL_law_1244 : decode cL_law 1244 = .ok (.iconst 0, 1) := by decide +kernel
theorem dL_law_1245 : decode cL_law 1245 = .ok (.ireturn, 1) := by decide +kernel
theorem dL_law_1246 : decode cL_law 1246 = .ok (.aload_n 1, 1) := by decide +kernel
theorem dL_law_1247 : decode cL_law 1247 = .ok (.aload_n 0, 1) := by decide +kernel
theorem dL_law_1248 : decode cL_law 1248 = .ok (.iload_n 3, 1) := by decide +kernel
theorem dL_law_1249 : decode cL_law 1249 = .ok (.iconst 1, 1) := by decide +kernel
theorem dL_law_1250 : decode cL_law 1250 = .ok (.iadd, 1) := by decide +kernel
theorem dL_law_1251 : decode cL_law 1251 = .ok (.iaload, 1) := by decide +kernel
theorem dL_law_1252 : decode cL_law 1252 = .ok (.aload_n 0, 1) := by decide +kernel
theorem dL_law_1253 : decode cL_law 1253 = .ok (.iload_n 3, 1) := by decide +kernel
theorem dL_law_1254 : decode cL_law 1254 = .ok (.iconst 2, 1) := by decide +kernel
theorem dL_law_1255 : decode cL_law 1255 = .ok (.iadd, 1) := by decide +kernel
theorem dL_law_1256 : decode cL_law 1256 = .ok (.iaload, 1) := by decide +kernel
theorem dL_law_1257 : decode cL_law 1257 = .ok (.i2l, 1) := by decide +kernel
theorem dL_law_1258 : decode cL_law 1258 = .ok (.bipush 32, 2) := by decide +kernel
theorem dL_law_1260 : decode cL_law 1260 = .ok (.lshl, 1) := by decide +kernel
theorem dL_law_1261 : decode cL_law 1261 = .ok (.aload_n 0, 1) := by decide +kernel
theorem dL_law_1262 : decode cL_law 1262 = .ok (.iload_n 3, 1) := by decide +kernel
theorem dL_law_1263 : decode cL_law 1263 = .ok (.iconst 3, 1) := by decide +kernel
theorem dL_law_1264 : decode cL_law 1264 = .ok (.iadd, 1) := by decide +kernel
theorem dL_law_1265 : decode cL_law 1265 = .ok (.iaload, 1) := by decide +kernel
theorem dL_law_1266 : decode cL_law 1266 = .ok (.i2l, 1) := by decide +kernel
theorem dL_law_1267 : decode cL_law 1267 = .ok (.ldc2_w 13, 3) := by decide +kernel
theorem dL_law_1270 : decode cL_law 1270 = .ok (.land, 1) := by decide +kernel
theorem dL_law_1271 : decode cL_law 1271 = .ok (.lor, 1) := by decide +kernel
theorem dL_law_1272 : decode cL_law 1272 = .ok (.invokevirtual 107, 3) := by decide +kernel
theorem dL_law_1275 : decode cL_law 1275 = .ok (.aload_n 2, 1) := by decide +kernel
theorem dL_law_1276 : decode cL_law 1276 = .ok (.aload_n 0, 1) := by decide +kernel
theorem dL_law_1277 : decode cL_law 1277 = .ok (.iload_n 3, 1) := by decide +kernel
theorem dL_law_1278 : decode cL_law 1278 = .ok (.iconst 1, 1) := by decide +kernel
theorem dL_law_1279 : decode cL_law 1279 = .ok (.iadd, 1) := by decide +kernel
theorem dL_law_1280 : decode cL_law 1280 = .ok (.iaload, 1) := by decide +kernel
theorem dL_law_1281 : decode cL_law 1281 = .ok (.aload_n 0, 1) := by decide +kernel
theorem dL_law_1282 : decode cL_law 1282 = .ok (.iload_n 3, 1) := by decide +kernel
theorem dL_law_1283 : decode cL_law 1283 = .ok (.iconst 2, 1) := by decide +kernel
theorem dL_law_1284 : decode cL_law 1284 = .ok (.iadd, 1) := by decide +kernel
theorem dL_law_1285 : decode cL_law 1285 = .ok (.iaload, 1) := by decide +kernel
theorem dL_law_1286 : decode cL_law 1286 = .ok (.i2l, 1) := by decide +kernel
theorem dL_law_1287 : decode cL_law 1287 = .ok (.bipush 32, 2) := by decide +kernel
theorem dL_law_1289 : decode cL_law 1289 = .ok (.lshl, 1) := by decide +kernel
theorem dL_law_1290 : decode cL_law 1290 = .ok (.aload_n 0, 1) := by decide +kernel
theorem dL_law_1291 : decode cL_law 1291 = .ok (.iload_n 3, 1) := by decide +kernel
theorem dL_law_1292 : decode cL_law 1292 = .ok (.iconst 3, 1) := by decide +kernel
theorem dL_law_1293 : decode cL_law 1293 = .ok (.iadd, 1) := by decide +kernel
theorem dL_law_1294 : decode cL_law 1294 = .ok (.iaload, 1) := by decide +kernel
theorem dL_law_1295 : decode cL_law 1295 = .ok (.i2l, 1) := by decide +kernel
theorem dL_law_1296 : decode cL_law 1296 = .ok (.ldc2_w 13, 3) := by decide +kernel
theorem dL_law_1299 : decode cL_law 1299 = .ok (.land, 1) := by decide +kernel
theorem dL_law_1300 : decode cL_law 1300 = .ok (.lor, 1) := by decide +kernel
theorem dL_law_1301 : decode cL_law 1301 = .ok (.invokevirtual 110, 3) := by decide +kernel
theorem dL_law_1304 : decode cL_law 1304 = .ok (.lcmp, 1) := by decide +kernel
theorem dL_law_1305 : decode cL_law 1305 = .ok (.ifCond .eq 380, 3) := by decide +kernel
theorem dL_law_1308 : decode cL_law 1308 = .ok (.iconst 0, 1) := by decide +kernel
theorem dL_law_1309 : decode cL_law 1309 = .ok (.ireturn, 1) := by decide +kernel
theorem dL_law_1310 : decode cL_law 1310 = .ok (.aload_n 1, 1) := by decide +kernel
theorem dL_law_1311 : decode cL_law 1311 = .ok (.invokevirtual 111, 3) := by decide +kernel
theorem dL_law_1314 : decode cL_law 1314 = .ok (.aload_n 2, 1) := by decide +kernel
theorem dL_law_1315 : decode cL_law 1315 = .ok (.invokevirtual 115, 3) := by decide +kernel
theorem dL_law_1318 : decode cL_law 1318 = .ok (.lcmp, 1) := by decide +kernel
theorem dL_law_1319 : decode cL_law 1319 = .ok (.ifCond .eq 366, 3) := by decide +kernel
theorem dL_law_1322 : decode cL_law 1322 = .ok (.iconst 0, 1) := by decide +kernel
theorem dL_law_1323 : decode cL_law 1323 = .ok (.ireturn, 1) := by decide +kernel
theorem dL_law_1324 : decode cL_law 1324 = .ok (.aload_n 1, 1) := by decide +kernel
theorem dL_law_1325 : decode cL_law 1325 = .ok (.invokevirtual 116, 3) := by decide +kernel
theorem dL_law_1328 : decode cL_law 1328 = .ok (.aload_n 2, 1) := by decide +kernel
theorem dL_law_1329 : decode cL_law 1329 = .ok (.invokevirtual 119, 3) := by decide +kernel
theorem dL_law_1332 : decode cL_law 1332 = .ok (.lcmp, 1) := by decide +kernel
theorem dL_law_1333 : decode cL_law 1333 = .ok (.ifCond .eq 352, 3) := by decide +kernel
theorem dL_law_1336 : decode cL_law 1336 = .ok (.iconst 0, 1) := by decide +kernel
theorem dL_law_1337 : decode cL_law 1337 = .ok (.ireturn, 1) := by decide +kernel
theorem dL_law_1338 : decode cL_law 1338 = .ok (.aload_n 1, 1) := by decide +kernel
theorem dL_law_1339 : decode cL_law 1339 = .ok (.invokevirtual 120, 3) := by decide +kernel
theorem dL_law_1342 : decode cL_law 1342 = .ok (.aload_n 2, 1) := by decide +kernel
theorem dL_law_1343 : decode cL_law 1343 = .ok (.invokevirtual 123, 3) := by decide +kernel
theorem dL_law_1346 : decode cL_law 1346 = .ok (.lcmp, 1) := by decide +kernel
theorem dL_law_1347 : decode cL_law 1347 = .ok (.ifCond .eq 338, 3) := by decide +kernel
theorem dL_law_1350 : decode cL_law 1350 = .ok (.iconst 0, 1) := by decide +kernel
theorem dL_law_1351 : decode cL_law 1351 = .ok (.ireturn, 1) := by decide +kernel
theorem dL_law_1352 : decode cL_law 1352 = .ok (.aload_n 1, 1) := by decide +kernel
theorem dL_law_1353 : decode cL_law 1353 = .ok (.aload_n 0, 1) := by decide +kernel
theorem dL_law_1354 : decode cL_law 1354 = .ok (.iload_n 3, 1) := by decide +kernel
theorem dL_law_1355 : decode cL_law 1355 = .ok (.iconst 1, 1) := by decide +kernel
theorem dL_law_1356 : decode cL_law 1356 = .ok (.iadd, 1) := by decide +kernel
theorem dL_law_1357 : decode cL_law 1357 = .ok (.iaload, 1) := by decide +kernel
theorem dL_law_1358 : decode cL_law 1358 = .ok (.invokevirtual 124, 3) := by decide +kernel
theorem dL_law_1361 : decode cL_law 1361 = .ok (.aload_n 2, 1) := by decide +kernel
theorem dL_law_1362 : decode cL_law 1362 = .ok (.aload_n 0, 1) := by decide +kernel
theorem dL_law_1363 : decode cL_law 1363 = .ok (.iload_n 3, 1) := by decide +kernel
theorem dL_law_1364 : decode cL_law 1364 = .ok (.iconst 1, 1) := by decide +kernel
theorem dL_law_1365 : decode cL_law 1365 = .ok (.iadd, 1) := by decide +kernel
theorem dL_law_1366 : decode cL_law 1366 = .ok (.iaload, 1) := by decide +kernel
theorem dL_law_1367 : decode cL_law 1367 = .ok (.invokevirtual 128, 3) := by decide +kernel
theorem dL_law_1370 : decode cL_law 1370 = .ok (.if_icmp .eq 315, 3) := by decide +kernel
theorem dL_law_1373 : decode cL_law 1373 = .ok (.iconst 0, 1) := by decide +kernel
theorem dL_law_1374 : decode cL_law 1374 = .ok (.ireturn, 1) := by decide +kernel
theorem dL_law_1375 : decode cL_law 1375 = .ok (.aload_n 1, 1) := by decide +kernel
theorem dL_law_1376 : decode cL_law 1376 = .ok (.aload_n 0, 1) := by decide +kernel
theorem dL_law_1377 : decode cL_law 1377 = .ok (.iload_n 3, 1) := by decide +kernel
theorem dL_law_1378 : decode cL_law 1378 = .ok (.iconst 1, 1) := by decide +kernel
theorem dL_law_1379 : decode cL_law 1379 = .ok (.iadd, 1) := by decide +kernel
theorem dL_law_1380 : decode cL_law 1380 = .ok (.iaload, 1) := by decide +kernel
theorem dL_law_1381 : decode cL_law 1381 = .ok (.invokevirtual 129, 3) := by decide +kernel
theorem dL_law_1384 : decode cL_law 1384 = .ok (.aload_n 2, 1) := by decide +kernel
theorem dL_law_1385 : decode cL_law 1385 = .ok (.aload_n 0, 1) := by decide +kernel
theorem dL_law_1386 : decode cL_law 1386 = .ok (.iload_n 3, 1) := by decide +kernel
theorem dL_law_1387 : decode cL_law 1387 = .ok (.iconst 1, 1) := by decide +kernel
theorem dL_law_1388 : decode cL_law 1388 = .ok (.iadd, 1) := by decide +kernel
theorem dL_law_1389 : decode cL_law 1389 = .ok (.iaload, 1) := by decide +kernel
theorem dL_law_1390 : decode cL_law 1390 = .ok (.invokevirtual 132, 3) := by decide +kernel
theorem dL_law_1393 : decode cL_law 1393 = .ok (.if_icmp .eq 292, 3) := by decide +kernel
theorem dL_law_1396 : decode cL_law 1396 = .ok (.iconst 0, 1) := by decide +kernel
theorem dL_law_1397 : decode cL_law 1397 = .ok (.ireturn, 1) := by decide +kernel
theorem dL_law_1398 : decode cL_law 1398 = .ok (.aload_n 1, 1) := by decide +kernel
theorem dL_law_1399 : decode cL_law 1399 = .ok (.aload_n 0, 1) := by decide +kernel
theorem dL_law_1400 : decode cL_law 1400 = .ok (.iload_n 3, 1) := by decide +kernel
theorem dL_law_1401 : decode cL_law 1401 = .ok (.iconst 1, 1) := by decide +kernel
theorem dL_law_1402 : decode cL_law 1402 = .ok (.iadd, 1) := by decide +kernel
theorem dL_law_1403 : decode cL_law 1403 = .ok (.iaload, 1) := by decide +kernel
theorem dL_law_1404 : decode cL_law 1404 = .ok (.invokevirtual 133, 3) := by decide +kernel
theorem dL_law_1407 : decode cL_law 1407 = .ok (.aload_n 2, 1) := by decide +kernel
theorem dL_law_1408 : decode cL_law 1408 = .ok (.aload_n 0, 1) := by decide +kernel
theorem dL_law_1409 : decode cL_law 1409 = .ok (.iload_n 3, 1) := by decide +kernel
theorem dL_law_1410 : decode cL_law 1410 = .ok (.iconst 1, 1) := by decide +kernel
theorem dL_law_1411 : decode cL_law 1411 = .ok (.iadd, 1) := by decide +kernel
theorem dL_law_1412 : decode cL_law 1412 = .ok (.iaload, 1) := by decide +kernel
theorem dL_law_1413 : decode cL_law 1413 = .ok (.invokevirtual 136, 3) := by decide +kernel
theorem dL_law_1416 : decode cL_law 1416 = .ok (.if_icmp .eq 269, 3) := by decide +kernel
theorem dL_law_1419 : decode cL_law 1419 = .ok (.iconst 0, 1) := by decide +kernel
theorem dL_law_1420 : decode cL_law 1420 = .ok (.ireturn, 1) := by decide +kernel
theorem dL_law_1421 : decode cL_law 1421 = .ok (.aload_n 1, 1) := by decide +kernel
theorem dL_law_1422 : decode cL_law 1422 = .ok (.aload_n 0, 1) := by decide +kernel
theorem dL_law_1423 : decode cL_law 1423 = .ok (.iload_n 3, 1) := by decide +kernel
theorem dL_law_1424 : decode cL_law 1424 = .ok (.iconst 1, 1) := by decide +kernel
theorem dL_law_1425 : decode cL_law 1425 = .ok (.iadd, 1) := by decide +kernel
theorem dL_law_1426 : decode cL_law 1426 = .ok (.iaload, 1) := by decide +kernel
theorem dL_law_1427 : decode cL_law 1427 = .ok (.invokevirtual 137, 3) := by decide +kernel
theorem dL_law_1430 : decode cL_law 1430 = .ok (.aload_n 2, 1) := by decide +kernel
theorem dL_law_1431 : decode cL_law 1431 = .ok (.aload_n 0, 1) := by decide +kernel
theorem dL_law_1432 : decode cL_law 1432 = .ok (.iload_n 3, 1) := by decide +kernel
theorem dL_law_1433 : decode cL_law 1433 = .ok (.iconst 1, 1) := by decide +kernel
theorem dL_law_1434 : decode cL_law 1434 = .ok (.iadd, 1) := by decide +kernel
theorem dL_law_1435 : decode cL_law 1435 = .ok (.iaload, 1) := by decide +kernel
theorem dL_law_1436 : decode cL_law 1436 = .ok (.invokevirtual 140, 3) := by decide +kernel
theorem dL_law_1439 : decode cL_law 1439 = .ok (.if_icmp .eq 246, 3) := by decide +kernel
theorem dL_law_1442 : decode cL_law 1442 = .ok (.iconst 0, 1) := by decide +kernel
theorem dL_law_1443 : decode cL_law 1443 = .ok (.ireturn, 1) := by decide +kernel
theorem dL_law_1444 : decode cL_law 1444 = .ok (.aload_n 1, 1) := by decide +kernel
theorem dL_law_1445 : decode cL_law 1445 = .ok (.aload_n 0, 1) := by decide +kernel
theorem dL_law_1446 : decode cL_law 1446 = .ok (.iload_n 3, 1) := by decide +kernel
theorem dL_law_1447 : decode cL_law 1447 = .ok (.iconst 1, 1) := by decide +kernel
theorem dL_law_1448 : decode cL_law 1448 = .ok (.iadd, 1) := by decide +kernel
theorem dL_law_1449 : decode cL_law 1449 = .ok (.iaload, 1) := by decide +kernel
theorem dL_law_1450 : decode cL_law 1450 = .ok (.invokevirtual 141, 3) := by decide +kernel
theorem dL_law_1453 : decode cL_law 1453 = .ok (.aload_n 2, 1) := by decide +kernel
theorem dL_law_1454 : decode cL_law 1454 = .ok (.aload_n 0, 1) := by decide +kernel
theorem dL_law_1455 : decode cL_law 1455 = .ok (.iload_n 3, 1) := by decide +kernel
theorem dL_law_1456 : decode cL_law 1456 = .ok (.iconst 1, 1) := by decide +kernel
theorem dL_law_1457 : decode cL_law 1457 = .ok (.iadd, 1) := by decide +kernel
theorem dL_law_1458 : decode cL_law 1458 = .ok (.iaload, 1) := by decide +kernel
theorem dL_law_1459 : decode cL_law 1459 = .ok (.invokevirtual 144, 3) := by decide +kernel
theorem dL_law_1462 : decode cL_law 1462 = .ok (.lcmp, 1) := by decide +kernel
theorem dL_law_1463 : decode cL_law 1463 = .ok (.ifCond .eq 222, 3) := by decide +kernel
theorem dL_law_1466 : decode cL_law 1466 = .ok (.iconst 0, 1) := by decide +kernel
theorem dL_law_1467 : decode cL_law 1467 = .ok (.ireturn, 1) := by decide +kernel
theorem dL_law_1468 : decode cL_law 1468 = .ok (.aload_n 1, 1) := by decide +kernel
theorem dL_law_1469 : decode cL_law 1469 = .ok (.aload_n 0, 1) := by decide +kernel
theorem dL_law_1470 : decode cL_law 1470 = .ok (.iload_n 3, 1) := by decide +kernel
theorem dL_law_1471 : decode cL_law 1471 = .ok (.iconst 1, 1) := by decide +kernel
theorem dL_law_1472 : decode cL_law 1472 = .ok (.iadd, 1) := by decide +kernel
theorem dL_law_1473 : decode cL_law 1473 = .ok (.iaload, 1) := by decide +kernel
theorem dL_law_1474 : decode cL_law 1474 = .ok (.invokevirtual 145, 3) := by decide +kernel
theorem dL_law_1477 : decode cL_law 1477 = .ok (.aload_n 2, 1) := by decide +kernel
theorem dL_law_1478 : decode cL_law 1478 = .ok (.aload_n 0, 1) := by decide +kernel
theorem dL_law_1479 : decode cL_law 1479 = .ok (.iload_n 3, 1) := by decide +kernel
theorem dL_law_1480 : decode cL_law 1480 = .ok (.iconst 1, 1) := by decide +kernel
theorem dL_law_1481 : decode cL_law 1481 = .ok (.iadd, 1) := by decide +kernel
theorem dL_law_1482 : decode cL_law 1482 = .ok (.iaload, 1) := by decide +kernel
theorem dL_law_1483 : decode cL_law 1483 = .ok (.invokevirtual 148, 3) := by decide +kernel
theorem dL_law_1486 : decode cL_law 1486 = .ok (.if_icmp .eq 199, 3) := by decide +kernel
theorem dL_law_1489 : decode cL_law 1489 = .ok (.iconst 0, 1) := by decide +kernel
theorem dL_law_1490 : decode cL_law 1490 = .ok (.ireturn, 1) := by decide +kernel
theorem dL_law_1491 : decode cL_law 1491 = .ok (.aload_n 1, 1) := by decide +kernel
theorem dL_law_1492 : decode cL_law 1492 = .ok (.aload_n 0, 1) := by decide +kernel
theorem dL_law_1493 : decode cL_law 1493 = .ok (.iload_n 3, 1) := by decide +kernel
theorem dL_law_1494 : decode cL_law 1494 = .ok (.iconst 1, 1) := by decide +kernel
theorem dL_law_1495 : decode cL_law 1495 = .ok (.iadd, 1) := by decide +kernel
theorem dL_law_1496 : decode cL_law 1496 = .ok (.iaload, 1) := by decide +kernel
theorem dL_law_1497 : decode cL_law 1497 = .ok (.aload_n 0, 1) := by decide +kernel
theorem dL_law_1498 : decode cL_law 1498 = .ok (.iload_n 3, 1) := by decide +kernel
theorem dL_law_1499 : decode cL_law 1499 = .ok (.iconst 2, 1) := by decide +kernel
theorem dL_law_1500 : decode cL_law 1500 = .ok (.iadd, 1) := by decide +kernel
theorem dL_law_1501 : decode cL_law 1501 = .ok (.iaload, 1) := by decide +kernel
theorem dL_law_1502 : decode cL_law 1502 = .ok (.invokevirtual 149, 3) := by decide +kernel
theorem dL_law_1505 : decode cL_law 1505 = .ok (.aload_n 2, 1) := by decide +kernel
theorem dL_law_1506 : decode cL_law 1506 = .ok (.aload_n 0, 1) := by decide +kernel
theorem dL_law_1507 : decode cL_law 1507 = .ok (.iload_n 3, 1) := by decide +kernel
theorem dL_law_1508 : decode cL_law 1508 = .ok (.iconst 1, 1) := by decide +kernel
theorem dL_law_1509 : decode cL_law 1509 = .ok (.iadd, 1) := by decide +kernel
theorem dL_law_1510 : decode cL_law 1510 = .ok (.iaload, 1) := by decide +kernel
theorem dL_law_1511 : decode cL_law 1511 = .ok (.aload_n 0, 1) := by decide +kernel
theorem dL_law_1512 : decode cL_law 1512 = .ok (.iload_n 3, 1) := by decide +kernel
theorem dL_law_1513 : decode cL_law 1513 = .ok (.iconst 2, 1) := by decide +kernel
theorem dL_law_1514 : decode cL_law 1514 = .ok (.iadd, 1) := by decide +kernel
theorem dL_law_1515 : decode cL_law 1515 = .ok (.iaload, 1) := by decide +kernel
theorem dL_law_1516 : decode cL_law 1516 = .ok (.invokevirtual 153, 3) := by decide +kernel
theorem dL_law_1519 : decode cL_law 1519 = .ok (.if_icmp .eq 166, 3) := by decide +kernel
theorem dL_law_1522 : decode cL_law 1522 = .ok (.iconst 0, 1) := by decide +kernel
theorem dL_law_1523 : decode cL_law 1523 = .ok (.ireturn, 1) := by decide +kernel
theorem dL_law_1524 : decode cL_law 1524 = .ok (.aload_n 1, 1) := by decide +kernel
theorem dL_law_1525 : decode cL_law 1525 = .ok (.aload_n 0, 1) := by decide +kernel
theorem dL_law_1526 : decode cL_law 1526 = .ok (.iload_n 3, 1) := by decide +kernel
theorem dL_law_1527 : decode cL_law 1527 = .ok (.iconst 1, 1) := by decide +kernel
theorem dL_law_1528 : decode cL_law 1528 = .ok (.iadd, 1) := by decide +kernel
theorem dL_law_1529 : decode cL_law 1529 = .ok (.iaload, 1) := by decide +kernel
theorem dL_law_1530 : decode cL_law 1530 = .ok (.invokevirtual 154, 3) := by decide +kernel
theorem dL_law_1533 : decode cL_law 1533 = .ok (.aload_n 2, 1) := by decide +kernel
theorem dL_law_1534 : decode cL_law 1534 = .ok (.aload_n 0, 1) := by decide +kernel
theorem dL_law_1535 : decode cL_law 1535 = .ok (.iload_n 3, 1) := by decide +kernel
theorem dL_law_1536 : decode cL_law 1536 = .ok (.iconst 1, 1) := by decide +kernel
theorem dL_law_1537 : decode cL_law 1537 = .ok (.iadd, 1) := by decide +kernel
theorem dL_law_1538 : decode cL_law 1538 = .ok (.iaload, 1) := by decide +kernel
theorem dL_law_1539 : decode cL_law 1539 = .ok (.invokevirtual 157, 3) := by decide +kernel
theorem dL_law_1542 : decode cL_law 1542 = .ok (.lcmp, 1) := by decide +kernel
theorem dL_law_1543 : decode cL_law 1543 = .ok (.ifCond .eq 142, 3) := by decide +kernel
theorem dL_law_1546 : decode cL_law 1546 = .ok (.iconst 0, 1) := by decide +kernel
theorem dL_law_1547 : decode cL_law 1547 = .ok (.ireturn, 1) := by decide +kernel
theorem dL_law_1548 : decode cL_law 1548 = .ok (.aload_n 1, 1) := by decide +kernel
theorem dL_law_1549 : decode cL_law 1549 = .ok (.aload_n 0, 1) := by decide +kernel
theorem dL_law_1550 : decode cL_law 1550 = .ok (.iload_n 3, 1) := by decide +kernel
theorem dL_law_1551 : decode cL_law 1551 = .ok (.iconst 1, 1) := by decide +kernel
theorem dL_law_1552 : decode cL_law 1552 = .ok (.iadd, 1) := by decide +kernel
theorem dL_law_1553 : decode cL_law 1553 = .ok (.iaload, 1) := by decide +kernel
theorem dL_law_1554 : decode cL_law 1554 = .ok (.invokevirtual 158, 3) := by decide +kernel
theorem dL_law_1557 : decode cL_law 1557 = .ok (.aload_n 2, 1) := by decide +kernel
theorem dL_law_1558 : decode cL_law 1558 = .ok (.aload_n 0, 1) := by decide +kernel
theorem dL_law_1559 : decode cL_law 1559 = .ok (.iload_n 3, 1) := by decide +kernel
theorem dL_law_1560 : decode cL_law 1560 = .ok (.iconst 1, 1) := by decide +kernel
theorem dL_law_1561 : decode cL_law 1561 = .ok (.iadd, 1) := by decide +kernel
theorem dL_law_1562 : decode cL_law 1562 = .ok (.iaload, 1) := by decide +kernel
theorem dL_law_1563 : decode cL_law 1563 = .ok (.invokevirtual 161, 3) := by decide +kernel
theorem dL_law_1566 : decode cL_law 1566 = .ok (.lcmp, 1) := by decide +kernel
theorem dL_law_1567 : decode cL_law 1567 = .ok (.ifCond .eq 118, 3) := by decide +kernel
theorem dL_law_1570 : decode cL_law 1570 = .ok (.iconst 0, 1) := by decide +kernel
theorem dL_law_1571 : decode cL_law 1571 = .ok (.ireturn, 1) := by decide +kernel
theorem dL_law_1572 : decode cL_law 1572 = .ok (.aload_n 1, 1) := by decide +kernel
theorem dL_law_1573 : decode cL_law 1573 = .ok (.invokevirtual 162, 3) := by decide +kernel
theorem dL_law_1576 : decode cL_law 1576 = .ok (.aload_n 2, 1) := by decide +kernel
theorem dL_law_1577 : decode cL_law 1577 = .ok (.invokevirtual 165, 3) := by decide +kernel
theorem dL_law_1580 : decode cL_law 1580 = .ok (.lcmp, 1) := by decide +kernel
theorem dL_law_1581 : decode cL_law 1581 = .ok (.ifCond .eq 104, 3) := by decide +kernel
theorem dL_law_1584 : decode cL_law 1584 = .ok (.iconst 0, 1) := by decide +kernel
theorem dL_law_1585 : decode cL_law 1585 = .ok (.ireturn, 1) := by decide +kernel
theorem dL_law_1586 : decode cL_law 1586 = .ok (.aload_n 1, 1) := by decide +kernel
theorem dL_law_1587 : decode cL_law 1587 = .ok (.aload_n 0, 1) := by decide +kernel
theorem dL_law_1588 : decode cL_law 1588 = .ok (.iload_n 3, 1) := by decide +kernel
theorem dL_law_1589 : decode cL_law 1589 = .ok (.iconst 1, 1) := by decide +kernel
theorem dL_law_1590 : decode cL_law 1590 = .ok (.iadd, 1) := by decide +kernel
theorem dL_law_1591 : decode cL_law 1591 = .ok (.iaload, 1) := by decide +kernel
theorem dL_law_1592 : decode cL_law 1592 = .ok (.invokevirtual 166, 3) := by decide +kernel
theorem dL_law_1595 : decode cL_law 1595 = .ok (.aload_n 2, 1) := by decide +kernel
theorem dL_law_1596 : decode cL_law 1596 = .ok (.aload_n 0, 1) := by decide +kernel
theorem dL_law_1597 : decode cL_law 1597 = .ok (.iload_n 3, 1) := by decide +kernel
theorem dL_law_1598 : decode cL_law 1598 = .ok (.iconst 1, 1) := by decide +kernel
theorem dL_law_1599 : decode cL_law 1599 = .ok (.iadd, 1) := by decide +kernel
theorem dL_law_1600 : decode cL_law 1600 = .ok (.iaload, 1) := by decide +kernel
theorem dL_law_1601 : decode cL_law 1601 = .ok (.invokevirtual 169, 3) := by decide +kernel
theorem dL_law_1604 : decode cL_law 1604 = .ok (.if_icmp .eq 81, 3) := by decide +kernel
theorem dL_law_1607 : decode cL_law 1607 = .ok (.iconst 0, 1) := by decide +kernel
theorem dL_law_1608 : decode cL_law 1608 = .ok (.ireturn, 1) := by decide +kernel
theorem dL_law_1609 : decode cL_law 1609 = .ok (.aload_n 1, 1) := by decide +kernel
theorem dL_law_1610 : decode cL_law 1610 = .ok (.invokevirtual 170, 3) := by decide +kernel
theorem dL_law_1613 : decode cL_law 1613 = .ok (.aload_n 2, 1) := by decide +kernel
theorem dL_law_1614 : decode cL_law 1614 = .ok (.invokevirtual 174, 3) := by decide +kernel
theorem dL_law_1617 : decode cL_law 1617 = .ok (.if_icmp .eq 68, 3) := by decide +kernel
theorem dL_law_1620 : decode cL_law 1620 = .ok (.iconst 0, 1) := by decide +kernel
theorem dL_law_1621 : decode cL_law 1621 = .ok (.ireturn, 1) := by decide +kernel
theorem dL_law_1622 : decode cL_law 1622 = .ok (.aload_n 1, 1) := by decide +kernel
theorem dL_law_1623 : decode cL_law 1623 = .ok (.invokevirtual 175, 3) := by decide +kernel
theorem dL_law_1626 : decode cL_law 1626 = .ok (.aload_n 2, 1) := by decide +kernel
theorem dL_law_1627 : decode cL_law 1627 = .ok (.invokevirtual 178, 3) := by decide +kernel
theorem dL_law_1630 : decode cL_law 1630 = .ok (.if_icmp .eq 55, 3) := by decide +kernel
theorem dL_law_1633 : decode cL_law 1633 = .ok (.iconst 0, 1) := by decide +kernel
theorem dL_law_1634 : decode cL_law 1634 = .ok (.ireturn, 1) := by decide +kernel
theorem dL_law_1635 : decode cL_law 1635 = .ok (.aload_n 1, 1) := by decide +kernel
theorem dL_law_1636 : decode cL_law 1636 = .ok (.aload_n 0, 1) := by decide +kernel
theorem dL_law_1637 : decode cL_law 1637 = .ok (.iload_n 3, 1) := by decide +kernel
theorem dL_law_1638 : decode cL_law 1638 = .ok (.iconst 1, 1) := by decide +kernel
theorem dL_law_1639 : decode cL_law 1639 = .ok (.iadd, 1) := by decide +kernel
theorem dL_law_1640 : decode cL_law 1640 = .ok (.iaload, 1) := by decide +kernel
theorem dL_law_1641 : decode cL_law 1641 = .ok (.invokevirtual 179, 3) := by decide +kernel
theorem dL_law_1644 : decode cL_law 1644 = .ok (.aload_n 2, 1) := by decide +kernel
theorem dL_law_1645 : decode cL_law 1645 = .ok (.aload_n 0, 1) := by decide +kernel
theorem dL_law_1646 : decode cL_law 1646 = .ok (.iload_n 3, 1) := by decide +kernel
theorem dL_law_1647 : decode cL_law 1647 = .ok (.iconst 1, 1) := by decide +kernel
theorem dL_law_1648 : decode cL_law 1648 = .ok (.iadd, 1) := by decide +kernel
theorem dL_law_1649 : decode cL_law 1649 = .ok (.iaload, 1) := by decide +kernel
theorem dL_law_1650 : decode cL_law 1650 = .ok (.invokevirtual 182, 3) := by decide +kernel
theorem dL_law_1653 : decode cL_law 1653 = .ok (.if_icmp .eq 32, 3) := by decide +kernel
theorem dL_law_1656 : decode cL_law 1656 = .ok (.iconst 0, 1) := by decide +kernel
theorem dL_law_1657 : decode cL_law 1657 = .ok (.ireturn, 1) := by decide +kernel
theorem dL_law_1658 : decode cL_law 1658 = .ok (.aload_n 1, 1) := by decide +kernel
theorem dL_law_1659 : decode cL_law 1659 = .ok (.invokevirtual 183, 3) := by decide +kernel
theorem dL_law_1662 : decode cL_law 1662 = .ok (.aload_n 2, 1) := by decide +kernel
theorem dL_law_1663 : decode cL_law 1663 = .ok (.invokevirtual 186, 3) := by decide +kernel
theorem dL_law_1666 : decode cL_law 1666 = .ok (.if_icmp .eq 19, 3) := by decide +kernel
theorem dL_law_1669 : decode cL_law 1669 = .ok (.iconst 0, 1) := by decide +kernel
theorem dL_law_1670 : decode cL_law 1670 = .ok (.ireturn, 1) := by decide +kernel
theorem dL_law_1671 : decode cL_law 1671 = .ok (.aload_n 1, 1) := by decide +kernel
theorem dL_law_1672 : decode cL_law 1672 = .ok (.invokevirtual 187, 3) := by decide +kernel
theorem dL_law_1675 : decode cL_law 1675 = .ok (.aload_n 2, 1) := by decide +kernel
theorem dL_law_1676 : decode cL_law 1676 = .ok (.invokevirtual 190, 3) := by decide +kernel
theorem dL_law_1679 : decode cL_law 1679 = .ok (.lcmp, 1) := by decide +kernel
theorem dL_law_1680 : decode cL_law 1680 = .ok (.ifCond .eq 5, 3) := by decide +kernel
theorem dL_law_1683 : decode cL_law 1683 = .ok (.iconst 0, 1) := by decide +kernel
theorem dL_law_1684 : decode cL_law 1684 = .ok (.ireturn, 1) := by decide +kernel
theorem dL_law_1685 : decode cL_law 1685 = .ok (.iinc 3 6, 3) := by decide +kernel
theorem dL_law_1688 : decode cL_law 1688 = .ok (.goto (-1670), 3) := by decide +kernel
theorem dL_law_1691 : decode cL_law 1691 = .ok (.iconst 1, 1) := by decide +kernel
theorem dL_law_1692 : decode cL_law 1692 = .ok (.ireturn, 1) := by decide +kernel
theorem sc_L_law_X7_init : ym_site g_L_law g_X7_init 40 5 0 := ⟨by decide, by decide, wd_92, wd_76, by decide +kernel⟩
theorem sc_L_law_X8_init : ym_site g_L_law g_X8_init 40 1 0 := ⟨by decide, by decide, wd_843, wd_83, by decide +kernel⟩
theorem sc_L_law_X7_bidder : ym_site g_L_law g_X7_bidder 40 5 2 := ⟨by decide, by decide, wd_220, wd_76, by decide +kernel⟩
theorem sc_L_law_X8_bidder : ym_site g_L_law g_X8_bidder 40 19 2 := ⟨by decide, by decide, wd_1024, wd_83, by decide +kernel⟩
def bl_L_law_1685_18 (K : Option Nat → Option Nat → Option Nat → Int32 → ym_H → Option (((Unit) ⊕ Int32) × ym_H)) (N : Nat) (w0 : Option Nat) (w1 : Option Nat) (w2 : Option Nat) (w3 : Int32) (h : ym_H) : Option (((Unit) ⊕ Int32) × ym_H) :=
  K w0 w1 w2 (w3 + 6) h
set_option maxRecDepth 20000 in
set_option maxHeartbeats 4000000 in
theorem ob_L_law_1685_18 {D : ym_D} {b0 : Nat} {K : Option Nat → Option Nat → Option Nat → Int32 → ym_H → Option (((Unit) ⊕ Int32) × ym_H)} {N : Nat} {w0 : Option Nat} {w1 : Option Nat} {w2 : Option Nat} {w3 : Int32} {h h1 : ym_H} {x : ((Unit) ⊕ Int32)} (hKl : ∀ (u0 : Option Nat) (u1 : Option Nat) (u2 : Option Nat) (u3 : Int32) (h h1 : ym_H) (x : ((Unit) ⊕ Int32)), K u0 u1 u2 u3 h = some (x, h1) → ∀ {r0 : Option Value} {h' : ym_H}, Sum.elim (fun z => ym_Y D b0 g_L_law 40 1691 [] [] h1 r0 h') (fun z => r0 = (some (.int z)) ∧ h' = h1) x → ym_Y D b0 g_L_law 40 18 [(0, va_rf u0), (1, va_rf u1), (2, va_rf u2), (3, .int u3)] [] h r0 h') (hf : bl_L_law_1685_18 K N w0 w1 w2 w3 h = some (x, h1)) {r0 : Option Value} {h' : ym_H} (k : Sum.elim (fun z => ym_Y D b0 g_L_law 40 1691 [] [] h1 r0 h') (fun z => r0 = (some (.int z)) ∧ h' = h1) x) : ym_Y D b0 g_L_law 40 1685 [(0, va_rf w0), (1, va_rf w1), (2, va_rf w2), (3, .int w3)] [] h r0 h' := by
  unfold bl_L_law_1685_18 at hf
  refine ym_iinc (pc := 1685) (lv' := [(3, .int (w3 + 6)), (0, va_rf w0), (1, va_rf w1), (2, va_rf w2)]) (v := (w3 + 6)) 3 dL_law_1685 rfl (by rw [show Int32.ofInt 6 = 6 by decide]) (by decide) ⟨trivial, trivial, ym_c1 w2, trivial, trivial⟩ rfl ?_
  refine ym_goto (pc := 1688) (tgt := 18) dL_law_1688 (by decide) ?_
  exact ym_sub [1, 2, 3, 0] rfl (hKl _ _ _ _ _ _ _ hf k)
theorem sc_L_law_X7_lot : ym_site g_L_law g_X7_lot 40 5 3 := ⟨by decide, by decide, wd_319, wd_76, by decide +kernel⟩
theorem sc_L_law_X8_lot : ym_site g_L_law g_X8_lot 40 19 3 := ⟨by decide, by decide, wd_1272, wd_83, by decide +kernel⟩
theorem sc_L_law_X7_seller : ym_site g_L_law g_X7_seller 40 6 2 := ⟨by decide, by decide, wd_370, wd_76, by decide +kernel⟩
theorem sc_L_law_X8_seller : ym_site g_L_law g_X8_seller 40 19 2 := ⟨by decide, by decide, wd_1276, wd_83, by decide +kernel⟩
theorem sc_L_law_X7_cut : ym_site g_L_law g_X7_cut 40 5 2 := ⟨by decide, by decide, wd_416, wd_76, by decide +kernel⟩
theorem sc_L_law_X8_cut : ym_site g_L_law g_X8_cut 40 19 2 := ⟨by decide, by decide, wd_1280, wd_83, by decide +kernel⟩
theorem sc_L_law_X7_step : ym_site g_L_law g_X7_step 40 8 2 := ⟨by decide, by decide, wd_423, wd_76, by decide +kernel⟩
theorem sc_L_law_X8_step : ym_site g_L_law g_X8_step 40 19 2 := ⟨by decide, by decide, wd_1284, wd_83, by decide +kernel⟩
theorem sc_L_law_X7_premium : ym_site g_L_law g_X7_premium 40 8 2 := ⟨by decide, by decide, wd_447, wd_76, by decide +kernel⟩
theorem sc_L_law_X8_premium : ym_site g_L_law g_X8_premium 40 19 2 := ⟨by decide, by decide, wd_1288, wd_83, by decide +kernel⟩
theorem sc_L_law_X7_tax : ym_site g_L_law g_X7_tax 40 5 2 := ⟨by decide, by decide, wd_451, wd_76, by decide +kernel⟩
theorem sc_L_law_X8_tax : ym_site g_L_law g_X8_tax 40 19 2 := ⟨by decide, by decide, wd_1292, wd_83, by decide +kernel⟩
theorem sc_L_law_X7_call : ym_site g_L_law g_X7_call 40 8 1 := ⟨by decide, by decide, wd_455, wd_76, by decide +kernel⟩
theorem sc_L_law_X8_call : ym_site g_L_law g_X8_call 40 19 1 := ⟨by decide, by decide, wd_1296, wd_83, by decide +kernel⟩
theorem sc_L_law_X7_bid : ym_site g_L_law g_X7_bid 40 8 3 := ⟨by decide, by decide, wd_530, wd_76, by decide +kernel⟩
theorem sc_L_law_X8_bid : ym_site g_L_law g_X8_bid 40 19 3 := ⟨by decide, by decide, wd_1300, wd_83, by decide +kernel⟩
theorem sc_L_law_X7_limit : ym_site g_L_law g_X7_limit 40 8 3 := ⟨by decide, by decide, wd_597, wd_76, by decide +kernel⟩
theorem sc_L_law_X8_limit : ym_site g_L_law g_X8_limit 40 19 3 := ⟨by decide, by decide, wd_1304, wd_83, by decide +kernel⟩
theorem sc_L_law_X7_ask : ym_site g_L_law g_X7_ask 40 5 1 := ⟨by decide, by decide, wd_606, wd_76, by decide +kernel⟩
theorem sc_L_law_X8_ask : ym_site g_L_law g_X8_ask 40 19 1 := ⟨by decide, by decide, wd_1308, wd_83, by decide +kernel⟩
theorem sc_L_law_X7_open : ym_site g_L_law g_X7_open 40 6 1 := ⟨by decide, by decide, wd_610, wd_76, by decide +kernel⟩
theorem sc_L_law_X8_open : ym_site g_L_law g_X8_open 40 19 1 := ⟨by decide, by decide, wd_1312, wd_83, by decide +kernel⟩
theorem sc_L_law_X7_tick : ym_site g_L_law g_X7_tick 40 5 2 := ⟨by decide, by decide, wd_619, wd_76, by decide +kernel⟩
theorem sc_L_law_X8_tick : ym_site g_L_law g_X8_tick 40 19 2 := ⟨by decide, by decide, wd_1316, wd_83, by decide +kernel⟩
theorem sc_L_law_X7_take : ym_site g_L_law g_X7_take 40 7 2 := ⟨by decide, by decide, wd_623, wd_76, by decide +kernel⟩
theorem sc_L_law_X8_take : ym_site g_L_law g_X8_take 40 19 2 := ⟨by decide, by decide, wd_1320, wd_83, by decide +kernel⟩
theorem sc_L_law_X7_bidderAt : ym_site g_L_law g_X7_bidderAt 40 6 2 := ⟨by decide, by decide, wd_627, wd_76, by decide +kernel⟩
theorem sc_L_law_X8_bidderAt : ym_site g_L_law g_X8_bidderAt 40 19 2 := ⟨by decide, by decide, wd_1324, wd_83, by decide +kernel⟩
theorem sc_L_law_X7_sumAt : ym_site g_L_law g_X7_sumAt 40 6 2 := ⟨by decide, by decide, wd_636, wd_76, by decide +kernel⟩
theorem sc_L_law_X8_sumAt : ym_site g_L_law g_X8_sumAt 40 19 2 := ⟨by decide, by decide, wd_1328, wd_83, by decide +kernel⟩
theorem sc_L_law_X7_hammer : ym_site g_L_law g_X7_hammer 40 9 1 := ⟨by decide, by decide, wd_640, wd_76, by decide +kernel⟩
theorem sc_L_law_X8_hammer : ym_site g_L_law g_X8_hammer 40 19 1 := ⟨by decide, by decide, wd_1332, wd_83, by decide +kernel⟩
theorem sc_L_law_X7_join : ym_site g_L_law g_X7_join 40 5 3 := ⟨by decide, by decide, wd_689, wd_76, by decide +kernel⟩
theorem sc_L_law_X8_join : ym_site g_L_law g_X8_join 40 19 3 := ⟨by decide, by decide, wd_1336, wd_83, by decide +kernel⟩
theorem sc_L_law_X7_settle : ym_site g_L_law g_X7_settle 40 9 1 := ⟨by decide, by decide, wd_693, wd_76, by decide +kernel⟩
theorem sc_L_law_X8_settle : ym_site g_L_law g_X8_settle 40 19 1 := ⟨by decide, by decide, wd_1340, wd_83, by decide +kernel⟩
theorem sc_L_law_X7_reoffer : ym_site g_L_law g_X7_reoffer 40 7 2 := ⟨by decide, by decide, wd_706, wd_76, by decide +kernel⟩
theorem sc_L_law_X8_reoffer : ym_site g_L_law g_X8_reoffer 40 19 2 := ⟨by decide, by decide, wd_1344, wd_83, by decide +kernel⟩
theorem sc_L_law_X7_pay : ym_site g_L_law g_X7_pay 40 6 2 := ⟨by decide, by decide, wd_723, wd_76, by decide +kernel⟩
theorem sc_L_law_X8_pay : ym_site g_L_law g_X8_pay 40 19 2 := ⟨by decide, by decide, wd_1348, wd_83, by decide +kernel⟩
theorem sc_L_law_X7_payOut : ym_site g_L_law g_X7_payOut 40 6 2 := ⟨by decide, by decide, wd_732, wd_76, by decide +kernel⟩
theorem sc_L_law_X8_payOut : ym_site g_L_law g_X8_payOut 40 19 2 := ⟨by decide, by decide, wd_1352, wd_83, by decide +kernel⟩
theorem sc_L_law_X7_batch : ym_site g_L_law g_X7_batch 40 5 0 := ⟨by decide, by decide, wd_736, wd_76, by decide +kernel⟩
theorem sc_L_law_X8_batch : ym_site g_L_law g_X8_batch 40 19 0 := ⟨by decide, by decide, wd_1356, wd_83, by decide +kernel⟩
theorem sc_L_law_X7_end : ym_site g_L_law g_X7_end 40 5 0 := ⟨by decide, by decide, wd_748, wd_76, by decide +kernel⟩
theorem sc_L_law_X8_end : ym_site g_L_law g_X8_end 40 19 0 := ⟨by decide, by decide, wd_1360, wd_83, by decide +kernel⟩
theorem sc_L_law_X7_undo : ym_site g_L_law g_X7_undo 40 5 0 := ⟨by decide, by decide, wd_756, wd_76, by decide +kernel⟩
theorem sc_L_law_X8_undo : ym_site g_L_law g_X8_undo 40 19 0 := ⟨by decide, by decide, wd_1364, wd_83, by decide +kernel⟩
theorem sc_L_law_X7_kindOf : ym_site g_L_law g_X7_kindOf 40 4 1 := ⟨by decide, by decide, wd_764, wd_76, by decide +kernel⟩
theorem sc_L_law_X8_kindOf : ym_site g_L_law g_X8_kindOf 40 3 1 := ⟨by decide, by decide, wd_1368, wd_83, by decide +kernel⟩
theorem sc_L_law_X7_bidderKind : ym_site g_L_law g_X7_bidderKind 40 4 1 := ⟨by decide, by decide, wd_768, wd_76, by decide +kernel⟩
theorem sc_L_law_X8_bidderKind : ym_site g_L_law g_X8_bidderKind 40 3 1 := ⟨by decide, by decide, wd_1376, wd_83, by decide +kernel⟩
theorem sc_L_law_X7_state : ym_site g_L_law g_X7_state 40 4 1 := ⟨by decide, by decide, wd_772, wd_76, by decide +kernel⟩
theorem sc_L_law_X8_state : ym_site g_L_law g_X8_state 40 3 1 := ⟨by decide, by decide, wd_1384, wd_83, by decide +kernel⟩
theorem sc_L_law_X7_stands : ym_site g_L_law g_X7_stands 40 4 1 := ⟨by decide, by decide, wd_776, wd_76, by decide +kernel⟩
theorem sc_L_law_X8_stands : ym_site g_L_law g_X8_stands 40 3 1 := ⟨by decide, by decide, wd_1388, wd_83, by decide +kernel⟩
theorem sc_L_law_X7_sum : ym_site g_L_law g_X7_sum 40 4 1 := ⟨by decide, by decide, wd_780, wd_76, by decide +kernel⟩
theorem sc_L_law_X8_sum : ym_site g_L_law g_X8_sum 40 3 1 := ⟨by decide, by decide, wd_1392, wd_83, by decide +kernel⟩
theorem sc_L_law_X7_entries : ym_site g_L_law g_X7_entries 40 4 1 := ⟨by decide, by decide, wd_784, wd_76, by decide +kernel⟩
theorem sc_L_law_X8_entries : ym_site g_L_law g_X8_entries 40 3 1 := ⟨by decide, by decide, wd_1396, wd_83, by decide +kernel⟩
theorem sc_L_law_X7_cause : ym_site g_L_law g_X7_cause 40 4 2 := ⟨by decide, by decide, wd_788, wd_76, by decide +kernel⟩
theorem sc_L_law_X8_cause : ym_site g_L_law g_X8_cause 40 3 2 := ⟨by decide, by decide, wd_1400, wd_83, by decide +kernel⟩
theorem sc_L_law_X7_balance : ym_site g_L_law g_X7_balance 40 4 1 := ⟨by decide, by decide, wd_792, wd_76, by decide +kernel⟩
theorem sc_L_law_X8_balance : ym_site g_L_law g_X8_balance 40 3 1 := ⟨by decide, by decide, wd_1404, wd_83, by decide +kernel⟩
theorem sc_L_law_X7_account : ym_site g_L_law g_X7_account 40 2 1 := ⟨by decide, by decide, wd_796, wd_76, by decide +kernel⟩
theorem sc_L_law_X8_account : ym_site g_L_law g_X8_account 40 1 1 := ⟨by decide, by decide, wd_1408, wd_83, by decide +kernel⟩
theorem sc_L_law_X7_total : ym_site g_L_law g_X7_total 40 5 0 := ⟨by decide, by decide, wd_800, wd_76, by decide +kernel⟩
theorem sc_L_law_X8_total : ym_site g_L_law g_X8_total 40 1 0 := ⟨by decide, by decide, wd_1412, wd_83, by decide +kernel⟩
theorem sc_L_law_X7_numbers : ym_site g_L_law g_X7_numbers 40 1 1 := ⟨by decide, by decide, wd_805, wd_76, by decide +kernel⟩
theorem sc_L_law_X8_numbers : ym_site g_L_law g_X8_numbers 40 1 1 := ⟨by decide, by decide, wd_1416, wd_83, by decide +kernel⟩
theorem sc_L_law_X7_tries : ym_site g_L_law g_X7_tries 40 1 0 := ⟨by decide, by decide, wd_809, wd_76, by decide +kernel⟩
theorem sc_L_law_X8_tries : ym_site g_L_law g_X8_tries 40 1 0 := ⟨by decide, by decide, wd_1420, wd_83, by decide +kernel⟩
theorem sc_L_law_X7_why : ym_site g_L_law g_X7_why 40 1 0 := ⟨by decide, by decide, wd_813, wd_76, by decide +kernel⟩
theorem sc_L_law_X8_why : ym_site g_L_law g_X8_why 40 1 0 := ⟨by decide, by decide, wd_1424, wd_83, by decide +kernel⟩
theorem sc_L_law_X7_trace : ym_site g_L_law g_X7_trace 40 2 1 := ⟨by decide, by decide, wd_817, wd_76, by decide +kernel⟩
theorem sc_L_law_X8_trace : ym_site g_L_law g_X8_trace 40 1 1 := ⟨by decide, by decide, wd_1428, wd_83, by decide +kernel⟩
theorem sc_L_law_X7_batches : ym_site g_L_law g_X7_batches 40 2 0 := ⟨by decide, by decide, wd_825, wd_76, by decide +kernel⟩
theorem sc_L_law_X8_batches : ym_site g_L_law g_X8_batches 40 1 0 := ⟨by decide, by decide, wd_1432, wd_83, by decide +kernel⟩
theorem sc_L_law_X7_digest : ym_site g_L_law g_X7_digest 40 6 0 := ⟨by decide, by decide, wd_829, wd_76, by decide +kernel⟩
theorem sc_L_law_X8_digest : ym_site g_L_law g_X8_digest 40 3 0 := ⟨by decide, by decide, wd_1436, wd_83, by decide +kernel⟩
theorem sw_L_law_33 {x : Int32} (c0 : ¬ x = 0) (c1 : ¬ x = 1) (c2 : ¬ x = 2) (c3 : ¬ x = 3) (c4 : ¬ x = 4) (c5 : ¬ x = 5) (c6 : ¬ x = 6) (c7 : ¬ x = 7) (c8 : ¬ x = 8) (c9 : ¬ x = 9) (c10 : ¬ x = 10) (c11 : ¬ x = 11) (c12 : ¬ x = 12) (c13 : ¬ x = 13) (c14 : ¬ x = 14) (c15 : ¬ x = 15) (c16 : ¬ x = 16) (c17 : ¬ x = 17) (c18 : ¬ x = 18) (c19 : ¬ x = 19) (c20 : ¬ x = 20) (c21 : ¬ x = 21) (c22 : ¬ x = 22) (c23 : ¬ x = 23) (c24 : ¬ x = 24) (c25 : ¬ x = 25) (c26 : ¬ x = 26) (c27 : ¬ x = 27) (c28 : ¬ x = 28) (c29 : ¬ x = 29) (c30 : ¬ x = 30) (c31 : ¬ x = 31) (c32 : ¬ x = 32) (c33 : ¬ x = 33) (c34 : ¬ x = 34) (c35 : ¬ x = 35) (c36 : ¬ x = 36) (c37 : ¬ x = 37) (c38 : ¬ x = 38) (c39 : ¬ x = 39) (c40 : ¬ x = 40) : x.toInt < (0) ∨ (40) < x.toInt := by
  have d0 : ¬ x.toInt = (0) := fun q => c0 (Int32.toInt_inj.mp (by rw [q]; rfl))
  have d1 : ¬ x.toInt = (1) := fun q => c1 (Int32.toInt_inj.mp (by rw [q]; rfl))
  have d2 : ¬ x.toInt = (2) := fun q => c2 (Int32.toInt_inj.mp (by rw [q]; rfl))
  have d3 : ¬ x.toInt = (3) := fun q => c3 (Int32.toInt_inj.mp (by rw [q]; rfl))
  have d4 : ¬ x.toInt = (4) := fun q => c4 (Int32.toInt_inj.mp (by rw [q]; rfl))
  have d5 : ¬ x.toInt = (5) := fun q => c5 (Int32.toInt_inj.mp (by rw [q]; rfl))
  have d6 : ¬ x.toInt = (6) := fun q => c6 (Int32.toInt_inj.mp (by rw [q]; rfl))
  have d7 : ¬ x.toInt = (7) := fun q => c7 (Int32.toInt_inj.mp (by rw [q]; rfl))
  have d8 : ¬ x.toInt = (8) := fun q => c8 (Int32.toInt_inj.mp (by rw [q]; rfl))
  have d9 : ¬ x.toInt = (9) := fun q => c9 (Int32.toInt_inj.mp (by rw [q]; rfl))
  have d10 : ¬ x.toInt = (10) := fun q => c10 (Int32.toInt_inj.mp (by rw [q]; rfl))
  have d11 : ¬ x.toInt = (11) := fun q => c11 (Int32.toInt_inj.mp (by rw [q]; rfl))
  have d12 : ¬ x.toInt = (12) := fun q => c12 (Int32.toInt_inj.mp (by rw [q]; rfl))
  have d13 : ¬ x.toInt = (13) := fun q => c13 (Int32.toInt_inj.mp (by rw [q]; rfl))
  have d14 : ¬ x.toInt = (14) := fun q => c14 (Int32.toInt_inj.mp (by rw [q]; rfl))
  have d15 : ¬ x.toInt = (15) := fun q => c15 (Int32.toInt_inj.mp (by rw [q]; rfl))
  have d16 : ¬ x.toInt = (16) := fun q => c16 (Int32.toInt_inj.mp (by rw [q]; rfl))
  have d17 : ¬ x.toInt = (17) := fun q => c17 (Int32.toInt_inj.mp (by rw [q]; rfl))
  have d18 : ¬ x.toInt = (18) := fun q => c18 (Int32.toInt_inj.mp (by rw [q]; rfl))
  have d19 : ¬ x.toInt = (19) := fun q => c19 (Int32.toInt_inj.mp (by rw [q]; rfl))
  have d20 : ¬ x.toInt = (20) := fun q => c20 (Int32.toInt_inj.mp (by rw [q]; rfl))
  have d21 : ¬ x.toInt = (21) := fun q => c21 (Int32.toInt_inj.mp (by rw [q]; rfl))
  have d22 : ¬ x.toInt = (22) := fun q => c22 (Int32.toInt_inj.mp (by rw [q]; rfl))
  have d23 : ¬ x.toInt = (23) := fun q => c23 (Int32.toInt_inj.mp (by rw [q]; rfl))
  have d24 : ¬ x.toInt = (24) := fun q => c24 (Int32.toInt_inj.mp (by rw [q]; rfl))
  have d25 : ¬ x.toInt = (25) := fun q => c25 (Int32.toInt_inj.mp (by rw [q]; rfl))
  have d26 : ¬ x.toInt = (26) := fun q => c26 (Int32.toInt_inj.mp (by rw [q]; rfl))
  have d27 : ¬ x.toInt = (27) := fun q => c27 (Int32.toInt_inj.mp (by rw [q]; rfl))
  have d28 : ¬ x.toInt = (28) := fun q => c28 (Int32.toInt_inj.mp (by rw [q]; rfl))
  have d29 : ¬ x.toInt = (29) := fun q => c29 (Int32.toInt_inj.mp (by rw [q]; rfl))
  have d30 : ¬ x.toInt = (30) := fun q => c30 (Int32.toInt_inj.mp (by rw [q]; rfl))
  have d31 : ¬ x.toInt = (31) := fun q => c31 (Int32.toInt_inj.mp (by rw [q]; rfl))
  have d32 : ¬ x.toInt = (32) := fun q => c32 (Int32.toInt_inj.mp (by rw [q]; rfl))
  have d33 : ¬ x.toInt = (33) := fun q => c33 (Int32.toInt_inj.mp (by rw [q]; rfl))
  have d34 : ¬ x.toInt = (34) := fun q => c34 (Int32.toInt_inj.mp (by rw [q]; rfl))
  have d35 : ¬ x.toInt = (35) := fun q => c35 (Int32.toInt_inj.mp (by rw [q]; rfl))
  have d36 : ¬ x.toInt = (36) := fun q => c36 (Int32.toInt_inj.mp (by rw [q]; rfl))
  have d37 : ¬ x.toInt = (37) := fun q => c37 (Int32.toInt_inj.mp (by rw [q]; rfl))
  have d38 : ¬ x.toInt = (38) := fun q => c38 (Int32.toInt_inj.mp (by rw [q]; rfl))
  have d39 : ¬ x.toInt = (39) := fun q => c39 (Int32.toInt_inj.mp (by rw [q]; rfl))
  have d40 : ¬ x.toInt = (40) := fun q => c40 (Int32.toInt_inj.mp (by rw [q]; rfl))
  omega
def lb_L_law_18 (K : Option Nat → Option Nat → Option Nat → Int32 → ym_H → Option (((Unit) ⊕ Int32) × ym_H)) (N : Nat) (w0 : Option Nat) (w1 : Option Nat) (w2 : Option Nat) (w3 : Int32) (h : ym_H) : Option (((Unit) ⊕ Int32) × ym_H) :=
  Option.bind (ym_len h w0) fun v20 =>
  if (v20 - 6) < w3 then
    some ((.inl ()), h)
  else
    Option.bind (ym_ldI h w0 w3) fun v29 =>
    if (v29 &&& 63) = 0 then
      Option.bind (ym_ldI h w0 (w3 + 1)) fun v217 =>
      Option.bind (ym_ldI h w0 (w3 + 2)) fun v222 =>
      Option.bind (ym_ldI h w0 (w3 + 3)) fun v231 =>
      Option.bind (ym_ob h w1 7) fun o238 =>
      Option.bind (fn_X7_bidder N w1 v217 (((Int32.toInt64 v222) <<< (Int32.toInt64 32 &&& 63)) ||| ((Int32.toInt64 v231) &&& 4294967295)) h) fun q238 =>
      Option.bind (ym_ldI q238.2 w0 (w3 + 1)) fun v246 =>
      Option.bind (ym_ldI q238.2 w0 (w3 + 2)) fun v251 =>
      Option.bind (ym_ldI q238.2 w0 (w3 + 3)) fun v260 =>
      Option.bind (ym_ob q238.2 w2 8) fun o267 =>
      Option.bind (fn_X8_bidder N w2 v246 (((Int32.toInt64 v251) <<< (Int32.toInt64 32 &&& 63)) ||| ((Int32.toInt64 v260) &&& 4294967295)) q238.2) fun q267 =>
      if q238.1 = q267.1 then
        bl_L_law_1685_18 K N w0 w1 w2 w3 q267.2
      else
        some ((.inr 0), q267.2)
    else
    if (v29 &&& 63) = 1 then
      Option.bind (ym_ldI h w0 (w3 + 1)) fun v281 =>
      Option.bind (ym_ldI h w0 (w3 + 2)) fun v286 =>
      Option.bind (ym_ldI h w0 (w3 + 3)) fun v295 =>
      Option.bind (ym_ldI h w0 (w3 + 4)) fun v306 =>
      Option.bind (ym_ldI h w0 (w3 + 5)) fun v315 =>
      Option.bind (ym_ob h w1 7) fun o322 =>
      Option.bind (fn_X7_lot N w1 v281 (((Int32.toInt64 v286) <<< (Int32.toInt64 32 &&& 63)) ||| ((Int32.toInt64 v295) &&& 4294967295)) (((Int32.toInt64 v306) <<< (Int32.toInt64 32 &&& 63)) ||| ((Int32.toInt64 v315) &&& 4294967295)) h) fun q322 =>
      Option.bind (ym_ldI q322.2 w0 (w3 + 1)) fun v330 =>
      Option.bind (ym_ldI q322.2 w0 (w3 + 2)) fun v335 =>
      Option.bind (ym_ldI q322.2 w0 (w3 + 3)) fun v344 =>
      Option.bind (ym_ldI q322.2 w0 (w3 + 4)) fun v355 =>
      Option.bind (ym_ldI q322.2 w0 (w3 + 5)) fun v364 =>
      Option.bind (ym_ob q322.2 w2 8) fun o371 =>
      Option.bind (fn_X8_lot N w2 v330 (((Int32.toInt64 v335) <<< (Int32.toInt64 32 &&& 63)) ||| ((Int32.toInt64 v344) &&& 4294967295)) (((Int32.toInt64 v355) <<< (Int32.toInt64 32 &&& 63)) ||| ((Int32.toInt64 v364) &&& 4294967295)) q322.2) fun q371 =>
      if q322.1 = q371.1 then
        bl_L_law_1685_18 K N w0 w1 w2 w3 q371.2
      else
        some ((.inr 0), q371.2)
    else
    if (v29 &&& 63) = 2 then
      Option.bind (ym_ldI h w0 (w3 + 1)) fun v385 =>
      Option.bind (ym_ldI h w0 (w3 + 2)) fun v390 =>
      Option.bind (ym_ob h w1 7) fun o391 =>
      Option.bind (fn_X7_seller N w1 v385 v390 h) fun q391 =>
      Option.bind (ym_ldI q391.2 w0 (w3 + 1)) fun v399 =>
      Option.bind (ym_ldI q391.2 w0 (w3 + 2)) fun v404 =>
      Option.bind (ym_ob q391.2 w2 8) fun o405 =>
      Option.bind (fn_X8_seller N w2 v399 v404 q391.2) fun q405 =>
      if q391.1 = q405.1 then
        bl_L_law_1685_18 K N w0 w1 w2 w3 q405.2
      else
        some ((.inr 0), q405.2)
    else
    if (v29 &&& 63) = 3 then
      Option.bind (ym_ldI h w0 (w3 + 1)) fun v419 =>
      Option.bind (ym_ldI h w0 (w3 + 2)) fun v424 =>
      Option.bind (ym_ob h w1 7) fun o425 =>
      Option.bind (fn_X7_cut N w1 v419 v424 h) fun q425 =>
      Option.bind (ym_ldI q425.2 w0 (w3 + 1)) fun v433 =>
      Option.bind (ym_ldI q425.2 w0 (w3 + 2)) fun v438 =>
      Option.bind (ym_ob q425.2 w2 8) fun o439 =>
      Option.bind (fn_X8_cut N w2 v433 v438 q425.2) fun q439 =>
      if q425.1 = q439.1 then
        bl_L_law_1685_18 K N w0 w1 w2 w3 q439.2
      else
        some ((.inr 0), q439.2)
    else
    if (v29 &&& 63) = 4 then
      Option.bind (ym_ldI h w0 (w3 + 1)) fun v453 =>
      Option.bind (ym_ldI h w0 (w3 + 2)) fun v462 =>
      Option.bind (ym_ldI h w0 (w3 + 3)) fun v473 =>
      Option.bind (ym_ldI h w0 (w3 + 4)) fun v482 =>
      Option.bind (ym_ob h w1 7) fun o489 =>
      Option.bind (fn_X7_step N w1 (((Int32.toInt64 v453) <<< (Int32.toInt64 32 &&& 63)) ||| ((Int32.toInt64 v462) &&& 4294967295)) (((Int32.toInt64 v473) <<< (Int32.toInt64 32 &&& 63)) ||| ((Int32.toInt64 v482) &&& 4294967295)) h) fun q489 =>
      Option.bind (ym_ldI q489.2 w0 (w3 + 1)) fun v497 =>
      Option.bind (ym_ldI q489.2 w0 (w3 + 2)) fun v506 =>
      Option.bind (ym_ldI q489.2 w0 (w3 + 3)) fun v517 =>
      Option.bind (ym_ldI q489.2 w0 (w3 + 4)) fun v526 =>
      Option.bind (ym_ob q489.2 w2 8) fun o533 =>
      Option.bind (fn_X8_step N w2 (((Int32.toInt64 v497) <<< (Int32.toInt64 32 &&& 63)) ||| ((Int32.toInt64 v506) &&& 4294967295)) (((Int32.toInt64 v517) <<< (Int32.toInt64 32 &&& 63)) ||| ((Int32.toInt64 v526) &&& 4294967295)) q489.2) fun q533 =>
      if q489.1 = q533.1 then
        bl_L_law_1685_18 K N w0 w1 w2 w3 q533.2
      else
        some ((.inr 0), q533.2)
    else
    if (v29 &&& 63) = 5 then
      Option.bind (ym_ldI h w0 (w3 + 1)) fun v547 =>
      Option.bind (ym_ldI h w0 (w3 + 2)) fun v556 =>
      Option.bind (ym_ldI h w0 (w3 + 3)) fun v567 =>
      Option.bind (ym_ob h w1 7) fun o568 =>
      Option.bind (fn_X7_premium N w1 (((Int32.toInt64 v547) <<< (Int32.toInt64 32 &&& 63)) ||| ((Int32.toInt64 v556) &&& 4294967295)) v567 h) fun q568 =>
      Option.bind (ym_ldI q568.2 w0 (w3 + 1)) fun v576 =>
      Option.bind (ym_ldI q568.2 w0 (w3 + 2)) fun v585 =>
      Option.bind (ym_ldI q568.2 w0 (w3 + 3)) fun v596 =>
      Option.bind (ym_ob q568.2 w2 8) fun o597 =>
      Option.bind (fn_X8_premium N w2 (((Int32.toInt64 v576) <<< (Int32.toInt64 32 &&& 63)) ||| ((Int32.toInt64 v585) &&& 4294967295)) v596 q568.2) fun q597 =>
      if q568.1 = q597.1 then
        bl_L_law_1685_18 K N w0 w1 w2 w3 q597.2
      else
        some ((.inr 0), q597.2)
    else
    if (v29 &&& 63) = 6 then
      Option.bind (ym_ldI h w0 (w3 + 1)) fun v611 =>
      Option.bind (ym_ldI h w0 (w3 + 2)) fun v616 =>
      Option.bind (ym_ob h w1 7) fun o617 =>
      Option.bind (fn_X7_tax N w1 v611 v616 h) fun q617 =>
      Option.bind (ym_ldI q617.2 w0 (w3 + 1)) fun v625 =>
      Option.bind (ym_ldI q617.2 w0 (w3 + 2)) fun v630 =>
      Option.bind (ym_ob q617.2 w2 8) fun o631 =>
      Option.bind (fn_X8_tax N w2 v625 v630 q617.2) fun q631 =>
      if q617.1 = q631.1 then
        bl_L_law_1685_18 K N w0 w1 w2 w3 q631.2
      else
        some ((.inr 0), q631.2)
    else
    if (v29 &&& 63) = 7 then
      Option.bind (ym_ldI h w0 (w3 + 1)) fun v645 =>
      Option.bind (ym_ob h w1 7) fun o646 =>
      Option.bind (fn_X7_call N w1 v645 h) fun q646 =>
      Option.bind (ym_ldI q646.2 w0 (w3 + 1)) fun v654 =>
      Option.bind (ym_ob q646.2 w2 8) fun o655 =>
      Option.bind (fn_X8_call N w2 v654 q646.2) fun q655 =>
      if q646.1 = q655.1 then
        bl_L_law_1685_18 K N w0 w1 w2 w3 q655.2
      else
        some ((.inr 0), q655.2)
    else
    if (v29 &&& 63) = 8 then
      Option.bind (ym_ldI h w0 (w3 + 1)) fun v669 =>
      Option.bind (ym_ldI h w0 (w3 + 2)) fun v674 =>
      Option.bind (ym_ldI h w0 (w3 + 3)) fun v679 =>
      Option.bind (ym_ldI h w0 (w3 + 4)) fun v688 =>
      Option.bind (ym_ob h w1 7) fun o695 =>
      Option.bind (fn_X7_bid N w1 v669 v674 (((Int32.toInt64 v679) <<< (Int32.toInt64 32 &&& 63)) ||| ((Int32.toInt64 v688) &&& 4294967295)) h) fun q695 =>
      Option.bind (ym_ldI q695.2 w0 (w3 + 1)) fun v703 =>
      Option.bind (ym_ldI q695.2 w0 (w3 + 2)) fun v708 =>
      Option.bind (ym_ldI q695.2 w0 (w3 + 3)) fun v713 =>
      Option.bind (ym_ldI q695.2 w0 (w3 + 4)) fun v722 =>
      Option.bind (ym_ob q695.2 w2 8) fun o729 =>
      Option.bind (fn_X8_bid N w2 v703 v708 (((Int32.toInt64 v713) <<< (Int32.toInt64 32 &&& 63)) ||| ((Int32.toInt64 v722) &&& 4294967295)) q695.2) fun q729 =>
      if q695.1 = q729.1 then
        bl_L_law_1685_18 K N w0 w1 w2 w3 q729.2
      else
        some ((.inr 0), q729.2)
    else
    if (v29 &&& 63) = 9 then
      Option.bind (ym_ldI h w0 (w3 + 1)) fun v743 =>
      Option.bind (ym_ldI h w0 (w3 + 2)) fun v748 =>
      Option.bind (ym_ldI h w0 (w3 + 3)) fun v753 =>
      Option.bind (ym_ldI h w0 (w3 + 4)) fun v762 =>
      Option.bind (ym_ob h w1 7) fun o769 =>
      Option.bind (fn_X7_limit N w1 v743 v748 (((Int32.toInt64 v753) <<< (Int32.toInt64 32 &&& 63)) ||| ((Int32.toInt64 v762) &&& 4294967295)) h) fun q769 =>
      Option.bind (ym_ldI q769.2 w0 (w3 + 1)) fun v777 =>
      Option.bind (ym_ldI q769.2 w0 (w3 + 2)) fun v782 =>
      Option.bind (ym_ldI q769.2 w0 (w3 + 3)) fun v787 =>
      Option.bind (ym_ldI q769.2 w0 (w3 + 4)) fun v796 =>
      Option.bind (ym_ob q769.2 w2 8) fun o803 =>
      Option.bind (fn_X8_limit N w2 v777 v782 (((Int32.toInt64 v787) <<< (Int32.toInt64 32 &&& 63)) ||| ((Int32.toInt64 v796) &&& 4294967295)) q769.2) fun q803 =>
      if q769.1 = q803.1 then
        bl_L_law_1685_18 K N w0 w1 w2 w3 q803.2
      else
        some ((.inr 0), q803.2)
    else
    if (v29 &&& 63) = 10 then
      Option.bind (ym_ldI h w0 (w3 + 1)) fun v817 =>
      Option.bind (ym_ob h w1 7) fun o818 =>
      Option.bind (fn_X7_ask N w1 v817 h) fun q818 =>
      Option.bind (ym_ldI q818.2 w0 (w3 + 1)) fun v826 =>
      Option.bind (ym_ob q818.2 w2 8) fun o827 =>
      Option.bind (fn_X8_ask N w2 v826 q818.2) fun q827 =>
      if q818.1 = q827.1 then
        bl_L_law_1685_18 K N w0 w1 w2 w3 q827.2
      else
        some ((.inr 0), q827.2)
    else
    if (v29 &&& 63) = 11 then
      Option.bind (ym_ldI h w0 (w3 + 1)) fun v841 =>
      Option.bind (ym_ob h w1 7) fun o842 =>
      Option.bind (fn_X7_open N w1 v841 h) fun q842 =>
      Option.bind (ym_ldI q842.2 w0 (w3 + 1)) fun v850 =>
      Option.bind (ym_ob q842.2 w2 8) fun o851 =>
      Option.bind (fn_X8_open N w2 v850 q842.2) fun q851 =>
      if q842.1 = q851.1 then
        bl_L_law_1685_18 K N w0 w1 w2 w3 q851.2
      else
        some ((.inr 0), q851.2)
    else
    if (v29 &&& 63) = 12 then
      Option.bind (ym_ldI h w0 (w3 + 1)) fun v865 =>
      Option.bind (ym_ldI h w0 (w3 + 2)) fun v870 =>
      Option.bind (ym_ldI h w0 (w3 + 3)) fun v879 =>
      Option.bind (ym_ob h w1 7) fun o886 =>
      Option.bind (fn_X7_tick N w1 v865 (((Int32.toInt64 v870) <<< (Int32.toInt64 32 &&& 63)) ||| ((Int32.toInt64 v879) &&& 4294967295)) h) fun q886 =>
      Option.bind (ym_ldI q886.2 w0 (w3 + 1)) fun v894 =>
      Option.bind (ym_ldI q886.2 w0 (w3 + 2)) fun v899 =>
      Option.bind (ym_ldI q886.2 w0 (w3 + 3)) fun v908 =>
      Option.bind (ym_ob q886.2 w2 8) fun o915 =>
      Option.bind (fn_X8_tick N w2 v894 (((Int32.toInt64 v899) <<< (Int32.toInt64 32 &&& 63)) ||| ((Int32.toInt64 v908) &&& 4294967295)) q886.2) fun q915 =>
      if q886.1 = q915.1 then
        bl_L_law_1685_18 K N w0 w1 w2 w3 q915.2
      else
        some ((.inr 0), q915.2)
    else
    if (v29 &&& 63) = 13 then
      Option.bind (ym_ldI h w0 (w3 + 1)) fun v929 =>
      Option.bind (ym_ldI h w0 (w3 + 2)) fun v934 =>
      Option.bind (ym_ob h w1 7) fun o935 =>
      Option.bind (fn_X7_take N w1 v929 v934 h) fun q935 =>
      Option.bind (ym_ldI q935.2 w0 (w3 + 1)) fun v943 =>
      Option.bind (ym_ldI q935.2 w0 (w3 + 2)) fun v948 =>
      Option.bind (ym_ob q935.2 w2 8) fun o949 =>
      Option.bind (fn_X8_take N w2 v943 v948 q935.2) fun q949 =>
      if q935.1 = q949.1 then
        bl_L_law_1685_18 K N w0 w1 w2 w3 q949.2
      else
        some ((.inr 0), q949.2)
    else
    if (v29 &&& 63) = 14 then
      Option.bind (ym_ldI h w0 (w3 + 1)) fun v963 =>
      Option.bind (ym_ldI h w0 (w3 + 2)) fun v968 =>
      Option.bind (ym_ob h w1 7) fun o969 =>
      Option.bind (fn_X7_bidderAt N w1 v963 v968 h) fun q969 =>
      Option.bind (ym_ldI q969.2 w0 (w3 + 1)) fun v977 =>
      Option.bind (ym_ldI q969.2 w0 (w3 + 2)) fun v982 =>
      Option.bind (ym_ob q969.2 w2 8) fun o983 =>
      Option.bind (fn_X8_bidderAt N w2 v977 v982 q969.2) fun q983 =>
      if q969.1 = q983.1 then
        bl_L_law_1685_18 K N w0 w1 w2 w3 q983.2
      else
        some ((.inr 0), q983.2)
    else
    if (v29 &&& 63) = 15 then
      Option.bind (ym_ldI h w0 (w3 + 1)) fun v997 =>
      Option.bind (ym_ldI h w0 (w3 + 2)) fun v1002 =>
      Option.bind (ym_ob h w1 7) fun o1003 =>
      Option.bind (fn_X7_sumAt N w1 v997 v1002 h) fun q1003 =>
      Option.bind (ym_ldI q1003.2 w0 (w3 + 1)) fun v1011 =>
      Option.bind (ym_ldI q1003.2 w0 (w3 + 2)) fun v1016 =>
      Option.bind (ym_ob q1003.2 w2 8) fun o1017 =>
      Option.bind (fn_X8_sumAt N w2 v1011 v1016 q1003.2) fun q1017 =>
      if q1003.1 = q1017.1 then
        bl_L_law_1685_18 K N w0 w1 w2 w3 q1017.2
      else
        some ((.inr 0), q1017.2)
    else
    if (v29 &&& 63) = 16 then
      Option.bind (ym_ldI h w0 (w3 + 1)) fun v1031 =>
      Option.bind (ym_ob h w1 7) fun o1032 =>
      Option.bind (fn_X7_hammer N w1 v1031 h) fun q1032 =>
      Option.bind (ym_ldI q1032.2 w0 (w3 + 1)) fun v1040 =>
      Option.bind (ym_ob q1032.2 w2 8) fun o1041 =>
      Option.bind (fn_X8_hammer N w2 v1040 q1032.2) fun q1041 =>
      if q1032.1 = q1041.1 then
        bl_L_law_1685_18 K N w0 w1 w2 w3 q1041.2
      else
        some ((.inr 0), q1041.2)
    else
    if (v29 &&& 63) = 17 then
      Option.bind (ym_ldI h w0 (w3 + 1)) fun v1055 =>
      Option.bind (ym_ldI h w0 (w3 + 2)) fun v1060 =>
      Option.bind (ym_ldI h w0 (w3 + 3)) fun v1065 =>
      Option.bind (ym_ob h w1 7) fun o1066 =>
      Option.bind (fn_X7_join N w1 v1055 v1060 v1065 h) fun q1066 =>
      Option.bind (ym_ldI q1066.2 w0 (w3 + 1)) fun v1074 =>
      Option.bind (ym_ldI q1066.2 w0 (w3 + 2)) fun v1079 =>
      Option.bind (ym_ldI q1066.2 w0 (w3 + 3)) fun v1084 =>
      Option.bind (ym_ob q1066.2 w2 8) fun o1085 =>
      Option.bind (fn_X8_join N w2 v1074 v1079 v1084 q1066.2) fun q1085 =>
      if q1066.1 = q1085.1 then
        bl_L_law_1685_18 K N w0 w1 w2 w3 q1085.2
      else
        some ((.inr 0), q1085.2)
    else
    if (v29 &&& 63) = 18 then
      Option.bind (ym_ldI h w0 (w3 + 1)) fun v1099 =>
      Option.bind (ym_ob h w1 7) fun o1100 =>
      Option.bind (fn_X7_settle N w1 v1099 h) fun q1100 =>
      Option.bind (ym_ldI q1100.2 w0 (w3 + 1)) fun v1108 =>
      Option.bind (ym_ob q1100.2 w2 8) fun o1109 =>
      Option.bind (fn_X8_settle N w2 v1108 q1100.2) fun q1109 =>
      if q1100.1 = q1109.1 then
        bl_L_law_1685_18 K N w0 w1 w2 w3 q1109.2
      else
        some ((.inr 0), q1109.2)
    else
    if (v29 &&& 63) = 19 then
      Option.bind (ym_ldI h w0 (w3 + 1)) fun v1123 =>
      Option.bind (ym_ldI h w0 (w3 + 2)) fun v1128 =>
      Option.bind (ym_ldI h w0 (w3 + 3)) fun v1137 =>
      Option.bind (ym_ob h w1 7) fun o1144 =>
      Option.bind (fn_X7_reoffer N w1 v1123 (((Int32.toInt64 v1128) <<< (Int32.toInt64 32 &&& 63)) ||| ((Int32.toInt64 v1137) &&& 4294967295)) h) fun q1144 =>
      Option.bind (ym_ldI q1144.2 w0 (w3 + 1)) fun v1152 =>
      Option.bind (ym_ldI q1144.2 w0 (w3 + 2)) fun v1157 =>
      Option.bind (ym_ldI q1144.2 w0 (w3 + 3)) fun v1166 =>
      Option.bind (ym_ob q1144.2 w2 8) fun o1173 =>
      Option.bind (fn_X8_reoffer N w2 v1152 (((Int32.toInt64 v1157) <<< (Int32.toInt64 32 &&& 63)) ||| ((Int32.toInt64 v1166) &&& 4294967295)) q1144.2) fun q1173 =>
      if q1144.1 = q1173.1 then
        bl_L_law_1685_18 K N w0 w1 w2 w3 q1173.2
      else
        some ((.inr 0), q1173.2)
    else
    if (v29 &&& 63) = 20 then
      Option.bind (ym_ldI h w0 (w3 + 1)) fun v1187 =>
      Option.bind (ym_ldI h w0 (w3 + 2)) fun v1192 =>
      Option.bind (ym_ldI h w0 (w3 + 3)) fun v1201 =>
      Option.bind (ym_ob h w1 7) fun o1208 =>
      Option.bind (fn_X7_pay N w1 v1187 (((Int32.toInt64 v1192) <<< (Int32.toInt64 32 &&& 63)) ||| ((Int32.toInt64 v1201) &&& 4294967295)) h) fun q1208 =>
      Option.bind (ym_ldI q1208.2 w0 (w3 + 1)) fun v1216 =>
      Option.bind (ym_ldI q1208.2 w0 (w3 + 2)) fun v1221 =>
      Option.bind (ym_ldI q1208.2 w0 (w3 + 3)) fun v1230 =>
      Option.bind (ym_ob q1208.2 w2 8) fun o1237 =>
      Option.bind (fn_X8_pay N w2 v1216 (((Int32.toInt64 v1221) <<< (Int32.toInt64 32 &&& 63)) ||| ((Int32.toInt64 v1230) &&& 4294967295)) q1208.2) fun q1237 =>
      if q1208.1 = q1237.1 then
        bl_L_law_1685_18 K N w0 w1 w2 w3 q1237.2
      else
        some ((.inr 0), q1237.2)
    else
    if (v29 &&& 63) = 21 then
      Option.bind (ym_ldI h w0 (w3 + 1)) fun v1251 =>
      Option.bind (ym_ldI h w0 (w3 + 2)) fun v1256 =>
      Option.bind (ym_ldI h w0 (w3 + 3)) fun v1265 =>
      Option.bind (ym_ob h w1 7) fun o1272 =>
      Option.bind (fn_X7_payOut N w1 v1251 (((Int32.toInt64 v1256) <<< (Int32.toInt64 32 &&& 63)) ||| ((Int32.toInt64 v1265) &&& 4294967295)) h) fun q1272 =>
      Option.bind (ym_ldI q1272.2 w0 (w3 + 1)) fun v1280 =>
      Option.bind (ym_ldI q1272.2 w0 (w3 + 2)) fun v1285 =>
      Option.bind (ym_ldI q1272.2 w0 (w3 + 3)) fun v1294 =>
      Option.bind (ym_ob q1272.2 w2 8) fun o1301 =>
      Option.bind (fn_X8_payOut N w2 v1280 (((Int32.toInt64 v1285) <<< (Int32.toInt64 32 &&& 63)) ||| ((Int32.toInt64 v1294) &&& 4294967295)) q1272.2) fun q1301 =>
      if q1272.1 = q1301.1 then
        bl_L_law_1685_18 K N w0 w1 w2 w3 q1301.2
      else
        some ((.inr 0), q1301.2)
    else
    if (v29 &&& 63) = 22 then
      Option.bind (ym_ob h w1 7) fun o1311 =>
      Option.bind (fn_X7_batch N w1 h) fun q1311 =>
      Option.bind (ym_ob q1311.2 w2 8) fun o1315 =>
      Option.bind (fn_X8_batch N w2 q1311.2) fun q1315 =>
      if q1311.1 = q1315.1 then
        bl_L_law_1685_18 K N w0 w1 w2 w3 q1315.2
      else
        some ((.inr 0), q1315.2)
    else
    if (v29 &&& 63) = 23 then
      Option.bind (ym_ob h w1 7) fun o1325 =>
      Option.bind (fn_X7_end N w1 h) fun q1325 =>
      Option.bind (ym_ob q1325.2 w2 8) fun o1329 =>
      Option.bind (fn_X8_end N w2 q1325.2) fun q1329 =>
      if q1325.1 = q1329.1 then
        bl_L_law_1685_18 K N w0 w1 w2 w3 q1329.2
      else
        some ((.inr 0), q1329.2)
    else
    if (v29 &&& 63) = 24 then
      Option.bind (ym_ob h w1 7) fun o1339 =>
      Option.bind (fn_X7_undo N w1 h) fun q1339 =>
      Option.bind (ym_ob q1339.2 w2 8) fun o1343 =>
      Option.bind (fn_X8_undo N w2 q1339.2) fun q1343 =>
      if q1339.1 = q1343.1 then
        bl_L_law_1685_18 K N w0 w1 w2 w3 q1343.2
      else
        some ((.inr 0), q1343.2)
    else
    if (v29 &&& 63) = 25 then
      Option.bind (ym_ldI h w0 (w3 + 1)) fun v1357 =>
      Option.bind (ym_ob h w1 7) fun o1358 =>
      Option.bind (fn_X7_kindOf N w1 v1357 h) fun q1358 =>
      Option.bind (ym_ldI q1358.2 w0 (w3 + 1)) fun v1366 =>
      Option.bind (ym_ob q1358.2 w2 8) fun o1367 =>
      Option.bind (fn_X8_kindOf N w2 v1366 q1358.2) fun q1367 =>
      if q1358.1 = q1367.1 then
        bl_L_law_1685_18 K N w0 w1 w2 w3 q1367.2
      else
        some ((.inr 0), q1367.2)
    else
    if (v29 &&& 63) = 26 then
      Option.bind (ym_ldI h w0 (w3 + 1)) fun v1380 =>
      Option.bind (ym_ob h w1 7) fun o1381 =>
      Option.bind (fn_X7_bidderKind N w1 v1380 h) fun q1381 =>
      Option.bind (ym_ldI q1381.2 w0 (w3 + 1)) fun v1389 =>
      Option.bind (ym_ob q1381.2 w2 8) fun o1390 =>
      Option.bind (fn_X8_bidderKind N w2 v1389 q1381.2) fun q1390 =>
      if q1381.1 = q1390.1 then
        bl_L_law_1685_18 K N w0 w1 w2 w3 q1390.2
      else
        some ((.inr 0), q1390.2)
    else
    if (v29 &&& 63) = 27 then
      Option.bind (ym_ldI h w0 (w3 + 1)) fun v1403 =>
      Option.bind (ym_ob h w1 7) fun o1404 =>
      Option.bind (fn_X7_state N w1 v1403 h) fun q1404 =>
      Option.bind (ym_ldI q1404.2 w0 (w3 + 1)) fun v1412 =>
      Option.bind (ym_ob q1404.2 w2 8) fun o1413 =>
      Option.bind (fn_X8_state N w2 v1412 q1404.2) fun q1413 =>
      if q1404.1 = q1413.1 then
        bl_L_law_1685_18 K N w0 w1 w2 w3 q1413.2
      else
        some ((.inr 0), q1413.2)
    else
    if (v29 &&& 63) = 28 then
      Option.bind (ym_ldI h w0 (w3 + 1)) fun v1426 =>
      Option.bind (ym_ob h w1 7) fun o1427 =>
      Option.bind (fn_X7_stands N w1 v1426 h) fun q1427 =>
      Option.bind (ym_ldI q1427.2 w0 (w3 + 1)) fun v1435 =>
      Option.bind (ym_ob q1427.2 w2 8) fun o1436 =>
      Option.bind (fn_X8_stands N w2 v1435 q1427.2) fun q1436 =>
      if q1427.1 = q1436.1 then
        bl_L_law_1685_18 K N w0 w1 w2 w3 q1436.2
      else
        some ((.inr 0), q1436.2)
    else
    if (v29 &&& 63) = 29 then
      Option.bind (ym_ldI h w0 (w3 + 1)) fun v1449 =>
      Option.bind (ym_ob h w1 7) fun o1450 =>
      Option.bind (fn_X7_sum N w1 v1449 h) fun q1450 =>
      Option.bind (ym_ldI q1450.2 w0 (w3 + 1)) fun v1458 =>
      Option.bind (ym_ob q1450.2 w2 8) fun o1459 =>
      Option.bind (fn_X8_sum N w2 v1458 q1450.2) fun q1459 =>
      if q1450.1 = q1459.1 then
        bl_L_law_1685_18 K N w0 w1 w2 w3 q1459.2
      else
        some ((.inr 0), q1459.2)
    else
    if (v29 &&& 63) = 30 then
      Option.bind (ym_ldI h w0 (w3 + 1)) fun v1473 =>
      Option.bind (ym_ob h w1 7) fun o1474 =>
      Option.bind (fn_X7_entries N w1 v1473 h) fun q1474 =>
      Option.bind (ym_ldI q1474.2 w0 (w3 + 1)) fun v1482 =>
      Option.bind (ym_ob q1474.2 w2 8) fun o1483 =>
      Option.bind (fn_X8_entries N w2 v1482 q1474.2) fun q1483 =>
      if q1474.1 = q1483.1 then
        bl_L_law_1685_18 K N w0 w1 w2 w3 q1483.2
      else
        some ((.inr 0), q1483.2)
    else
    if (v29 &&& 63) = 31 then
      Option.bind (ym_ldI h w0 (w3 + 1)) fun v1496 =>
      Option.bind (ym_ldI h w0 (w3 + 2)) fun v1501 =>
      Option.bind (ym_ob h w1 7) fun o1502 =>
      Option.bind (fn_X7_cause N w1 v1496 v1501 h) fun q1502 =>
      Option.bind (ym_ldI q1502.2 w0 (w3 + 1)) fun v1510 =>
      Option.bind (ym_ldI q1502.2 w0 (w3 + 2)) fun v1515 =>
      Option.bind (ym_ob q1502.2 w2 8) fun o1516 =>
      Option.bind (fn_X8_cause N w2 v1510 v1515 q1502.2) fun q1516 =>
      if q1502.1 = q1516.1 then
        bl_L_law_1685_18 K N w0 w1 w2 w3 q1516.2
      else
        some ((.inr 0), q1516.2)
    else
    if (v29 &&& 63) = 32 then
      Option.bind (ym_ldI h w0 (w3 + 1)) fun v1529 =>
      Option.bind (ym_ob h w1 7) fun o1530 =>
      Option.bind (fn_X7_balance N w1 v1529 h) fun q1530 =>
      Option.bind (ym_ldI q1530.2 w0 (w3 + 1)) fun v1538 =>
      Option.bind (ym_ob q1530.2 w2 8) fun o1539 =>
      Option.bind (fn_X8_balance N w2 v1538 q1530.2) fun q1539 =>
      if q1530.1 = q1539.1 then
        bl_L_law_1685_18 K N w0 w1 w2 w3 q1539.2
      else
        some ((.inr 0), q1539.2)
    else
    if (v29 &&& 63) = 33 then
      Option.bind (ym_ldI h w0 (w3 + 1)) fun v1553 =>
      Option.bind (ym_ob h w1 7) fun o1554 =>
      Option.bind (fn_X7_account N w1 v1553 h) fun q1554 =>
      Option.bind (ym_ldI q1554.2 w0 (w3 + 1)) fun v1562 =>
      Option.bind (ym_ob q1554.2 w2 8) fun o1563 =>
      Option.bind (fn_X8_account N w2 v1562 q1554.2) fun q1563 =>
      if q1554.1 = q1563.1 then
        bl_L_law_1685_18 K N w0 w1 w2 w3 q1563.2
      else
        some ((.inr 0), q1563.2)
    else
    if (v29 &&& 63) = 34 then
      Option.bind (ym_ob h w1 7) fun o1573 =>
      Option.bind (fn_X7_total N w1 h) fun q1573 =>
      Option.bind (ym_ob q1573.2 w2 8) fun o1577 =>
      Option.bind (fn_X8_total N w2 q1573.2) fun q1577 =>
      if q1573.1 = q1577.1 then
        bl_L_law_1685_18 K N w0 w1 w2 w3 q1577.2
      else
        some ((.inr 0), q1577.2)
    else
    if (v29 &&& 63) = 35 then
      Option.bind (ym_ldI h w0 (w3 + 1)) fun v1591 =>
      Option.bind (ym_ob h w1 7) fun o1592 =>
      Option.bind (fn_X7_numbers N w1 v1591 h) fun q1592 =>
      Option.bind (ym_ldI q1592.2 w0 (w3 + 1)) fun v1600 =>
      Option.bind (ym_ob q1592.2 w2 8) fun o1601 =>
      Option.bind (fn_X8_numbers N w2 v1600 q1592.2) fun q1601 =>
      if q1592.1 = q1601.1 then
        bl_L_law_1685_18 K N w0 w1 w2 w3 q1601.2
      else
        some ((.inr 0), q1601.2)
    else
    if (v29 &&& 63) = 36 then
      Option.bind (ym_ob h w1 7) fun o1610 =>
      Option.bind (fn_X7_tries N w1 h) fun q1610 =>
      Option.bind (ym_ob q1610.2 w2 8) fun o1614 =>
      Option.bind (fn_X8_tries N w2 q1610.2) fun q1614 =>
      if q1610.1 = q1614.1 then
        bl_L_law_1685_18 K N w0 w1 w2 w3 q1614.2
      else
        some ((.inr 0), q1614.2)
    else
    if (v29 &&& 63) = 37 then
      Option.bind (ym_ob h w1 7) fun o1623 =>
      Option.bind (fn_X7_why N w1 h) fun q1623 =>
      Option.bind (ym_ob q1623.2 w2 8) fun o1627 =>
      Option.bind (fn_X8_why N w2 q1623.2) fun q1627 =>
      if q1623.1 = q1627.1 then
        bl_L_law_1685_18 K N w0 w1 w2 w3 q1627.2
      else
        some ((.inr 0), q1627.2)
    else
    if (v29 &&& 63) = 38 then
      Option.bind (ym_ldI h w0 (w3 + 1)) fun v1640 =>
      Option.bind (ym_ob h w1 7) fun o1641 =>
      Option.bind (fn_X7_trace N w1 v1640 h) fun q1641 =>
      Option.bind (ym_ldI q1641.2 w0 (w3 + 1)) fun v1649 =>
      Option.bind (ym_ob q1641.2 w2 8) fun o1650 =>
      Option.bind (fn_X8_trace N w2 v1649 q1641.2) fun q1650 =>
      if q1641.1 = q1650.1 then
        bl_L_law_1685_18 K N w0 w1 w2 w3 q1650.2
      else
        some ((.inr 0), q1650.2)
    else
    if (v29 &&& 63) = 39 then
      Option.bind (ym_ob h w1 7) fun o1659 =>
      Option.bind (fn_X7_batches N w1 h) fun q1659 =>
      Option.bind (ym_ob q1659.2 w2 8) fun o1663 =>
      Option.bind (fn_X8_batches N w2 q1659.2) fun q1663 =>
      if q1659.1 = q1663.1 then
        bl_L_law_1685_18 K N w0 w1 w2 w3 q1663.2
      else
        some ((.inr 0), q1663.2)
    else
    if (v29 &&& 63) = 40 then
      Option.bind (ym_ob h w1 7) fun o1672 =>
      Option.bind (fn_X7_digest N w1 h) fun q1672 =>
      Option.bind (ym_ob q1672.2 w2 8) fun o1676 =>
      Option.bind (fn_X8_digest N w2 q1672.2) fun q1676 =>
      if q1672.1 = q1676.1 then
        bl_L_law_1685_18 K N w0 w1 w2 w3 q1676.2
      else
        some ((.inr 0), q1676.2)
    else
    bl_L_law_1685_18 K N w0 w1 w2 w3 h
set_option maxRecDepth 20000 in
set_option maxHeartbeats 4000000 in
theorem ol_L_law_18 {D : ym_D} {b0 : Nat} {K : Option Nat → Option Nat → Option Nat → Int32 → ym_H → Option (((Unit) ⊕ Int32) × ym_H)} {N : Nat} {w0 : Option Nat} {w1 : Option Nat} {w2 : Option Nat} {w3 : Int32} {h h1 : ym_H} {x : ((Unit) ⊕ Int32)} (hKl : ∀ (u0 : Option Nat) (u1 : Option Nat) (u2 : Option Nat) (u3 : Int32) (h h1 : ym_H) (x : ((Unit) ⊕ Int32)), K u0 u1 u2 u3 h = some (x, h1) → ∀ {r0 : Option Value} {h' : ym_H}, Sum.elim (fun z => ym_Y D b0 g_L_law 40 1691 [] [] h1 r0 h') (fun z => r0 = (some (.int z)) ∧ h' = h1) x → ym_Y D b0 g_L_law 40 18 [(0, va_rf u0), (1, va_rf u1), (2, va_rf u2), (3, .int u3)] [] h r0 h') (hf : lb_L_law_18 K N w0 w1 w2 w3 h = some (x, h1)) {r0 : Option Value} {h' : ym_H} (k : Sum.elim (fun z => ym_Y D b0 g_L_law 40 1691 [] [] h1 r0 h') (fun z => r0 = (some (.int z)) ∧ h' = h1) x) : ym_Y D b0 g_L_law 40 18 [(0, va_rf w0), (1, va_rf w1), (2, va_rf w2), (3, .int w3)] [] h r0 h' := by
  unfold lb_L_law_18 at hf
  refine ym_iload_n (pc := 18) 3 dL_law_18 rfl rfl ?_
  refine ym_aload_n (pc := 19) 0 dL_law_19 rfl rfl ?_
  obtain ⟨v20, e20, hf⟩ := Option.bind_eq_some_iff.mp hf
  refine ym_alen (pc := 20) dL_law_20 e20 ?_
  refine ym_bipush (pc := 21) (v := 6) dL_law_21 (by decide) ?_
  refine ym_isub (pc := 23) dL_law_23 ?_
  by_cases c24 : (v20 - 6) < w3
  · rw [if_pos c24] at hf
    refine ym_icmp_gt_y (pc := 24) (tgt := 1691) dL_law_24 (by decide) c24 ?_
    cases hf
    exact ym_sub [] rfl k
  · rw [if_neg c24] at hf
    refine ym_icmp_gt_n (pc := 24) (tgt := 1691) dL_law_24 (by decide) c24 ?_
    refine ym_aload_n (pc := 27) 0 dL_law_27 rfl rfl ?_
    refine ym_iload_n (pc := 28) 3 dL_law_28 rfl rfl ?_
    obtain ⟨v29, e29, hf⟩ := Option.bind_eq_some_iff.mp hf
    refine ym_iald (pc := 29) dL_law_29 rfl (ym_ldI_v e29) ?_
    refine ym_bipush (pc := 30) (v := 63) dL_law_30 (by decide) ?_
    refine ym_iand (pc := 32) dL_law_32 ?_
    by_cases c33_0 : (v29 &&& 63) = 0
    · rw [if_pos c33_0] at hf
      refine ym_swIn (pc := 33) (off := 179) (tgt := 212) dL_law_33 (by rw [c33_0]; decide) (by rw [c33_0]; decide) (by rw [c33_0]; decide) (by decide) ?_
      refine ym_aload_n (pc := 212) 1 dL_law_212 rfl rfl ?_
      refine ym_aload_n (pc := 213) 0 dL_law_213 rfl rfl ?_
      refine ym_iload_n (pc := 214) 3 dL_law_214 rfl rfl ?_
      refine ym_iconst (pc := 215) (v := 1) dL_law_215 (by decide) ?_
      refine ym_iadd (pc := 216) dL_law_216 ?_
      obtain ⟨v217, e217, hf⟩ := Option.bind_eq_some_iff.mp hf
      refine ym_iald (pc := 217) dL_law_217 rfl (ym_ldI_v e217) ?_
      refine ym_aload_n (pc := 218) 0 dL_law_218 rfl rfl ?_
      refine ym_iload_n (pc := 219) 3 dL_law_219 rfl rfl ?_
      refine ym_iconst (pc := 220) (v := 2) dL_law_220 (by decide) ?_
      refine ym_iadd (pc := 221) dL_law_221 ?_
      obtain ⟨v222, e222, hf⟩ := Option.bind_eq_some_iff.mp hf
      refine ym_iald (pc := 222) dL_law_222 rfl (ym_ldI_v e222) ?_
      refine ym_i2l (pc := 223) dL_law_223 ?_
      refine ym_bipush (pc := 224) (v := 32) dL_law_224 (by decide) ?_
      refine ym_lshl (pc := 226) dL_law_226 ?_
      refine ym_aload_n (pc := 227) 0 dL_law_227 rfl rfl ?_
      refine ym_iload_n (pc := 228) 3 dL_law_228 rfl rfl ?_
      refine ym_iconst (pc := 229) (v := 3) dL_law_229 (by decide) ?_
      refine ym_iadd (pc := 230) dL_law_230 ?_
      obtain ⟨v231, e231, hf⟩ := Option.bind_eq_some_iff.mp hf
      refine ym_iald (pc := 231) dL_law_231 rfl (ym_ldI_v e231) ?_
      refine ym_i2l (pc := 232) dL_law_232 ?_
      refine ym_ldc2 (pc := 233) dL_law_233 wd_1439 ?_
      refine ym_land (pc := 236) dL_law_236 ?_
      refine ym_lor (pc := 237) dL_law_237 ?_
      obtain ⟨o238, f238, hf⟩ := Option.bind_eq_some_iff.mp hf
      obtain ⟨q238, e238, hf⟩ := Option.bind_eq_some_iff.mp hf
      refine ym_callV (pc := 238) (G2 := g_X7_bidder) (dep2 := 5) (As := [.int v217, .long (((Int32.toInt64 v222) <<< (Int32.toInt64 32 &&& 63)) ||| ((Int32.toInt64 v231) &&& 4294967295))]) (st := []) (stk2 := [.long q238.1]) (r2 := (some (.long q238.1))) (h1 := q238.2) dL_law_238 (ok_X7_bidder e238) (sc_L_law_X7_bidder) wd_217 wd_218 wd_219 (ci := 7) (q0 := (RX7, TX7, 10)) rfl (by decide) rfl f238 rfl rfl (ym_st4 (Nat.le_of_ble_eq_true rfl)) rfl ?_
      refine ym_aload_n (pc := 241) 2 dL_law_241 rfl rfl ?_
      refine ym_aload_n (pc := 242) 0 dL_law_242 rfl rfl ?_
      refine ym_iload_n (pc := 243) 3 dL_law_243 rfl rfl ?_
      refine ym_iconst (pc := 244) (v := 1) dL_law_244 (by decide) ?_
      refine ym_iadd (pc := 245) dL_law_245 ?_
      obtain ⟨v246, e246, hf⟩ := Option.bind_eq_some_iff.mp hf
      refine ym_iald (pc := 246) dL_law_246 rfl (ym_ldI_v e246) ?_
      refine ym_aload_n (pc := 247) 0 dL_law_247 rfl rfl ?_
      refine ym_iload_n (pc := 248) 3 dL_law_248 rfl rfl ?_
      refine ym_iconst (pc := 249) (v := 2) dL_law_249 (by decide) ?_
      refine ym_iadd (pc := 250) dL_law_250 ?_
      obtain ⟨v251, e251, hf⟩ := Option.bind_eq_some_iff.mp hf
      refine ym_iald (pc := 251) dL_law_251 rfl (ym_ldI_v e251) ?_
      refine ym_i2l (pc := 252) dL_law_252 ?_
      refine ym_bipush (pc := 253) (v := 32) dL_law_253 (by decide) ?_
      refine ym_lshl (pc := 255) dL_law_255 ?_
      refine ym_aload_n (pc := 256) 0 dL_law_256 rfl rfl ?_
      refine ym_iload_n (pc := 257) 3 dL_law_257 rfl rfl ?_
      refine ym_iconst (pc := 258) (v := 3) dL_law_258 (by decide) ?_
      refine ym_iadd (pc := 259) dL_law_259 ?_
      obtain ⟨v260, e260, hf⟩ := Option.bind_eq_some_iff.mp hf
      refine ym_iald (pc := 260) dL_law_260 rfl (ym_ldI_v e260) ?_
      refine ym_i2l (pc := 261) dL_law_261 ?_
      refine ym_ldc2 (pc := 262) dL_law_262 wd_1439 ?_
      refine ym_land (pc := 265) dL_law_265 ?_
      refine ym_lor (pc := 266) dL_law_266 ?_
      obtain ⟨o267, f267, hf⟩ := Option.bind_eq_some_iff.mp hf
      obtain ⟨q267, e267, hf⟩ := Option.bind_eq_some_iff.mp hf
      refine ym_callV (pc := 267) (G2 := g_X8_bidder) (dep2 := 19) (As := [.int v246, .long (((Int32.toInt64 v251) <<< (Int32.toInt64 32 &&& 63)) ||| ((Int32.toInt64 v260) &&& 4294967295))]) (st := [.long q238.1]) (stk2 := [.long q267.1, .long q238.1]) (r2 := (some (.long q267.1))) (h1 := q267.2) dL_law_267 (ok_X8_bidder e267) (sc_L_law_X8_bidder) wd_1021 wd_1022 wd_1023 (ci := 8) (q0 := (RX8, TX8, 58)) rfl (by decide) rfl f267 rfl rfl (ym_st4 (Nat.le_of_ble_eq_true rfl)) rfl ?_
      by_cases c270 : q238.1 = q267.1
      · rw [if_pos c270] at hf
        refine ym_lcmp_eq_y (pc := 270) (tgt := 1685) dL_law_270 dL_law_271 (by decide) c270 ?_
        exact ym_sub [0, 1, 2, 3] rfl (ob_L_law_1685_18 hKl hf k)
      · rw [if_neg c270] at hf
        refine ym_lcmp_eq_n (pc := 270) (tgt := 1685) dL_law_270 dL_law_271 (by decide) c270 ?_
        refine ym_iconst (pc := 274) (v := 0) dL_law_274 (by decide) ?_
        cases hf
        obtain ⟨rfl, rfl⟩ := k
        exact ym_zret (pc := 275) dL_law_275 rfl rfl
    rw [if_neg c33_0] at hf
    by_cases c33_1 : (v29 &&& 63) = 1
    · rw [if_pos c33_1] at hf
      refine ym_swIn (pc := 33) (off := 243) (tgt := 276) dL_law_33 (by rw [c33_1]; decide) (by rw [c33_1]; decide) (by rw [c33_1]; decide) (by decide) ?_
      refine ym_aload_n (pc := 276) 1 dL_law_276 rfl rfl ?_
      refine ym_aload_n (pc := 277) 0 dL_law_277 rfl rfl ?_
      refine ym_iload_n (pc := 278) 3 dL_law_278 rfl rfl ?_
      refine ym_iconst (pc := 279) (v := 1) dL_law_279 (by decide) ?_
      refine ym_iadd (pc := 280) dL_law_280 ?_
      obtain ⟨v281, e281, hf⟩ := Option.bind_eq_some_iff.mp hf
      refine ym_iald (pc := 281) dL_law_281 rfl (ym_ldI_v e281) ?_
      refine ym_aload_n (pc := 282) 0 dL_law_282 rfl rfl ?_
      refine ym_iload_n (pc := 283) 3 dL_law_283 rfl rfl ?_
      refine ym_iconst (pc := 284) (v := 2) dL_law_284 (by decide) ?_
      refine ym_iadd (pc := 285) dL_law_285 ?_
      obtain ⟨v286, e286, hf⟩ := Option.bind_eq_some_iff.mp hf
      refine ym_iald (pc := 286) dL_law_286 rfl (ym_ldI_v e286) ?_
      refine ym_i2l (pc := 287) dL_law_287 ?_
      refine ym_bipush (pc := 288) (v := 32) dL_law_288 (by decide) ?_
      refine ym_lshl (pc := 290) dL_law_290 ?_
      refine ym_aload_n (pc := 291) 0 dL_law_291 rfl rfl ?_
      refine ym_iload_n (pc := 292) 3 dL_law_292 rfl rfl ?_
      refine ym_iconst (pc := 293) (v := 3) dL_law_293 (by decide) ?_
      refine ym_iadd (pc := 294) dL_law_294 ?_
      obtain ⟨v295, e295, hf⟩ := Option.bind_eq_some_iff.mp hf
      refine ym_iald (pc := 295) dL_law_295 rfl (ym_ldI_v e295) ?_
      refine ym_i2l (pc := 296) dL_law_296 ?_
      refine ym_ldc2 (pc := 297) dL_law_297 wd_1439 ?_
      refine ym_land (pc := 300) dL_law_300 ?_
      refine ym_lor (pc := 301) dL_law_301 ?_
      refine ym_aload_n (pc := 302) 0 dL_law_302 rfl rfl ?_
      refine ym_iload_n (pc := 303) 3 dL_law_303 rfl rfl ?_
      refine ym_iconst (pc := 304) (v := 4) dL_law_304 (by decide) ?_
      refine ym_iadd (pc := 305) dL_law_305 ?_
      obtain ⟨v306, e306, hf⟩ := Option.bind_eq_some_iff.mp hf
      refine ym_iald (pc := 306) dL_law_306 rfl (ym_ldI_v e306) ?_
      refine ym_i2l (pc := 307) dL_law_307 ?_
      refine ym_bipush (pc := 308) (v := 32) dL_law_308 (by decide) ?_
      refine ym_lshl (pc := 310) dL_law_310 ?_
      refine ym_aload_n (pc := 311) 0 dL_law_311 rfl rfl ?_
      refine ym_iload_n (pc := 312) 3 dL_law_312 rfl rfl ?_
      refine ym_iconst (pc := 313) (v := 5) dL_law_313 (by decide) ?_
      refine ym_iadd (pc := 314) dL_law_314 ?_
      obtain ⟨v315, e315, hf⟩ := Option.bind_eq_some_iff.mp hf
      refine ym_iald (pc := 315) dL_law_315 rfl (ym_ldI_v e315) ?_
      refine ym_i2l (pc := 316) dL_law_316 ?_
      refine ym_ldc2 (pc := 317) dL_law_317 wd_1439 ?_
      refine ym_land (pc := 320) dL_law_320 ?_
      refine ym_lor (pc := 321) dL_law_321 ?_
      obtain ⟨o322, f322, hf⟩ := Option.bind_eq_some_iff.mp hf
      obtain ⟨q322, e322, hf⟩ := Option.bind_eq_some_iff.mp hf
      refine ym_callV (pc := 322) (G2 := g_X7_lot) (dep2 := 5) (As := [.int v281, .long (((Int32.toInt64 v286) <<< (Int32.toInt64 32 &&& 63)) ||| ((Int32.toInt64 v295) &&& 4294967295)), .long (((Int32.toInt64 v306) <<< (Int32.toInt64 32 &&& 63)) ||| ((Int32.toInt64 v315) &&& 4294967295))]) (st := []) (stk2 := [.long q322.1]) (r2 := (some (.long q322.1))) (h1 := q322.2) dL_law_322 (ok_X7_lot e322) (sc_L_law_X7_lot) wd_316 wd_317 wd_318 (ci := 7) (q0 := (RX7, TX7, 10)) rfl (by decide) rfl f322 rfl rfl (ym_st4 (Nat.le_of_ble_eq_true rfl)) rfl ?_
      refine ym_aload_n (pc := 325) 2 dL_law_325 rfl rfl ?_
      refine ym_aload_n (pc := 326) 0 dL_law_326 rfl rfl ?_
      refine ym_iload_n (pc := 327) 3 dL_law_327 rfl rfl ?_
      refine ym_iconst (pc := 328) (v := 1) dL_law_328 (by decide) ?_
      refine ym_iadd (pc := 329) dL_law_329 ?_
      obtain ⟨v330, e330, hf⟩ := Option.bind_eq_some_iff.mp hf
      refine ym_iald (pc := 330) dL_law_330 rfl (ym_ldI_v e330) ?_
      refine ym_aload_n (pc := 331) 0 dL_law_331 rfl rfl ?_
      refine ym_iload_n (pc := 332) 3 dL_law_332 rfl rfl ?_
      refine ym_iconst (pc := 333) (v := 2) dL_law_333 (by decide) ?_
      refine ym_iadd (pc := 334) dL_law_334 ?_
      obtain ⟨v335, e335, hf⟩ := Option.bind_eq_some_iff.mp hf
      refine ym_iald (pc := 335) dL_law_335 rfl (ym_ldI_v e335) ?_
      refine ym_i2l (pc := 336) dL_law_336 ?_
      refine ym_bipush (pc := 337) (v := 32) dL_law_337 (by decide) ?_
      refine ym_lshl (pc := 339) dL_law_339 ?_
      refine ym_aload_n (pc := 340) 0 dL_law_340 rfl rfl ?_
      refine ym_iload_n (pc := 341) 3 dL_law_341 rfl rfl ?_
      refine ym_iconst (pc := 342) (v := 3) dL_law_342 (by decide) ?_
      refine ym_iadd (pc := 343) dL_law_343 ?_
      obtain ⟨v344, e344, hf⟩ := Option.bind_eq_some_iff.mp hf
      refine ym_iald (pc := 344) dL_law_344 rfl (ym_ldI_v e344) ?_
      refine ym_i2l (pc := 345) dL_law_345 ?_
      refine ym_ldc2 (pc := 346) dL_law_346 wd_1439 ?_
      refine ym_land (pc := 349) dL_law_349 ?_
      refine ym_lor (pc := 350) dL_law_350 ?_
      refine ym_aload_n (pc := 351) 0 dL_law_351 rfl rfl ?_
      refine ym_iload_n (pc := 352) 3 dL_law_352 rfl rfl ?_
      refine ym_iconst (pc := 353) (v := 4) dL_law_353 (by decide) ?_
      refine ym_iadd (pc := 354) dL_law_354 ?_
      obtain ⟨v355, e355, hf⟩ := Option.bind_eq_some_iff.mp hf
      refine ym_iald (pc := 355) dL_law_355 rfl (ym_ldI_v e355) ?_
      refine ym_i2l (pc := 356) dL_law_356 ?_
      refine ym_bipush (pc := 357) (v := 32) dL_law_357 (by decide) ?_
      refine ym_lshl (pc := 359) dL_law_359 ?_
      refine ym_aload_n (pc := 360) 0 dL_law_360 rfl rfl ?_
      refine ym_iload_n (pc := 361) 3 dL_law_361 rfl rfl ?_
      refine ym_iconst (pc := 362) (v := 5) dL_law_362 (by decide) ?_
      refine ym_iadd (pc := 363) dL_law_363 ?_
      obtain ⟨v364, e364, hf⟩ := Option.bind_eq_some_iff.mp hf
      refine ym_iald (pc := 364) dL_law_364 rfl (ym_ldI_v e364) ?_
      refine ym_i2l (pc := 365) dL_law_365 ?_
      refine ym_ldc2 (pc := 366) dL_law_366 wd_1439 ?_
      refine ym_land (pc := 369) dL_law_369 ?_
      refine ym_lor (pc := 370) dL_law_370 ?_
      obtain ⟨o371, f371, hf⟩ := Option.bind_eq_some_iff.mp hf
      obtain ⟨q371, e371, hf⟩ := Option.bind_eq_some_iff.mp hf
      refine ym_callV (pc := 371) (G2 := g_X8_lot) (dep2 := 19) (As := [.int v330, .long (((Int32.toInt64 v335) <<< (Int32.toInt64 32 &&& 63)) ||| ((Int32.toInt64 v344) &&& 4294967295)), .long (((Int32.toInt64 v355) <<< (Int32.toInt64 32 &&& 63)) ||| ((Int32.toInt64 v364) &&& 4294967295))]) (st := [.long q322.1]) (stk2 := [.long q371.1, .long q322.1]) (r2 := (some (.long q371.1))) (h1 := q371.2) dL_law_371 (ok_X8_lot e371) (sc_L_law_X8_lot) wd_1269 wd_1270 wd_1271 (ci := 8) (q0 := (RX8, TX8, 58)) rfl (by decide) rfl f371 rfl rfl (ym_st4 (Nat.le_of_ble_eq_true rfl)) rfl ?_
      by_cases c374 : q322.1 = q371.1
      · rw [if_pos c374] at hf
        refine ym_lcmp_eq_y (pc := 374) (tgt := 1685) dL_law_374 dL_law_375 (by decide) c374 ?_
        exact ym_sub [0, 1, 2, 3] rfl (ob_L_law_1685_18 hKl hf k)
      · rw [if_neg c374] at hf
        refine ym_lcmp_eq_n (pc := 374) (tgt := 1685) dL_law_374 dL_law_375 (by decide) c374 ?_
        refine ym_iconst (pc := 378) (v := 0) dL_law_378 (by decide) ?_
        cases hf
        obtain ⟨rfl, rfl⟩ := k
        exact ym_zret (pc := 379) dL_law_379 rfl rfl
    rw [if_neg c33_1] at hf
    by_cases c33_2 : (v29 &&& 63) = 2
    · rw [if_pos c33_2] at hf
      refine ym_swIn (pc := 33) (off := 347) (tgt := 380) dL_law_33 (by rw [c33_2]; decide) (by rw [c33_2]; decide) (by rw [c33_2]; decide) (by decide) ?_
      refine ym_aload_n (pc := 380) 1 dL_law_380 rfl rfl ?_
      refine ym_aload_n (pc := 381) 0 dL_law_381 rfl rfl ?_
      refine ym_iload_n (pc := 382) 3 dL_law_382 rfl rfl ?_
      refine ym_iconst (pc := 383) (v := 1) dL_law_383 (by decide) ?_
      refine ym_iadd (pc := 384) dL_law_384 ?_
      obtain ⟨v385, e385, hf⟩ := Option.bind_eq_some_iff.mp hf
      refine ym_iald (pc := 385) dL_law_385 rfl (ym_ldI_v e385) ?_
      refine ym_aload_n (pc := 386) 0 dL_law_386 rfl rfl ?_
      refine ym_iload_n (pc := 387) 3 dL_law_387 rfl rfl ?_
      refine ym_iconst (pc := 388) (v := 2) dL_law_388 (by decide) ?_
      refine ym_iadd (pc := 389) dL_law_389 ?_
      obtain ⟨v390, e390, hf⟩ := Option.bind_eq_some_iff.mp hf
      refine ym_iald (pc := 390) dL_law_390 rfl (ym_ldI_v e390) ?_
      obtain ⟨o391, f391, hf⟩ := Option.bind_eq_some_iff.mp hf
      obtain ⟨q391, e391, hf⟩ := Option.bind_eq_some_iff.mp hf
      refine ym_callV (pc := 391) (G2 := g_X7_seller) (dep2 := 6) (As := [.int v385, .int v390]) (st := []) (stk2 := [.long q391.1]) (r2 := (some (.long q391.1))) (h1 := q391.2) dL_law_391 (ok_X7_seller e391) (sc_L_law_X7_seller) wd_367 wd_368 wd_369 (ci := 7) (q0 := (RX7, TX7, 10)) rfl (by decide) rfl f391 rfl rfl (ym_st4 (Nat.le_of_ble_eq_true rfl)) rfl ?_
      refine ym_aload_n (pc := 394) 2 dL_law_394 rfl rfl ?_
      refine ym_aload_n (pc := 395) 0 dL_law_395 rfl rfl ?_
      refine ym_iload_n (pc := 396) 3 dL_law_396 rfl rfl ?_
      refine ym_iconst (pc := 397) (v := 1) dL_law_397 (by decide) ?_
      refine ym_iadd (pc := 398) dL_law_398 ?_
      obtain ⟨v399, e399, hf⟩ := Option.bind_eq_some_iff.mp hf
      refine ym_iald (pc := 399) dL_law_399 rfl (ym_ldI_v e399) ?_
      refine ym_aload_n (pc := 400) 0 dL_law_400 rfl rfl ?_
      refine ym_iload_n (pc := 401) 3 dL_law_401 rfl rfl ?_
      refine ym_iconst (pc := 402) (v := 2) dL_law_402 (by decide) ?_
      refine ym_iadd (pc := 403) dL_law_403 ?_
      obtain ⟨v404, e404, hf⟩ := Option.bind_eq_some_iff.mp hf
      refine ym_iald (pc := 404) dL_law_404 rfl (ym_ldI_v e404) ?_
      obtain ⟨o405, f405, hf⟩ := Option.bind_eq_some_iff.mp hf
      obtain ⟨q405, e405, hf⟩ := Option.bind_eq_some_iff.mp hf
      refine ym_callV (pc := 405) (G2 := g_X8_seller) (dep2 := 19) (As := [.int v399, .int v404]) (st := [.long q391.1]) (stk2 := [.long q405.1, .long q391.1]) (r2 := (some (.long q405.1))) (h1 := q405.2) dL_law_405 (ok_X8_seller e405) (sc_L_law_X8_seller) wd_1273 wd_1274 wd_1275 (ci := 8) (q0 := (RX8, TX8, 58)) rfl (by decide) rfl f405 rfl rfl (ym_st4 (Nat.le_of_ble_eq_true rfl)) rfl ?_
      by_cases c408 : q391.1 = q405.1
      · rw [if_pos c408] at hf
        refine ym_lcmp_eq_y (pc := 408) (tgt := 1685) dL_law_408 dL_law_409 (by decide) c408 ?_
        exact ym_sub [0, 1, 2, 3] rfl (ob_L_law_1685_18 hKl hf k)
      · rw [if_neg c408] at hf
        refine ym_lcmp_eq_n (pc := 408) (tgt := 1685) dL_law_408 dL_law_409 (by decide) c408 ?_
        refine ym_iconst (pc := 412) (v := 0) dL_law_412 (by decide) ?_
        cases hf
        obtain ⟨rfl, rfl⟩ := k
        exact ym_zret (pc := 413) dL_law_413 rfl rfl
    rw [if_neg c33_2] at hf
    by_cases c33_3 : (v29 &&& 63) = 3
    · rw [if_pos c33_3] at hf
      refine ym_swIn (pc := 33) (off := 381) (tgt := 414) dL_law_33 (by rw [c33_3]; decide) (by rw [c33_3]; decide) (by rw [c33_3]; decide) (by decide) ?_
      refine ym_aload_n (pc := 414) 1 dL_law_414 rfl rfl ?_
      refine ym_aload_n (pc := 415) 0 dL_law_415 rfl rfl ?_
      refine ym_iload_n (pc := 416) 3 dL_law_416 rfl rfl ?_
      refine ym_iconst (pc := 417) (v := 1) dL_law_417 (by decide) ?_
      refine ym_iadd (pc := 418) dL_law_418 ?_
      obtain ⟨v419, e419, hf⟩ := Option.bind_eq_some_iff.mp hf
      refine ym_iald (pc := 419) dL_law_419 rfl (ym_ldI_v e419) ?_
      refine ym_aload_n (pc := 420) 0 dL_law_420 rfl rfl ?_
      refine ym_iload_n (pc := 421) 3 dL_law_421 rfl rfl ?_
      refine ym_iconst (pc := 422) (v := 2) dL_law_422 (by decide) ?_
      refine ym_iadd (pc := 423) dL_law_423 ?_
      obtain ⟨v424, e424, hf⟩ := Option.bind_eq_some_iff.mp hf
      refine ym_iald (pc := 424) dL_law_424 rfl (ym_ldI_v e424) ?_
      obtain ⟨o425, f425, hf⟩ := Option.bind_eq_some_iff.mp hf
      obtain ⟨q425, e425, hf⟩ := Option.bind_eq_some_iff.mp hf
      refine ym_callV (pc := 425) (G2 := g_X7_cut) (dep2 := 5) (As := [.int v419, .int v424]) (st := []) (stk2 := [.long q425.1]) (r2 := (some (.long q425.1))) (h1 := q425.2) dL_law_425 (ok_X7_cut e425) (sc_L_law_X7_cut) wd_413 wd_414 wd_415 (ci := 7) (q0 := (RX7, TX7, 10)) rfl (by decide) rfl f425 rfl rfl (ym_st4 (Nat.le_of_ble_eq_true rfl)) rfl ?_
      refine ym_aload_n (pc := 428) 2 dL_law_428 rfl rfl ?_
      refine ym_aload_n (pc := 429) 0 dL_law_429 rfl rfl ?_
      refine ym_iload_n (pc := 430) 3 dL_law_430 rfl rfl ?_
      refine ym_iconst (pc := 431) (v := 1) dL_law_431 (by decide) ?_
      refine ym_iadd (pc := 432) dL_law_432 ?_
      obtain ⟨v433, e433, hf⟩ := Option.bind_eq_some_iff.mp hf
      refine ym_iald (pc := 433) dL_law_433 rfl (ym_ldI_v e433) ?_
      refine ym_aload_n (pc := 434) 0 dL_law_434 rfl rfl ?_
      refine ym_iload_n (pc := 435) 3 dL_law_435 rfl rfl ?_
      refine ym_iconst (pc := 436) (v := 2) dL_law_436 (by decide) ?_
      refine ym_iadd (pc := 437) dL_law_437 ?_
      obtain ⟨v438, e438, hf⟩ := Option.bind_eq_some_iff.mp hf
      refine ym_iald (pc := 438) dL_law_438 rfl (ym_ldI_v e438) ?_
      obtain ⟨o439, f439, hf⟩ := Option.bind_eq_some_iff.mp hf
      obtain ⟨q439, e439, hf⟩ := Option.bind_eq_some_iff.mp hf
      refine ym_callV (pc := 439) (G2 := g_X8_cut) (dep2 := 19) (As := [.int v433, .int v438]) (st := [.long q425.1]) (stk2 := [.long q439.1, .long q425.1]) (r2 := (some (.long q439.1))) (h1 := q439.2) dL_law_439 (ok_X8_cut e439) (sc_L_law_X8_cut) wd_1277 wd_1278 wd_1279 (ci := 8) (q0 := (RX8, TX8, 58)) rfl (by decide) rfl f439 rfl rfl (ym_st4 (Nat.le_of_ble_eq_true rfl)) rfl ?_
      by_cases c442 : q425.1 = q439.1
      · rw [if_pos c442] at hf
        refine ym_lcmp_eq_y (pc := 442) (tgt := 1685) dL_law_442 dL_law_443 (by decide) c442 ?_
        exact ym_sub [0, 1, 2, 3] rfl (ob_L_law_1685_18 hKl hf k)
      · rw [if_neg c442] at hf
        refine ym_lcmp_eq_n (pc := 442) (tgt := 1685) dL_law_442 dL_law_443 (by decide) c442 ?_
        refine ym_iconst (pc := 446) (v := 0) dL_law_446 (by decide) ?_
        cases hf
        obtain ⟨rfl, rfl⟩ := k
        exact ym_zret (pc := 447) dL_law_447 rfl rfl
    rw [if_neg c33_3] at hf
    by_cases c33_4 : (v29 &&& 63) = 4
    · rw [if_pos c33_4] at hf
      refine ym_swIn (pc := 33) (off := 415) (tgt := 448) dL_law_33 (by rw [c33_4]; decide) (by rw [c33_4]; decide) (by rw [c33_4]; decide) (by decide) ?_
      refine ym_aload_n (pc := 448) 1 dL_law_448 rfl rfl ?_
      refine ym_aload_n (pc := 449) 0 dL_law_449 rfl rfl ?_
      refine ym_iload_n (pc := 450) 3 dL_law_450 rfl rfl ?_
      refine ym_iconst (pc := 451) (v := 1) dL_law_451 (by decide) ?_
      refine ym_iadd (pc := 452) dL_law_452 ?_
      obtain ⟨v453, e453, hf⟩ := Option.bind_eq_some_iff.mp hf
      refine ym_iald (pc := 453) dL_law_453 rfl (ym_ldI_v e453) ?_
      refine ym_i2l (pc := 454) dL_law_454 ?_
      refine ym_bipush (pc := 455) (v := 32) dL_law_455 (by decide) ?_
      refine ym_lshl (pc := 457) dL_law_457 ?_
      refine ym_aload_n (pc := 458) 0 dL_law_458 rfl rfl ?_
      refine ym_iload_n (pc := 459) 3 dL_law_459 rfl rfl ?_
      refine ym_iconst (pc := 460) (v := 2) dL_law_460 (by decide) ?_
      refine ym_iadd (pc := 461) dL_law_461 ?_
      obtain ⟨v462, e462, hf⟩ := Option.bind_eq_some_iff.mp hf
      refine ym_iald (pc := 462) dL_law_462 rfl (ym_ldI_v e462) ?_
      refine ym_i2l (pc := 463) dL_law_463 ?_
      refine ym_ldc2 (pc := 464) dL_law_464 wd_1439 ?_
      refine ym_land (pc := 467) dL_law_467 ?_
      refine ym_lor (pc := 468) dL_law_468 ?_
      refine ym_aload_n (pc := 469) 0 dL_law_469 rfl rfl ?_
      refine ym_iload_n (pc := 470) 3 dL_law_470 rfl rfl ?_
      refine ym_iconst (pc := 471) (v := 3) dL_law_471 (by decide) ?_
      refine ym_iadd (pc := 472) dL_law_472 ?_
      obtain ⟨v473, e473, hf⟩ := Option.bind_eq_some_iff.mp hf
      refine ym_iald (pc := 473) dL_law_473 rfl (ym_ldI_v e473) ?_
      refine ym_i2l (pc := 474) dL_law_474 ?_
      refine ym_bipush (pc := 475) (v := 32) dL_law_475 (by decide) ?_
      refine ym_lshl (pc := 477) dL_law_477 ?_
      refine ym_aload_n (pc := 478) 0 dL_law_478 rfl rfl ?_
      refine ym_iload_n (pc := 479) 3 dL_law_479 rfl rfl ?_
      refine ym_iconst (pc := 480) (v := 4) dL_law_480 (by decide) ?_
      refine ym_iadd (pc := 481) dL_law_481 ?_
      obtain ⟨v482, e482, hf⟩ := Option.bind_eq_some_iff.mp hf
      refine ym_iald (pc := 482) dL_law_482 rfl (ym_ldI_v e482) ?_
      refine ym_i2l (pc := 483) dL_law_483 ?_
      refine ym_ldc2 (pc := 484) dL_law_484 wd_1439 ?_
      refine ym_land (pc := 487) dL_law_487 ?_
      refine ym_lor (pc := 488) dL_law_488 ?_
      obtain ⟨o489, f489, hf⟩ := Option.bind_eq_some_iff.mp hf
      obtain ⟨q489, e489, hf⟩ := Option.bind_eq_some_iff.mp hf
      refine ym_callV (pc := 489) (G2 := g_X7_step) (dep2 := 8) (As := [.long (((Int32.toInt64 v453) <<< (Int32.toInt64 32 &&& 63)) ||| ((Int32.toInt64 v462) &&& 4294967295)), .long (((Int32.toInt64 v473) <<< (Int32.toInt64 32 &&& 63)) ||| ((Int32.toInt64 v482) &&& 4294967295))]) (st := []) (stk2 := [.long q489.1]) (r2 := (some (.long q489.1))) (h1 := q489.2) dL_law_489 (ok_X7_step e489) (sc_L_law_X7_step) wd_420 wd_421 wd_422 (ci := 7) (q0 := (RX7, TX7, 10)) rfl (by decide) rfl f489 rfl rfl (ym_st4 (Nat.le_of_ble_eq_true rfl)) rfl ?_
      refine ym_aload_n (pc := 492) 2 dL_law_492 rfl rfl ?_
      refine ym_aload_n (pc := 493) 0 dL_law_493 rfl rfl ?_
      refine ym_iload_n (pc := 494) 3 dL_law_494 rfl rfl ?_
      refine ym_iconst (pc := 495) (v := 1) dL_law_495 (by decide) ?_
      refine ym_iadd (pc := 496) dL_law_496 ?_
      obtain ⟨v497, e497, hf⟩ := Option.bind_eq_some_iff.mp hf
      refine ym_iald (pc := 497) dL_law_497 rfl (ym_ldI_v e497) ?_
      refine ym_i2l (pc := 498) dL_law_498 ?_
      refine ym_bipush (pc := 499) (v := 32) dL_law_499 (by decide) ?_
      refine ym_lshl (pc := 501) dL_law_501 ?_
      refine ym_aload_n (pc := 502) 0 dL_law_502 rfl rfl ?_
      refine ym_iload_n (pc := 503) 3 dL_law_503 rfl rfl ?_
      refine ym_iconst (pc := 504) (v := 2) dL_law_504 (by decide) ?_
      refine ym_iadd (pc := 505) dL_law_505 ?_
      obtain ⟨v506, e506, hf⟩ := Option.bind_eq_some_iff.mp hf
      refine ym_iald (pc := 506) dL_law_506 rfl (ym_ldI_v e506) ?_
      refine ym_i2l (pc := 507) dL_law_507 ?_
      refine ym_ldc2 (pc := 508) dL_law_508 wd_1439 ?_
      refine ym_land (pc := 511) dL_law_511 ?_
      refine ym_lor (pc := 512) dL_law_512 ?_
      refine ym_aload_n (pc := 513) 0 dL_law_513 rfl rfl ?_
      refine ym_iload_n (pc := 514) 3 dL_law_514 rfl rfl ?_
      refine ym_iconst (pc := 515) (v := 3) dL_law_515 (by decide) ?_
      refine ym_iadd (pc := 516) dL_law_516 ?_
      obtain ⟨v517, e517, hf⟩ := Option.bind_eq_some_iff.mp hf
      refine ym_iald (pc := 517) dL_law_517 rfl (ym_ldI_v e517) ?_
      refine ym_i2l (pc := 518) dL_law_518 ?_
      refine ym_bipush (pc := 519) (v := 32) dL_law_519 (by decide) ?_
      refine ym_lshl (pc := 521) dL_law_521 ?_
      refine ym_aload_n (pc := 522) 0 dL_law_522 rfl rfl ?_
      refine ym_iload_n (pc := 523) 3 dL_law_523 rfl rfl ?_
      refine ym_iconst (pc := 524) (v := 4) dL_law_524 (by decide) ?_
      refine ym_iadd (pc := 525) dL_law_525 ?_
      obtain ⟨v526, e526, hf⟩ := Option.bind_eq_some_iff.mp hf
      refine ym_iald (pc := 526) dL_law_526 rfl (ym_ldI_v e526) ?_
      refine ym_i2l (pc := 527) dL_law_527 ?_
      refine ym_ldc2 (pc := 528) dL_law_528 wd_1439 ?_
      refine ym_land (pc := 531) dL_law_531 ?_
      refine ym_lor (pc := 532) dL_law_532 ?_
      obtain ⟨o533, f533, hf⟩ := Option.bind_eq_some_iff.mp hf
      obtain ⟨q533, e533, hf⟩ := Option.bind_eq_some_iff.mp hf
      refine ym_callV (pc := 533) (G2 := g_X8_step) (dep2 := 19) (As := [.long (((Int32.toInt64 v497) <<< (Int32.toInt64 32 &&& 63)) ||| ((Int32.toInt64 v506) &&& 4294967295)), .long (((Int32.toInt64 v517) <<< (Int32.toInt64 32 &&& 63)) ||| ((Int32.toInt64 v526) &&& 4294967295))]) (st := [.long q489.1]) (stk2 := [.long q533.1, .long q489.1]) (r2 := (some (.long q533.1))) (h1 := q533.2) dL_law_533 (ok_X8_step e533) (sc_L_law_X8_step) wd_1281 wd_1282 wd_1283 (ci := 8) (q0 := (RX8, TX8, 58)) rfl (by decide) rfl f533 rfl rfl (ym_st4 (Nat.le_of_ble_eq_true rfl)) rfl ?_
      by_cases c536 : q489.1 = q533.1
      · rw [if_pos c536] at hf
        refine ym_lcmp_eq_y (pc := 536) (tgt := 1685) dL_law_536 dL_law_537 (by decide) c536 ?_
        exact ym_sub [0, 1, 2, 3] rfl (ob_L_law_1685_18 hKl hf k)
      · rw [if_neg c536] at hf
        refine ym_lcmp_eq_n (pc := 536) (tgt := 1685) dL_law_536 dL_law_537 (by decide) c536 ?_
        refine ym_iconst (pc := 540) (v := 0) dL_law_540 (by decide) ?_
        cases hf
        obtain ⟨rfl, rfl⟩ := k
        exact ym_zret (pc := 541) dL_law_541 rfl rfl
    rw [if_neg c33_4] at hf
    by_cases c33_5 : (v29 &&& 63) = 5
    · rw [if_pos c33_5] at hf
      refine ym_swIn (pc := 33) (off := 509) (tgt := 542) dL_law_33 (by rw [c33_5]; decide) (by rw [c33_5]; decide) (by rw [c33_5]; decide) (by decide) ?_
      refine ym_aload_n (pc := 542) 1 dL_law_542 rfl rfl ?_
      refine ym_aload_n (pc := 543) 0 dL_law_543 rfl rfl ?_
      refine ym_iload_n (pc := 544) 3 dL_law_544 rfl rfl ?_
      refine ym_iconst (pc := 545) (v := 1) dL_law_545 (by decide) ?_
      refine ym_iadd (pc := 546) dL_law_546 ?_
      obtain ⟨v547, e547, hf⟩ := Option.bind_eq_some_iff.mp hf
      refine ym_iald (pc := 547) dL_law_547 rfl (ym_ldI_v e547) ?_
      refine ym_i2l (pc := 548) dL_law_548 ?_
      refine ym_bipush (pc := 549) (v := 32) dL_law_549 (by decide) ?_
      refine ym_lshl (pc := 551) dL_law_551 ?_
      refine ym_aload_n (pc := 552) 0 dL_law_552 rfl rfl ?_
      refine ym_iload_n (pc := 553) 3 dL_law_553 rfl rfl ?_
      refine ym_iconst (pc := 554) (v := 2) dL_law_554 (by decide) ?_
      refine ym_iadd (pc := 555) dL_law_555 ?_
      obtain ⟨v556, e556, hf⟩ := Option.bind_eq_some_iff.mp hf
      refine ym_iald (pc := 556) dL_law_556 rfl (ym_ldI_v e556) ?_
      refine ym_i2l (pc := 557) dL_law_557 ?_
      refine ym_ldc2 (pc := 558) dL_law_558 wd_1439 ?_
      refine ym_land (pc := 561) dL_law_561 ?_
      refine ym_lor (pc := 562) dL_law_562 ?_
      refine ym_aload_n (pc := 563) 0 dL_law_563 rfl rfl ?_
      refine ym_iload_n (pc := 564) 3 dL_law_564 rfl rfl ?_
      refine ym_iconst (pc := 565) (v := 3) dL_law_565 (by decide) ?_
      refine ym_iadd (pc := 566) dL_law_566 ?_
      obtain ⟨v567, e567, hf⟩ := Option.bind_eq_some_iff.mp hf
      refine ym_iald (pc := 567) dL_law_567 rfl (ym_ldI_v e567) ?_
      obtain ⟨o568, f568, hf⟩ := Option.bind_eq_some_iff.mp hf
      obtain ⟨q568, e568, hf⟩ := Option.bind_eq_some_iff.mp hf
      refine ym_callV (pc := 568) (G2 := g_X7_premium) (dep2 := 8) (As := [.long (((Int32.toInt64 v547) <<< (Int32.toInt64 32 &&& 63)) ||| ((Int32.toInt64 v556) &&& 4294967295)), .int v567]) (st := []) (stk2 := [.long q568.1]) (r2 := (some (.long q568.1))) (h1 := q568.2) dL_law_568 (ok_X7_premium e568) (sc_L_law_X7_premium) wd_444 wd_445 wd_446 (ci := 7) (q0 := (RX7, TX7, 10)) rfl (by decide) rfl f568 rfl rfl (ym_st4 (Nat.le_of_ble_eq_true rfl)) rfl ?_
      refine ym_aload_n (pc := 571) 2 dL_law_571 rfl rfl ?_
      refine ym_aload_n (pc := 572) 0 dL_law_572 rfl rfl ?_
      refine ym_iload_n (pc := 573) 3 dL_law_573 rfl rfl ?_
      refine ym_iconst (pc := 574) (v := 1) dL_law_574 (by decide) ?_
      refine ym_iadd (pc := 575) dL_law_575 ?_
      obtain ⟨v576, e576, hf⟩ := Option.bind_eq_some_iff.mp hf
      refine ym_iald (pc := 576) dL_law_576 rfl (ym_ldI_v e576) ?_
      refine ym_i2l (pc := 577) dL_law_577 ?_
      refine ym_bipush (pc := 578) (v := 32) dL_law_578 (by decide) ?_
      refine ym_lshl (pc := 580) dL_law_580 ?_
      refine ym_aload_n (pc := 581) 0 dL_law_581 rfl rfl ?_
      refine ym_iload_n (pc := 582) 3 dL_law_582 rfl rfl ?_
      refine ym_iconst (pc := 583) (v := 2) dL_law_583 (by decide) ?_
      refine ym_iadd (pc := 584) dL_law_584 ?_
      obtain ⟨v585, e585, hf⟩ := Option.bind_eq_some_iff.mp hf
      refine ym_iald (pc := 585) dL_law_585 rfl (ym_ldI_v e585) ?_
      refine ym_i2l (pc := 586) dL_law_586 ?_
      refine ym_ldc2 (pc := 587) dL_law_587 wd_1439 ?_
      refine ym_land (pc := 590) dL_law_590 ?_
      refine ym_lor (pc := 591) dL_law_591 ?_
      refine ym_aload_n (pc := 592) 0 dL_law_592 rfl rfl ?_
      refine ym_iload_n (pc := 593) 3 dL_law_593 rfl rfl ?_
      refine ym_iconst (pc := 594) (v := 3) dL_law_594 (by decide) ?_
      refine ym_iadd (pc := 595) dL_law_595 ?_
      obtain ⟨v596, e596, hf⟩ := Option.bind_eq_some_iff.mp hf
      refine ym_iald (pc := 596) dL_law_596 rfl (ym_ldI_v e596) ?_
      obtain ⟨o597, f597, hf⟩ := Option.bind_eq_some_iff.mp hf
      obtain ⟨q597, e597, hf⟩ := Option.bind_eq_some_iff.mp hf
      refine ym_callV (pc := 597) (G2 := g_X8_premium) (dep2 := 19) (As := [.long (((Int32.toInt64 v576) <<< (Int32.toInt64 32 &&& 63)) ||| ((Int32.toInt64 v585) &&& 4294967295)), .int v596]) (st := [.long q568.1]) (stk2 := [.long q597.1, .long q568.1]) (r2 := (some (.long q597.1))) (h1 := q597.2) dL_law_597 (ok_X8_premium e597) (sc_L_law_X8_premium) wd_1285 wd_1286 wd_1287 (ci := 8) (q0 := (RX8, TX8, 58)) rfl (by decide) rfl f597 rfl rfl (ym_st4 (Nat.le_of_ble_eq_true rfl)) rfl ?_
      by_cases c600 : q568.1 = q597.1
      · rw [if_pos c600] at hf
        refine ym_lcmp_eq_y (pc := 600) (tgt := 1685) dL_law_600 dL_law_601 (by decide) c600 ?_
        exact ym_sub [0, 1, 2, 3] rfl (ob_L_law_1685_18 hKl hf k)
      · rw [if_neg c600] at hf
        refine ym_lcmp_eq_n (pc := 600) (tgt := 1685) dL_law_600 dL_law_601 (by decide) c600 ?_
        refine ym_iconst (pc := 604) (v := 0) dL_law_604 (by decide) ?_
        cases hf
        obtain ⟨rfl, rfl⟩ := k
        exact ym_zret (pc := 605) dL_law_605 rfl rfl
    rw [if_neg c33_5] at hf
    by_cases c33_6 : (v29 &&& 63) = 6
    · rw [if_pos c33_6] at hf
      refine ym_swIn (pc := 33) (off := 573) (tgt := 606) dL_law_33 (by rw [c33_6]; decide) (by rw [c33_6]; decide) (by rw [c33_6]; decide) (by decide) ?_
      refine ym_aload_n (pc := 606) 1 dL_law_606 rfl rfl ?_
      refine ym_aload_n (pc := 607) 0 dL_law_607 rfl rfl ?_
      refine ym_iload_n (pc := 608) 3 dL_law_608 rfl rfl ?_
      refine ym_iconst (pc := 609) (v := 1) dL_law_609 (by decide) ?_
      refine ym_iadd (pc := 610) dL_law_610 ?_
      obtain ⟨v611, e611, hf⟩ := Option.bind_eq_some_iff.mp hf
      refine ym_iald (pc := 611) dL_law_611 rfl (ym_ldI_v e611) ?_
      refine ym_aload_n (pc := 612) 0 dL_law_612 rfl rfl ?_
      refine ym_iload_n (pc := 613) 3 dL_law_613 rfl rfl ?_
      refine ym_iconst (pc := 614) (v := 2) dL_law_614 (by decide) ?_
      refine ym_iadd (pc := 615) dL_law_615 ?_
      obtain ⟨v616, e616, hf⟩ := Option.bind_eq_some_iff.mp hf
      refine ym_iald (pc := 616) dL_law_616 rfl (ym_ldI_v e616) ?_
      obtain ⟨o617, f617, hf⟩ := Option.bind_eq_some_iff.mp hf
      obtain ⟨q617, e617, hf⟩ := Option.bind_eq_some_iff.mp hf
      refine ym_callV (pc := 617) (G2 := g_X7_tax) (dep2 := 5) (As := [.int v611, .int v616]) (st := []) (stk2 := [.long q617.1]) (r2 := (some (.long q617.1))) (h1 := q617.2) dL_law_617 (ok_X7_tax e617) (sc_L_law_X7_tax) wd_448 wd_449 wd_450 (ci := 7) (q0 := (RX7, TX7, 10)) rfl (by decide) rfl f617 rfl rfl (ym_st4 (Nat.le_of_ble_eq_true rfl)) rfl ?_
      refine ym_aload_n (pc := 620) 2 dL_law_620 rfl rfl ?_
      refine ym_aload_n (pc := 621) 0 dL_law_621 rfl rfl ?_
      refine ym_iload_n (pc := 622) 3 dL_law_622 rfl rfl ?_
      refine ym_iconst (pc := 623) (v := 1) dL_law_623 (by decide) ?_
      refine ym_iadd (pc := 624) dL_law_624 ?_
      obtain ⟨v625, e625, hf⟩ := Option.bind_eq_some_iff.mp hf
      refine ym_iald (pc := 625) dL_law_625 rfl (ym_ldI_v e625) ?_
      refine ym_aload_n (pc := 626) 0 dL_law_626 rfl rfl ?_
      refine ym_iload_n (pc := 627) 3 dL_law_627 rfl rfl ?_
      refine ym_iconst (pc := 628) (v := 2) dL_law_628 (by decide) ?_
      refine ym_iadd (pc := 629) dL_law_629 ?_
      obtain ⟨v630, e630, hf⟩ := Option.bind_eq_some_iff.mp hf
      refine ym_iald (pc := 630) dL_law_630 rfl (ym_ldI_v e630) ?_
      obtain ⟨o631, f631, hf⟩ := Option.bind_eq_some_iff.mp hf
      obtain ⟨q631, e631, hf⟩ := Option.bind_eq_some_iff.mp hf
      refine ym_callV (pc := 631) (G2 := g_X8_tax) (dep2 := 19) (As := [.int v625, .int v630]) (st := [.long q617.1]) (stk2 := [.long q631.1, .long q617.1]) (r2 := (some (.long q631.1))) (h1 := q631.2) dL_law_631 (ok_X8_tax e631) (sc_L_law_X8_tax) wd_1289 wd_1290 wd_1291 (ci := 8) (q0 := (RX8, TX8, 58)) rfl (by decide) rfl f631 rfl rfl (ym_st4 (Nat.le_of_ble_eq_true rfl)) rfl ?_
      by_cases c634 : q617.1 = q631.1
      · rw [if_pos c634] at hf
        refine ym_lcmp_eq_y (pc := 634) (tgt := 1685) dL_law_634 dL_law_635 (by decide) c634 ?_
        exact ym_sub [0, 1, 2, 3] rfl (ob_L_law_1685_18 hKl hf k)
      · rw [if_neg c634] at hf
        refine ym_lcmp_eq_n (pc := 634) (tgt := 1685) dL_law_634 dL_law_635 (by decide) c634 ?_
        refine ym_iconst (pc := 638) (v := 0) dL_law_638 (by decide) ?_
        cases hf
        obtain ⟨rfl, rfl⟩ := k
        exact ym_zret (pc := 639) dL_law_639 rfl rfl
    rw [if_neg c33_6] at hf
    by_cases c33_7 : (v29 &&& 63) = 7
    · rw [if_pos c33_7] at hf
      refine ym_swIn (pc := 33) (off := 607) (tgt := 640) dL_law_33 (by rw [c33_7]; decide) (by rw [c33_7]; decide) (by rw [c33_7]; decide) (by decide) ?_
      refine ym_aload_n (pc := 640) 1 dL_law_640 rfl rfl ?_
      refine ym_aload_n (pc := 641) 0 dL_law_641 rfl rfl ?_
      refine ym_iload_n (pc := 642) 3 dL_law_642 rfl rfl ?_
      refine ym_iconst (pc := 643) (v := 1) dL_law_643 (by decide) ?_
      refine ym_iadd (pc := 644) dL_law_644 ?_
      obtain ⟨v645, e645, hf⟩ := Option.bind_eq_some_iff.mp hf
      refine ym_iald (pc := 645) dL_law_645 rfl (ym_ldI_v e645) ?_
      obtain ⟨o646, f646, hf⟩ := Option.bind_eq_some_iff.mp hf
      obtain ⟨q646, e646, hf⟩ := Option.bind_eq_some_iff.mp hf
      refine ym_callV (pc := 646) (G2 := g_X7_call) (dep2 := 8) (As := [.int v645]) (st := []) (stk2 := [.long q646.1]) (r2 := (some (.long q646.1))) (h1 := q646.2) dL_law_646 (ok_X7_call e646) (sc_L_law_X7_call) wd_452 wd_453 wd_454 (ci := 7) (q0 := (RX7, TX7, 10)) rfl (by decide) rfl f646 rfl rfl (ym_st4 (Nat.le_of_ble_eq_true rfl)) rfl ?_
      refine ym_aload_n (pc := 649) 2 dL_law_649 rfl rfl ?_
      refine ym_aload_n (pc := 650) 0 dL_law_650 rfl rfl ?_
      refine ym_iload_n (pc := 651) 3 dL_law_651 rfl rfl ?_
      refine ym_iconst (pc := 652) (v := 1) dL_law_652 (by decide) ?_
      refine ym_iadd (pc := 653) dL_law_653 ?_
      obtain ⟨v654, e654, hf⟩ := Option.bind_eq_some_iff.mp hf
      refine ym_iald (pc := 654) dL_law_654 rfl (ym_ldI_v e654) ?_
      obtain ⟨o655, f655, hf⟩ := Option.bind_eq_some_iff.mp hf
      obtain ⟨q655, e655, hf⟩ := Option.bind_eq_some_iff.mp hf
      refine ym_callV (pc := 655) (G2 := g_X8_call) (dep2 := 19) (As := [.int v654]) (st := [.long q646.1]) (stk2 := [.long q655.1, .long q646.1]) (r2 := (some (.long q655.1))) (h1 := q655.2) dL_law_655 (ok_X8_call e655) (sc_L_law_X8_call) wd_1293 wd_1294 wd_1295 (ci := 8) (q0 := (RX8, TX8, 58)) rfl (by decide) rfl f655 rfl rfl (ym_st4 (Nat.le_of_ble_eq_true rfl)) rfl ?_
      by_cases c658 : q646.1 = q655.1
      · rw [if_pos c658] at hf
        refine ym_lcmp_eq_y (pc := 658) (tgt := 1685) dL_law_658 dL_law_659 (by decide) c658 ?_
        exact ym_sub [0, 1, 2, 3] rfl (ob_L_law_1685_18 hKl hf k)
      · rw [if_neg c658] at hf
        refine ym_lcmp_eq_n (pc := 658) (tgt := 1685) dL_law_658 dL_law_659 (by decide) c658 ?_
        refine ym_iconst (pc := 662) (v := 0) dL_law_662 (by decide) ?_
        cases hf
        obtain ⟨rfl, rfl⟩ := k
        exact ym_zret (pc := 663) dL_law_663 rfl rfl
    rw [if_neg c33_7] at hf
    by_cases c33_8 : (v29 &&& 63) = 8
    · rw [if_pos c33_8] at hf
      refine ym_swIn (pc := 33) (off := 631) (tgt := 664) dL_law_33 (by rw [c33_8]; decide) (by rw [c33_8]; decide) (by rw [c33_8]; decide) (by decide) ?_
      refine ym_aload_n (pc := 664) 1 dL_law_664 rfl rfl ?_
      refine ym_aload_n (pc := 665) 0 dL_law_665 rfl rfl ?_
      refine ym_iload_n (pc := 666) 3 dL_law_666 rfl rfl ?_
      refine ym_iconst (pc := 667) (v := 1) dL_law_667 (by decide) ?_
      refine ym_iadd (pc := 668) dL_law_668 ?_
      obtain ⟨v669, e669, hf⟩ := Option.bind_eq_some_iff.mp hf
      refine ym_iald (pc := 669) dL_law_669 rfl (ym_ldI_v e669) ?_
      refine ym_aload_n (pc := 670) 0 dL_law_670 rfl rfl ?_
      refine ym_iload_n (pc := 671) 3 dL_law_671 rfl rfl ?_
      refine ym_iconst (pc := 672) (v := 2) dL_law_672 (by decide) ?_
      refine ym_iadd (pc := 673) dL_law_673 ?_
      obtain ⟨v674, e674, hf⟩ := Option.bind_eq_some_iff.mp hf
      refine ym_iald (pc := 674) dL_law_674 rfl (ym_ldI_v e674) ?_
      refine ym_aload_n (pc := 675) 0 dL_law_675 rfl rfl ?_
      refine ym_iload_n (pc := 676) 3 dL_law_676 rfl rfl ?_
      refine ym_iconst (pc := 677) (v := 3) dL_law_677 (by decide) ?_
      refine ym_iadd (pc := 678) dL_law_678 ?_
      obtain ⟨v679, e679, hf⟩ := Option.bind_eq_some_iff.mp hf
      refine ym_iald (pc := 679) dL_law_679 rfl (ym_ldI_v e679) ?_
      refine ym_i2l (pc := 680) dL_law_680 ?_
      refine ym_bipush (pc := 681) (v := 32) dL_law_681 (by decide) ?_
      refine ym_lshl (pc := 683) dL_law_683 ?_
      refine ym_aload_n (pc := 684) 0 dL_law_684 rfl rfl ?_
      refine ym_iload_n (pc := 685) 3 dL_law_685 rfl rfl ?_
      refine ym_iconst (pc := 686) (v := 4) dL_law_686 (by decide) ?_
      refine ym_iadd (pc := 687) dL_law_687 ?_
      obtain ⟨v688, e688, hf⟩ := Option.bind_eq_some_iff.mp hf
      refine ym_iald (pc := 688) dL_law_688 rfl (ym_ldI_v e688) ?_
      refine ym_i2l (pc := 689) dL_law_689 ?_
      refine ym_ldc2 (pc := 690) dL_law_690 wd_1439 ?_
      refine ym_land (pc := 693) dL_law_693 ?_
      refine ym_lor (pc := 694) dL_law_694 ?_
      obtain ⟨o695, f695, hf⟩ := Option.bind_eq_some_iff.mp hf
      obtain ⟨q695, e695, hf⟩ := Option.bind_eq_some_iff.mp hf
      refine ym_callV (pc := 695) (G2 := g_X7_bid) (dep2 := 8) (As := [.int v669, .int v674, .long (((Int32.toInt64 v679) <<< (Int32.toInt64 32 &&& 63)) ||| ((Int32.toInt64 v688) &&& 4294967295))]) (st := []) (stk2 := [.long q695.1]) (r2 := (some (.long q695.1))) (h1 := q695.2) dL_law_695 (ok_X7_bid e695) (sc_L_law_X7_bid) wd_527 wd_528 wd_529 (ci := 7) (q0 := (RX7, TX7, 10)) rfl (by decide) rfl f695 rfl rfl (ym_st4 (Nat.le_of_ble_eq_true rfl)) rfl ?_
      refine ym_aload_n (pc := 698) 2 dL_law_698 rfl rfl ?_
      refine ym_aload_n (pc := 699) 0 dL_law_699 rfl rfl ?_
      refine ym_iload_n (pc := 700) 3 dL_law_700 rfl rfl ?_
      refine ym_iconst (pc := 701) (v := 1) dL_law_701 (by decide) ?_
      refine ym_iadd (pc := 702) dL_law_702 ?_
      obtain ⟨v703, e703, hf⟩ := Option.bind_eq_some_iff.mp hf
      refine ym_iald (pc := 703) dL_law_703 rfl (ym_ldI_v e703) ?_
      refine ym_aload_n (pc := 704) 0 dL_law_704 rfl rfl ?_
      refine ym_iload_n (pc := 705) 3 dL_law_705 rfl rfl ?_
      refine ym_iconst (pc := 706) (v := 2) dL_law_706 (by decide) ?_
      refine ym_iadd (pc := 707) dL_law_707 ?_
      obtain ⟨v708, e708, hf⟩ := Option.bind_eq_some_iff.mp hf
      refine ym_iald (pc := 708) dL_law_708 rfl (ym_ldI_v e708) ?_
      refine ym_aload_n (pc := 709) 0 dL_law_709 rfl rfl ?_
      refine ym_iload_n (pc := 710) 3 dL_law_710 rfl rfl ?_
      refine ym_iconst (pc := 711) (v := 3) dL_law_711 (by decide) ?_
      refine ym_iadd (pc := 712) dL_law_712 ?_
      obtain ⟨v713, e713, hf⟩ := Option.bind_eq_some_iff.mp hf
      refine ym_iald (pc := 713) dL_law_713 rfl (ym_ldI_v e713) ?_
      refine ym_i2l (pc := 714) dL_law_714 ?_
      refine ym_bipush (pc := 715) (v := 32) dL_law_715 (by decide) ?_
      refine ym_lshl (pc := 717) dL_law_717 ?_
      refine ym_aload_n (pc := 718) 0 dL_law_718 rfl rfl ?_
      refine ym_iload_n (pc := 719) 3 dL_law_719 rfl rfl ?_
      refine ym_iconst (pc := 720) (v := 4) dL_law_720 (by decide) ?_
      refine ym_iadd (pc := 721) dL_law_721 ?_
      obtain ⟨v722, e722, hf⟩ := Option.bind_eq_some_iff.mp hf
      refine ym_iald (pc := 722) dL_law_722 rfl (ym_ldI_v e722) ?_
      refine ym_i2l (pc := 723) dL_law_723 ?_
      refine ym_ldc2 (pc := 724) dL_law_724 wd_1439 ?_
      refine ym_land (pc := 727) dL_law_727 ?_
      refine ym_lor (pc := 728) dL_law_728 ?_
      obtain ⟨o729, f729, hf⟩ := Option.bind_eq_some_iff.mp hf
      obtain ⟨q729, e729, hf⟩ := Option.bind_eq_some_iff.mp hf
      refine ym_callV (pc := 729) (G2 := g_X8_bid) (dep2 := 19) (As := [.int v703, .int v708, .long (((Int32.toInt64 v713) <<< (Int32.toInt64 32 &&& 63)) ||| ((Int32.toInt64 v722) &&& 4294967295))]) (st := [.long q695.1]) (stk2 := [.long q729.1, .long q695.1]) (r2 := (some (.long q729.1))) (h1 := q729.2) dL_law_729 (ok_X8_bid e729) (sc_L_law_X8_bid) wd_1297 wd_1298 wd_1299 (ci := 8) (q0 := (RX8, TX8, 58)) rfl (by decide) rfl f729 rfl rfl (ym_st4 (Nat.le_of_ble_eq_true rfl)) rfl ?_
      by_cases c732 : q695.1 = q729.1
      · rw [if_pos c732] at hf
        refine ym_lcmp_eq_y (pc := 732) (tgt := 1685) dL_law_732 dL_law_733 (by decide) c732 ?_
        exact ym_sub [0, 1, 2, 3] rfl (ob_L_law_1685_18 hKl hf k)
      · rw [if_neg c732] at hf
        refine ym_lcmp_eq_n (pc := 732) (tgt := 1685) dL_law_732 dL_law_733 (by decide) c732 ?_
        refine ym_iconst (pc := 736) (v := 0) dL_law_736 (by decide) ?_
        cases hf
        obtain ⟨rfl, rfl⟩ := k
        exact ym_zret (pc := 737) dL_law_737 rfl rfl
    rw [if_neg c33_8] at hf
    by_cases c33_9 : (v29 &&& 63) = 9
    · rw [if_pos c33_9] at hf
      refine ym_swIn (pc := 33) (off := 705) (tgt := 738) dL_law_33 (by rw [c33_9]; decide) (by rw [c33_9]; decide) (by rw [c33_9]; decide) (by decide) ?_
      refine ym_aload_n (pc := 738) 1 dL_law_738 rfl rfl ?_
      refine ym_aload_n (pc := 739) 0 dL_law_739 rfl rfl ?_
      refine ym_iload_n (pc := 740) 3 dL_law_740 rfl rfl ?_
      refine ym_iconst (pc := 741) (v := 1) dL_law_741 (by decide) ?_
      refine ym_iadd (pc := 742) dL_law_742 ?_
      obtain ⟨v743, e743, hf⟩ := Option.bind_eq_some_iff.mp hf
      refine ym_iald (pc := 743) dL_law_743 rfl (ym_ldI_v e743) ?_
      refine ym_aload_n (pc := 744) 0 dL_law_744 rfl rfl ?_
      refine ym_iload_n (pc := 745) 3 dL_law_745 rfl rfl ?_
      refine ym_iconst (pc := 746) (v := 2) dL_law_746 (by decide) ?_
      refine ym_iadd (pc := 747) dL_law_747 ?_
      obtain ⟨v748, e748, hf⟩ := Option.bind_eq_some_iff.mp hf
      refine ym_iald (pc := 748) dL_law_748 rfl (ym_ldI_v e748) ?_
      refine ym_aload_n (pc := 749) 0 dL_law_749 rfl rfl ?_
      refine ym_iload_n (pc := 750) 3 dL_law_750 rfl rfl ?_
      refine ym_iconst (pc := 751) (v := 3) dL_law_751 (by decide) ?_
      refine ym_iadd (pc := 752) dL_law_752 ?_
      obtain ⟨v753, e753, hf⟩ := Option.bind_eq_some_iff.mp hf
      refine ym_iald (pc := 753) dL_law_753 rfl (ym_ldI_v e753) ?_
      refine ym_i2l (pc := 754) dL_law_754 ?_
      refine ym_bipush (pc := 755) (v := 32) dL_law_755 (by decide) ?_
      refine ym_lshl (pc := 757) dL_law_757 ?_
      refine ym_aload_n (pc := 758) 0 dL_law_758 rfl rfl ?_
      refine ym_iload_n (pc := 759) 3 dL_law_759 rfl rfl ?_
      refine ym_iconst (pc := 760) (v := 4) dL_law_760 (by decide) ?_
      refine ym_iadd (pc := 761) dL_law_761 ?_
      obtain ⟨v762, e762, hf⟩ := Option.bind_eq_some_iff.mp hf
      refine ym_iald (pc := 762) dL_law_762 rfl (ym_ldI_v e762) ?_
      refine ym_i2l (pc := 763) dL_law_763 ?_
      refine ym_ldc2 (pc := 764) dL_law_764 wd_1439 ?_
      refine ym_land (pc := 767) dL_law_767 ?_
      refine ym_lor (pc := 768) dL_law_768 ?_
      obtain ⟨o769, f769, hf⟩ := Option.bind_eq_some_iff.mp hf
      obtain ⟨q769, e769, hf⟩ := Option.bind_eq_some_iff.mp hf
      refine ym_callV (pc := 769) (G2 := g_X7_limit) (dep2 := 8) (As := [.int v743, .int v748, .long (((Int32.toInt64 v753) <<< (Int32.toInt64 32 &&& 63)) ||| ((Int32.toInt64 v762) &&& 4294967295))]) (st := []) (stk2 := [.long q769.1]) (r2 := (some (.long q769.1))) (h1 := q769.2) dL_law_769 (ok_X7_limit e769) (sc_L_law_X7_limit) wd_594 wd_595 wd_596 (ci := 7) (q0 := (RX7, TX7, 10)) rfl (by decide) rfl f769 rfl rfl (ym_st4 (Nat.le_of_ble_eq_true rfl)) rfl ?_
      refine ym_aload_n (pc := 772) 2 dL_law_772 rfl rfl ?_
      refine ym_aload_n (pc := 773) 0 dL_law_773 rfl rfl ?_
      refine ym_iload_n (pc := 774) 3 dL_law_774 rfl rfl ?_
      refine ym_iconst (pc := 775) (v := 1) dL_law_775 (by decide) ?_
      refine ym_iadd (pc := 776) dL_law_776 ?_
      obtain ⟨v777, e777, hf⟩ := Option.bind_eq_some_iff.mp hf
      refine ym_iald (pc := 777) dL_law_777 rfl (ym_ldI_v e777) ?_
      refine ym_aload_n (pc := 778) 0 dL_law_778 rfl rfl ?_
      refine ym_iload_n (pc := 779) 3 dL_law_779 rfl rfl ?_
      refine ym_iconst (pc := 780) (v := 2) dL_law_780 (by decide) ?_
      refine ym_iadd (pc := 781) dL_law_781 ?_
      obtain ⟨v782, e782, hf⟩ := Option.bind_eq_some_iff.mp hf
      refine ym_iald (pc := 782) dL_law_782 rfl (ym_ldI_v e782) ?_
      refine ym_aload_n (pc := 783) 0 dL_law_783 rfl rfl ?_
      refine ym_iload_n (pc := 784) 3 dL_law_784 rfl rfl ?_
      refine ym_iconst (pc := 785) (v := 3) dL_law_785 (by decide) ?_
      refine ym_iadd (pc := 786) dL_law_786 ?_
      obtain ⟨v787, e787, hf⟩ := Option.bind_eq_some_iff.mp hf
      refine ym_iald (pc := 787) dL_law_787 rfl (ym_ldI_v e787) ?_
      refine ym_i2l (pc := 788) dL_law_788 ?_
      refine ym_bipush (pc := 789) (v := 32) dL_law_789 (by decide) ?_
      refine ym_lshl (pc := 791) dL_law_791 ?_
      refine ym_aload_n (pc := 792) 0 dL_law_792 rfl rfl ?_
      refine ym_iload_n (pc := 793) 3 dL_law_793 rfl rfl ?_
      refine ym_iconst (pc := 794) (v := 4) dL_law_794 (by decide) ?_
      refine ym_iadd (pc := 795) dL_law_795 ?_
      obtain ⟨v796, e796, hf⟩ := Option.bind_eq_some_iff.mp hf
      refine ym_iald (pc := 796) dL_law_796 rfl (ym_ldI_v e796) ?_
      refine ym_i2l (pc := 797) dL_law_797 ?_
      refine ym_ldc2 (pc := 798) dL_law_798 wd_1439 ?_
      refine ym_land (pc := 801) dL_law_801 ?_
      refine ym_lor (pc := 802) dL_law_802 ?_
      obtain ⟨o803, f803, hf⟩ := Option.bind_eq_some_iff.mp hf
      obtain ⟨q803, e803, hf⟩ := Option.bind_eq_some_iff.mp hf
      refine ym_callV (pc := 803) (G2 := g_X8_limit) (dep2 := 19) (As := [.int v777, .int v782, .long (((Int32.toInt64 v787) <<< (Int32.toInt64 32 &&& 63)) ||| ((Int32.toInt64 v796) &&& 4294967295))]) (st := [.long q769.1]) (stk2 := [.long q803.1, .long q769.1]) (r2 := (some (.long q803.1))) (h1 := q803.2) dL_law_803 (ok_X8_limit e803) (sc_L_law_X8_limit) wd_1301 wd_1302 wd_1303 (ci := 8) (q0 := (RX8, TX8, 58)) rfl (by decide) rfl f803 rfl rfl (ym_st4 (Nat.le_of_ble_eq_true rfl)) rfl ?_
      by_cases c806 : q769.1 = q803.1
      · rw [if_pos c806] at hf
        refine ym_lcmp_eq_y (pc := 806) (tgt := 1685) dL_law_806 dL_law_807 (by decide) c806 ?_
        exact ym_sub [0, 1, 2, 3] rfl (ob_L_law_1685_18 hKl hf k)
      · rw [if_neg c806] at hf
        refine ym_lcmp_eq_n (pc := 806) (tgt := 1685) dL_law_806 dL_law_807 (by decide) c806 ?_
        refine ym_iconst (pc := 810) (v := 0) dL_law_810 (by decide) ?_
        cases hf
        obtain ⟨rfl, rfl⟩ := k
        exact ym_zret (pc := 811) dL_law_811 rfl rfl
    rw [if_neg c33_9] at hf
    by_cases c33_10 : (v29 &&& 63) = 10
    · rw [if_pos c33_10] at hf
      refine ym_swIn (pc := 33) (off := 779) (tgt := 812) dL_law_33 (by rw [c33_10]; decide) (by rw [c33_10]; decide) (by rw [c33_10]; decide) (by decide) ?_
      refine ym_aload_n (pc := 812) 1 dL_law_812 rfl rfl ?_
      refine ym_aload_n (pc := 813) 0 dL_law_813 rfl rfl ?_
      refine ym_iload_n (pc := 814) 3 dL_law_814 rfl rfl ?_
      refine ym_iconst (pc := 815) (v := 1) dL_law_815 (by decide) ?_
      refine ym_iadd (pc := 816) dL_law_816 ?_
      obtain ⟨v817, e817, hf⟩ := Option.bind_eq_some_iff.mp hf
      refine ym_iald (pc := 817) dL_law_817 rfl (ym_ldI_v e817) ?_
      obtain ⟨o818, f818, hf⟩ := Option.bind_eq_some_iff.mp hf
      obtain ⟨q818, e818, hf⟩ := Option.bind_eq_some_iff.mp hf
      refine ym_callV (pc := 818) (G2 := g_X7_ask) (dep2 := 5) (As := [.int v817]) (st := []) (stk2 := [.long q818.1]) (r2 := (some (.long q818.1))) (h1 := q818.2) dL_law_818 (ok_X7_ask e818) (sc_L_law_X7_ask) wd_603 wd_604 wd_605 (ci := 7) (q0 := (RX7, TX7, 10)) rfl (by decide) rfl f818 rfl rfl (ym_st4 (Nat.le_of_ble_eq_true rfl)) rfl ?_
      refine ym_aload_n (pc := 821) 2 dL_law_821 rfl rfl ?_
      refine ym_aload_n (pc := 822) 0 dL_law_822 rfl rfl ?_
      refine ym_iload_n (pc := 823) 3 dL_law_823 rfl rfl ?_
      refine ym_iconst (pc := 824) (v := 1) dL_law_824 (by decide) ?_
      refine ym_iadd (pc := 825) dL_law_825 ?_
      obtain ⟨v826, e826, hf⟩ := Option.bind_eq_some_iff.mp hf
      refine ym_iald (pc := 826) dL_law_826 rfl (ym_ldI_v e826) ?_
      obtain ⟨o827, f827, hf⟩ := Option.bind_eq_some_iff.mp hf
      obtain ⟨q827, e827, hf⟩ := Option.bind_eq_some_iff.mp hf
      refine ym_callV (pc := 827) (G2 := g_X8_ask) (dep2 := 19) (As := [.int v826]) (st := [.long q818.1]) (stk2 := [.long q827.1, .long q818.1]) (r2 := (some (.long q827.1))) (h1 := q827.2) dL_law_827 (ok_X8_ask e827) (sc_L_law_X8_ask) wd_1305 wd_1306 wd_1307 (ci := 8) (q0 := (RX8, TX8, 58)) rfl (by decide) rfl f827 rfl rfl (ym_st4 (Nat.le_of_ble_eq_true rfl)) rfl ?_
      by_cases c830 : q818.1 = q827.1
      · rw [if_pos c830] at hf
        refine ym_lcmp_eq_y (pc := 830) (tgt := 1685) dL_law_830 dL_law_831 (by decide) c830 ?_
        exact ym_sub [0, 1, 2, 3] rfl (ob_L_law_1685_18 hKl hf k)
      · rw [if_neg c830] at hf
        refine ym_lcmp_eq_n (pc := 830) (tgt := 1685) dL_law_830 dL_law_831 (by decide) c830 ?_
        refine ym_iconst (pc := 834) (v := 0) dL_law_834 (by decide) ?_
        cases hf
        obtain ⟨rfl, rfl⟩ := k
        exact ym_zret (pc := 835) dL_law_835 rfl rfl
    rw [if_neg c33_10] at hf
    by_cases c33_11 : (v29 &&& 63) = 11
    · rw [if_pos c33_11] at hf
      refine ym_swIn (pc := 33) (off := 803) (tgt := 836) dL_law_33 (by rw [c33_11]; decide) (by rw [c33_11]; decide) (by rw [c33_11]; decide) (by decide) ?_
      refine ym_aload_n (pc := 836) 1 dL_law_836 rfl rfl ?_
      refine ym_aload_n (pc := 837) 0 dL_law_837 rfl rfl ?_
      refine ym_iload_n (pc := 838) 3 dL_law_838 rfl rfl ?_
      refine ym_iconst (pc := 839) (v := 1) dL_law_839 (by decide) ?_
      refine ym_iadd (pc := 840) dL_law_840 ?_
      obtain ⟨v841, e841, hf⟩ := Option.bind_eq_some_iff.mp hf
      refine ym_iald (pc := 841) dL_law_841 rfl (ym_ldI_v e841) ?_
      obtain ⟨o842, f842, hf⟩ := Option.bind_eq_some_iff.mp hf
      obtain ⟨q842, e842, hf⟩ := Option.bind_eq_some_iff.mp hf
      refine ym_callV (pc := 842) (G2 := g_X7_open) (dep2 := 6) (As := [.int v841]) (st := []) (stk2 := [.long q842.1]) (r2 := (some (.long q842.1))) (h1 := q842.2) dL_law_842 (ok_X7_open e842) (sc_L_law_X7_open) wd_607 wd_608 wd_609 (ci := 7) (q0 := (RX7, TX7, 10)) rfl (by decide) rfl f842 rfl rfl (ym_st4 (Nat.le_of_ble_eq_true rfl)) rfl ?_
      refine ym_aload_n (pc := 845) 2 dL_law_845 rfl rfl ?_
      refine ym_aload_n (pc := 846) 0 dL_law_846 rfl rfl ?_
      refine ym_iload_n (pc := 847) 3 dL_law_847 rfl rfl ?_
      refine ym_iconst (pc := 848) (v := 1) dL_law_848 (by decide) ?_
      refine ym_iadd (pc := 849) dL_law_849 ?_
      obtain ⟨v850, e850, hf⟩ := Option.bind_eq_some_iff.mp hf
      refine ym_iald (pc := 850) dL_law_850 rfl (ym_ldI_v e850) ?_
      obtain ⟨o851, f851, hf⟩ := Option.bind_eq_some_iff.mp hf
      obtain ⟨q851, e851, hf⟩ := Option.bind_eq_some_iff.mp hf
      refine ym_callV (pc := 851) (G2 := g_X8_open) (dep2 := 19) (As := [.int v850]) (st := [.long q842.1]) (stk2 := [.long q851.1, .long q842.1]) (r2 := (some (.long q851.1))) (h1 := q851.2) dL_law_851 (ok_X8_open e851) (sc_L_law_X8_open) wd_1309 wd_1310 wd_1311 (ci := 8) (q0 := (RX8, TX8, 58)) rfl (by decide) rfl f851 rfl rfl (ym_st4 (Nat.le_of_ble_eq_true rfl)) rfl ?_
      by_cases c854 : q842.1 = q851.1
      · rw [if_pos c854] at hf
        refine ym_lcmp_eq_y (pc := 854) (tgt := 1685) dL_law_854 dL_law_855 (by decide) c854 ?_
        exact ym_sub [0, 1, 2, 3] rfl (ob_L_law_1685_18 hKl hf k)
      · rw [if_neg c854] at hf
        refine ym_lcmp_eq_n (pc := 854) (tgt := 1685) dL_law_854 dL_law_855 (by decide) c854 ?_
        refine ym_iconst (pc := 858) (v := 0) dL_law_858 (by decide) ?_
        cases hf
        obtain ⟨rfl, rfl⟩ := k
        exact ym_zret (pc := 859) dL_law_859 rfl rfl
    rw [if_neg c33_11] at hf
    by_cases c33_12 : (v29 &&& 63) = 12
    · rw [if_pos c33_12] at hf
      refine ym_swIn (pc := 33) (off := 827) (tgt := 860) dL_law_33 (by rw [c33_12]; decide) (by rw [c33_12]; decide) (by rw [c33_12]; decide) (by decide) ?_
      refine ym_aload_n (pc := 860) 1 dL_law_860 rfl rfl ?_
      refine ym_aload_n (pc := 861) 0 dL_law_861 rfl rfl ?_
      refine ym_iload_n (pc := 862) 3 dL_law_862 rfl rfl ?_
      refine ym_iconst (pc := 863) (v := 1) dL_law_863 (by decide) ?_
      refine ym_iadd (pc := 864) dL_law_864 ?_
      obtain ⟨v865, e865, hf⟩ := Option.bind_eq_some_iff.mp hf
      refine ym_iald (pc := 865) dL_law_865 rfl (ym_ldI_v e865) ?_
      refine ym_aload_n (pc := 866) 0 dL_law_866 rfl rfl ?_
      refine ym_iload_n (pc := 867) 3 dL_law_867 rfl rfl ?_
      refine ym_iconst (pc := 868) (v := 2) dL_law_868 (by decide) ?_
      refine ym_iadd (pc := 869) dL_law_869 ?_
      obtain ⟨v870, e870, hf⟩ := Option.bind_eq_some_iff.mp hf
      refine ym_iald (pc := 870) dL_law_870 rfl (ym_ldI_v e870) ?_
      refine ym_i2l (pc := 871) dL_law_871 ?_
      refine ym_bipush (pc := 872) (v := 32) dL_law_872 (by decide) ?_
      refine ym_lshl (pc := 874) dL_law_874 ?_
      refine ym_aload_n (pc := 875) 0 dL_law_875 rfl rfl ?_
      refine ym_iload_n (pc := 876) 3 dL_law_876 rfl rfl ?_
      refine ym_iconst (pc := 877) (v := 3) dL_law_877 (by decide) ?_
      refine ym_iadd (pc := 878) dL_law_878 ?_
      obtain ⟨v879, e879, hf⟩ := Option.bind_eq_some_iff.mp hf
      refine ym_iald (pc := 879) dL_law_879 rfl (ym_ldI_v e879) ?_
      refine ym_i2l (pc := 880) dL_law_880 ?_
      refine ym_ldc2 (pc := 881) dL_law_881 wd_1439 ?_
      refine ym_land (pc := 884) dL_law_884 ?_
      refine ym_lor (pc := 885) dL_law_885 ?_
      obtain ⟨o886, f886, hf⟩ := Option.bind_eq_some_iff.mp hf
      obtain ⟨q886, e886, hf⟩ := Option.bind_eq_some_iff.mp hf
      refine ym_callV (pc := 886) (G2 := g_X7_tick) (dep2 := 5) (As := [.int v865, .long (((Int32.toInt64 v870) <<< (Int32.toInt64 32 &&& 63)) ||| ((Int32.toInt64 v879) &&& 4294967295))]) (st := []) (stk2 := [.long q886.1]) (r2 := (some (.long q886.1))) (h1 := q886.2) dL_law_886 (ok_X7_tick e886) (sc_L_law_X7_tick) wd_616 wd_617 wd_618 (ci := 7) (q0 := (RX7, TX7, 10)) rfl (by decide) rfl f886 rfl rfl (ym_st4 (Nat.le_of_ble_eq_true rfl)) rfl ?_
      refine ym_aload_n (pc := 889) 2 dL_law_889 rfl rfl ?_
      refine ym_aload_n (pc := 890) 0 dL_law_890 rfl rfl ?_
      refine ym_iload_n (pc := 891) 3 dL_law_891 rfl rfl ?_
      refine ym_iconst (pc := 892) (v := 1) dL_law_892 (by decide) ?_
      refine ym_iadd (pc := 893) dL_law_893 ?_
      obtain ⟨v894, e894, hf⟩ := Option.bind_eq_some_iff.mp hf
      refine ym_iald (pc := 894) dL_law_894 rfl (ym_ldI_v e894) ?_
      refine ym_aload_n (pc := 895) 0 dL_law_895 rfl rfl ?_
      refine ym_iload_n (pc := 896) 3 dL_law_896 rfl rfl ?_
      refine ym_iconst (pc := 897) (v := 2) dL_law_897 (by decide) ?_
      refine ym_iadd (pc := 898) dL_law_898 ?_
      obtain ⟨v899, e899, hf⟩ := Option.bind_eq_some_iff.mp hf
      refine ym_iald (pc := 899) dL_law_899 rfl (ym_ldI_v e899) ?_
      refine ym_i2l (pc := 900) dL_law_900 ?_
      refine ym_bipush (pc := 901) (v := 32) dL_law_901 (by decide) ?_
      refine ym_lshl (pc := 903) dL_law_903 ?_
      refine ym_aload_n (pc := 904) 0 dL_law_904 rfl rfl ?_
      refine ym_iload_n (pc := 905) 3 dL_law_905 rfl rfl ?_
      refine ym_iconst (pc := 906) (v := 3) dL_law_906 (by decide) ?_
      refine ym_iadd (pc := 907) dL_law_907 ?_
      obtain ⟨v908, e908, hf⟩ := Option.bind_eq_some_iff.mp hf
      refine ym_iald (pc := 908) dL_law_908 rfl (ym_ldI_v e908) ?_
      refine ym_i2l (pc := 909) dL_law_909 ?_
      refine ym_ldc2 (pc := 910) dL_law_910 wd_1439 ?_
      refine ym_land (pc := 913) dL_law_913 ?_
      refine ym_lor (pc := 914) dL_law_914 ?_
      obtain ⟨o915, f915, hf⟩ := Option.bind_eq_some_iff.mp hf
      obtain ⟨q915, e915, hf⟩ := Option.bind_eq_some_iff.mp hf
      refine ym_callV (pc := 915) (G2 := g_X8_tick) (dep2 := 19) (As := [.int v894, .long (((Int32.toInt64 v899) <<< (Int32.toInt64 32 &&& 63)) ||| ((Int32.toInt64 v908) &&& 4294967295))]) (st := [.long q886.1]) (stk2 := [.long q915.1, .long q886.1]) (r2 := (some (.long q915.1))) (h1 := q915.2) dL_law_915 (ok_X8_tick e915) (sc_L_law_X8_tick) wd_1313 wd_1314 wd_1315 (ci := 8) (q0 := (RX8, TX8, 58)) rfl (by decide) rfl f915 rfl rfl (ym_st4 (Nat.le_of_ble_eq_true rfl)) rfl ?_
      by_cases c918 : q886.1 = q915.1
      · rw [if_pos c918] at hf
        refine ym_lcmp_eq_y (pc := 918) (tgt := 1685) dL_law_918 dL_law_919 (by decide) c918 ?_
        exact ym_sub [0, 1, 2, 3] rfl (ob_L_law_1685_18 hKl hf k)
      · rw [if_neg c918] at hf
        refine ym_lcmp_eq_n (pc := 918) (tgt := 1685) dL_law_918 dL_law_919 (by decide) c918 ?_
        refine ym_iconst (pc := 922) (v := 0) dL_law_922 (by decide) ?_
        cases hf
        obtain ⟨rfl, rfl⟩ := k
        exact ym_zret (pc := 923) dL_law_923 rfl rfl
    rw [if_neg c33_12] at hf
    by_cases c33_13 : (v29 &&& 63) = 13
    · rw [if_pos c33_13] at hf
      refine ym_swIn (pc := 33) (off := 891) (tgt := 924) dL_law_33 (by rw [c33_13]; decide) (by rw [c33_13]; decide) (by rw [c33_13]; decide) (by decide) ?_
      refine ym_aload_n (pc := 924) 1 dL_law_924 rfl rfl ?_
      refine ym_aload_n (pc := 925) 0 dL_law_925 rfl rfl ?_
      refine ym_iload_n (pc := 926) 3 dL_law_926 rfl rfl ?_
      refine ym_iconst (pc := 927) (v := 1) dL_law_927 (by decide) ?_
      refine ym_iadd (pc := 928) dL_law_928 ?_
      obtain ⟨v929, e929, hf⟩ := Option.bind_eq_some_iff.mp hf
      refine ym_iald (pc := 929) dL_law_929 rfl (ym_ldI_v e929) ?_
      refine ym_aload_n (pc := 930) 0 dL_law_930 rfl rfl ?_
      refine ym_iload_n (pc := 931) 3 dL_law_931 rfl rfl ?_
      refine ym_iconst (pc := 932) (v := 2) dL_law_932 (by decide) ?_
      refine ym_iadd (pc := 933) dL_law_933 ?_
      obtain ⟨v934, e934, hf⟩ := Option.bind_eq_some_iff.mp hf
      refine ym_iald (pc := 934) dL_law_934 rfl (ym_ldI_v e934) ?_
      obtain ⟨o935, f935, hf⟩ := Option.bind_eq_some_iff.mp hf
      obtain ⟨q935, e935, hf⟩ := Option.bind_eq_some_iff.mp hf
      refine ym_callV (pc := 935) (G2 := g_X7_take) (dep2 := 7) (As := [.int v929, .int v934]) (st := []) (stk2 := [.long q935.1]) (r2 := (some (.long q935.1))) (h1 := q935.2) dL_law_935 (ok_X7_take e935) (sc_L_law_X7_take) wd_620 wd_621 wd_622 (ci := 7) (q0 := (RX7, TX7, 10)) rfl (by decide) rfl f935 rfl rfl (ym_st4 (Nat.le_of_ble_eq_true rfl)) rfl ?_
      refine ym_aload_n (pc := 938) 2 dL_law_938 rfl rfl ?_
      refine ym_aload_n (pc := 939) 0 dL_law_939 rfl rfl ?_
      refine ym_iload_n (pc := 940) 3 dL_law_940 rfl rfl ?_
      refine ym_iconst (pc := 941) (v := 1) dL_law_941 (by decide) ?_
      refine ym_iadd (pc := 942) dL_law_942 ?_
      obtain ⟨v943, e943, hf⟩ := Option.bind_eq_some_iff.mp hf
      refine ym_iald (pc := 943) dL_law_943 rfl (ym_ldI_v e943) ?_
      refine ym_aload_n (pc := 944) 0 dL_law_944 rfl rfl ?_
      refine ym_iload_n (pc := 945) 3 dL_law_945 rfl rfl ?_
      refine ym_iconst (pc := 946) (v := 2) dL_law_946 (by decide) ?_
      refine ym_iadd (pc := 947) dL_law_947 ?_
      obtain ⟨v948, e948, hf⟩ := Option.bind_eq_some_iff.mp hf
      refine ym_iald (pc := 948) dL_law_948 rfl (ym_ldI_v e948) ?_
      obtain ⟨o949, f949, hf⟩ := Option.bind_eq_some_iff.mp hf
      obtain ⟨q949, e949, hf⟩ := Option.bind_eq_some_iff.mp hf
      refine ym_callV (pc := 949) (G2 := g_X8_take) (dep2 := 19) (As := [.int v943, .int v948]) (st := [.long q935.1]) (stk2 := [.long q949.1, .long q935.1]) (r2 := (some (.long q949.1))) (h1 := q949.2) dL_law_949 (ok_X8_take e949) (sc_L_law_X8_take) wd_1317 wd_1318 wd_1319 (ci := 8) (q0 := (RX8, TX8, 58)) rfl (by decide) rfl f949 rfl rfl (ym_st4 (Nat.le_of_ble_eq_true rfl)) rfl ?_
      by_cases c952 : q935.1 = q949.1
      · rw [if_pos c952] at hf
        refine ym_lcmp_eq_y (pc := 952) (tgt := 1685) dL_law_952 dL_law_953 (by decide) c952 ?_
        exact ym_sub [0, 1, 2, 3] rfl (ob_L_law_1685_18 hKl hf k)
      · rw [if_neg c952] at hf
        refine ym_lcmp_eq_n (pc := 952) (tgt := 1685) dL_law_952 dL_law_953 (by decide) c952 ?_
        refine ym_iconst (pc := 956) (v := 0) dL_law_956 (by decide) ?_
        cases hf
        obtain ⟨rfl, rfl⟩ := k
        exact ym_zret (pc := 957) dL_law_957 rfl rfl
    rw [if_neg c33_13] at hf
    by_cases c33_14 : (v29 &&& 63) = 14
    · rw [if_pos c33_14] at hf
      refine ym_swIn (pc := 33) (off := 925) (tgt := 958) dL_law_33 (by rw [c33_14]; decide) (by rw [c33_14]; decide) (by rw [c33_14]; decide) (by decide) ?_
      refine ym_aload_n (pc := 958) 1 dL_law_958 rfl rfl ?_
      refine ym_aload_n (pc := 959) 0 dL_law_959 rfl rfl ?_
      refine ym_iload_n (pc := 960) 3 dL_law_960 rfl rfl ?_
      refine ym_iconst (pc := 961) (v := 1) dL_law_961 (by decide) ?_
      refine ym_iadd (pc := 962) dL_law_962 ?_
      obtain ⟨v963, e963, hf⟩ := Option.bind_eq_some_iff.mp hf
      refine ym_iald (pc := 963) dL_law_963 rfl (ym_ldI_v e963) ?_
      refine ym_aload_n (pc := 964) 0 dL_law_964 rfl rfl ?_
      refine ym_iload_n (pc := 965) 3 dL_law_965 rfl rfl ?_
      refine ym_iconst (pc := 966) (v := 2) dL_law_966 (by decide) ?_
      refine ym_iadd (pc := 967) dL_law_967 ?_
      obtain ⟨v968, e968, hf⟩ := Option.bind_eq_some_iff.mp hf
      refine ym_iald (pc := 968) dL_law_968 rfl (ym_ldI_v e968) ?_
      obtain ⟨o969, f969, hf⟩ := Option.bind_eq_some_iff.mp hf
      obtain ⟨q969, e969, hf⟩ := Option.bind_eq_some_iff.mp hf
      refine ym_callV (pc := 969) (G2 := g_X7_bidderAt) (dep2 := 6) (As := [.int v963, .int v968]) (st := []) (stk2 := [.long q969.1]) (r2 := (some (.long q969.1))) (h1 := q969.2) dL_law_969 (ok_X7_bidderAt e969) (sc_L_law_X7_bidderAt) wd_624 wd_625 wd_626 (ci := 7) (q0 := (RX7, TX7, 10)) rfl (by decide) rfl f969 rfl rfl (ym_st4 (Nat.le_of_ble_eq_true rfl)) rfl ?_
      refine ym_aload_n (pc := 972) 2 dL_law_972 rfl rfl ?_
      refine ym_aload_n (pc := 973) 0 dL_law_973 rfl rfl ?_
      refine ym_iload_n (pc := 974) 3 dL_law_974 rfl rfl ?_
      refine ym_iconst (pc := 975) (v := 1) dL_law_975 (by decide) ?_
      refine ym_iadd (pc := 976) dL_law_976 ?_
      obtain ⟨v977, e977, hf⟩ := Option.bind_eq_some_iff.mp hf
      refine ym_iald (pc := 977) dL_law_977 rfl (ym_ldI_v e977) ?_
      refine ym_aload_n (pc := 978) 0 dL_law_978 rfl rfl ?_
      refine ym_iload_n (pc := 979) 3 dL_law_979 rfl rfl ?_
      refine ym_iconst (pc := 980) (v := 2) dL_law_980 (by decide) ?_
      refine ym_iadd (pc := 981) dL_law_981 ?_
      obtain ⟨v982, e982, hf⟩ := Option.bind_eq_some_iff.mp hf
      refine ym_iald (pc := 982) dL_law_982 rfl (ym_ldI_v e982) ?_
      obtain ⟨o983, f983, hf⟩ := Option.bind_eq_some_iff.mp hf
      obtain ⟨q983, e983, hf⟩ := Option.bind_eq_some_iff.mp hf
      refine ym_callV (pc := 983) (G2 := g_X8_bidderAt) (dep2 := 19) (As := [.int v977, .int v982]) (st := [.long q969.1]) (stk2 := [.long q983.1, .long q969.1]) (r2 := (some (.long q983.1))) (h1 := q983.2) dL_law_983 (ok_X8_bidderAt e983) (sc_L_law_X8_bidderAt) wd_1321 wd_1322 wd_1323 (ci := 8) (q0 := (RX8, TX8, 58)) rfl (by decide) rfl f983 rfl rfl (ym_st4 (Nat.le_of_ble_eq_true rfl)) rfl ?_
      by_cases c986 : q969.1 = q983.1
      · rw [if_pos c986] at hf
        refine ym_lcmp_eq_y (pc := 986) (tgt := 1685) dL_law_986 dL_law_987 (by decide) c986 ?_
        exact ym_sub [0, 1, 2, 3] rfl (ob_L_law_1685_18 hKl hf k)
      · rw [if_neg c986] at hf
        refine ym_lcmp_eq_n (pc := 986) (tgt := 1685) dL_law_986 dL_law_987 (by decide) c986 ?_
        refine ym_iconst (pc := 990) (v := 0) dL_law_990 (by decide) ?_
        cases hf
        obtain ⟨rfl, rfl⟩ := k
        exact ym_zret (pc := 991) dL_law_991 rfl rfl
    rw [if_neg c33_14] at hf
    by_cases c33_15 : (v29 &&& 63) = 15
    · rw [if_pos c33_15] at hf
      refine ym_swIn (pc := 33) (off := 959) (tgt := 992) dL_law_33 (by rw [c33_15]; decide) (by rw [c33_15]; decide) (by rw [c33_15]; decide) (by decide) ?_
      refine ym_aload_n (pc := 992) 1 dL_law_992 rfl rfl ?_
      refine ym_aload_n (pc := 993) 0 dL_law_993 rfl rfl ?_
      refine ym_iload_n (pc := 994) 3 dL_law_994 rfl rfl ?_
      refine ym_iconst (pc := 995) (v := 1) dL_law_995 (by decide) ?_
      refine ym_iadd (pc := 996) dL_law_996 ?_
      obtain ⟨v997, e997, hf⟩ := Option.bind_eq_some_iff.mp hf
      refine ym_iald (pc := 997) dL_law_997 rfl (ym_ldI_v e997) ?_
      refine ym_aload_n (pc := 998) 0 dL_law_998 rfl rfl ?_
      refine ym_iload_n (pc := 999) 3 dL_law_999 rfl rfl ?_
      refine ym_iconst (pc := 1000) (v := 2) dL_law_1000 (by decide) ?_
      refine ym_iadd (pc := 1001) dL_law_1001 ?_
      obtain ⟨v1002, e1002, hf⟩ := Option.bind_eq_some_iff.mp hf
      refine ym_iald (pc := 1002) dL_law_1002 rfl (ym_ldI_v e1002) ?_
      obtain ⟨o1003, f1003, hf⟩ := Option.bind_eq_some_iff.mp hf
      obtain ⟨q1003, e1003, hf⟩ := Option.bind_eq_some_iff.mp hf
      refine ym_callV (pc := 1003) (G2 := g_X7_sumAt) (dep2 := 6) (As := [.int v997, .int v1002]) (st := []) (stk2 := [.long q1003.1]) (r2 := (some (.long q1003.1))) (h1 := q1003.2) dL_law_1003 (ok_X7_sumAt e1003) (sc_L_law_X7_sumAt) wd_633 wd_634 wd_635 (ci := 7) (q0 := (RX7, TX7, 10)) rfl (by decide) rfl f1003 rfl rfl (ym_st4 (Nat.le_of_ble_eq_true rfl)) rfl ?_
      refine ym_aload_n (pc := 1006) 2 dL_law_1006 rfl rfl ?_
      refine ym_aload_n (pc := 1007) 0 dL_law_1007 rfl rfl ?_
      refine ym_iload_n (pc := 1008) 3 dL_law_1008 rfl rfl ?_
      refine ym_iconst (pc := 1009) (v := 1) dL_law_1009 (by decide) ?_
      refine ym_iadd (pc := 1010) dL_law_1010 ?_
      obtain ⟨v1011, e1011, hf⟩ := Option.bind_eq_some_iff.mp hf
      refine ym_iald (pc := 1011) dL_law_1011 rfl (ym_ldI_v e1011) ?_
      refine ym_aload_n (pc := 1012) 0 dL_law_1012 rfl rfl ?_
      refine ym_iload_n (pc := 1013) 3 dL_law_1013 rfl rfl ?_
      refine ym_iconst (pc := 1014) (v := 2) dL_law_1014 (by decide) ?_
      refine ym_iadd (pc := 1015) dL_law_1015 ?_
      obtain ⟨v1016, e1016, hf⟩ := Option.bind_eq_some_iff.mp hf
      refine ym_iald (pc := 1016) dL_law_1016 rfl (ym_ldI_v e1016) ?_
      obtain ⟨o1017, f1017, hf⟩ := Option.bind_eq_some_iff.mp hf
      obtain ⟨q1017, e1017, hf⟩ := Option.bind_eq_some_iff.mp hf
      refine ym_callV (pc := 1017) (G2 := g_X8_sumAt) (dep2 := 19) (As := [.int v1011, .int v1016]) (st := [.long q1003.1]) (stk2 := [.long q1017.1, .long q1003.1]) (r2 := (some (.long q1017.1))) (h1 := q1017.2) dL_law_1017 (ok_X8_sumAt e1017) (sc_L_law_X8_sumAt) wd_1325 wd_1326 wd_1327 (ci := 8) (q0 := (RX8, TX8, 58)) rfl (by decide) rfl f1017 rfl rfl (ym_st4 (Nat.le_of_ble_eq_true rfl)) rfl ?_
      by_cases c1020 : q1003.1 = q1017.1
      · rw [if_pos c1020] at hf
        refine ym_lcmp_eq_y (pc := 1020) (tgt := 1685) dL_law_1020 dL_law_1021 (by decide) c1020 ?_
        exact ym_sub [0, 1, 2, 3] rfl (ob_L_law_1685_18 hKl hf k)
      · rw [if_neg c1020] at hf
        refine ym_lcmp_eq_n (pc := 1020) (tgt := 1685) dL_law_1020 dL_law_1021 (by decide) c1020 ?_
        refine ym_iconst (pc := 1024) (v := 0) dL_law_1024 (by decide) ?_
        cases hf
        obtain ⟨rfl, rfl⟩ := k
        exact ym_zret (pc := 1025) dL_law_1025 rfl rfl
    rw [if_neg c33_15] at hf
    by_cases c33_16 : (v29 &&& 63) = 16
    · rw [if_pos c33_16] at hf
      refine ym_swIn (pc := 33) (off := 993) (tgt := 1026) dL_law_33 (by rw [c33_16]; decide) (by rw [c33_16]; decide) (by rw [c33_16]; decide) (by decide) ?_
      refine ym_aload_n (pc := 1026) 1 dL_law_1026 rfl rfl ?_
      refine ym_aload_n (pc := 1027) 0 dL_law_1027 rfl rfl ?_
      refine ym_iload_n (pc := 1028) 3 dL_law_1028 rfl rfl ?_
      refine ym_iconst (pc := 1029) (v := 1) dL_law_1029 (by decide) ?_
      refine ym_iadd (pc := 1030) dL_law_1030 ?_
      obtain ⟨v1031, e1031, hf⟩ := Option.bind_eq_some_iff.mp hf
      refine ym_iald (pc := 1031) dL_law_1031 rfl (ym_ldI_v e1031) ?_
      obtain ⟨o1032, f1032, hf⟩ := Option.bind_eq_some_iff.mp hf
      obtain ⟨q1032, e1032, hf⟩ := Option.bind_eq_some_iff.mp hf
      refine ym_callV (pc := 1032) (G2 := g_X7_hammer) (dep2 := 9) (As := [.int v1031]) (st := []) (stk2 := [.long q1032.1]) (r2 := (some (.long q1032.1))) (h1 := q1032.2) dL_law_1032 (ok_X7_hammer e1032) (sc_L_law_X7_hammer) wd_637 wd_638 wd_639 (ci := 7) (q0 := (RX7, TX7, 10)) rfl (by decide) rfl f1032 rfl rfl (ym_st4 (Nat.le_of_ble_eq_true rfl)) rfl ?_
      refine ym_aload_n (pc := 1035) 2 dL_law_1035 rfl rfl ?_
      refine ym_aload_n (pc := 1036) 0 dL_law_1036 rfl rfl ?_
      refine ym_iload_n (pc := 1037) 3 dL_law_1037 rfl rfl ?_
      refine ym_iconst (pc := 1038) (v := 1) dL_law_1038 (by decide) ?_
      refine ym_iadd (pc := 1039) dL_law_1039 ?_
      obtain ⟨v1040, e1040, hf⟩ := Option.bind_eq_some_iff.mp hf
      refine ym_iald (pc := 1040) dL_law_1040 rfl (ym_ldI_v e1040) ?_
      obtain ⟨o1041, f1041, hf⟩ := Option.bind_eq_some_iff.mp hf
      obtain ⟨q1041, e1041, hf⟩ := Option.bind_eq_some_iff.mp hf
      refine ym_callV (pc := 1041) (G2 := g_X8_hammer) (dep2 := 19) (As := [.int v1040]) (st := [.long q1032.1]) (stk2 := [.long q1041.1, .long q1032.1]) (r2 := (some (.long q1041.1))) (h1 := q1041.2) dL_law_1041 (ok_X8_hammer e1041) (sc_L_law_X8_hammer) wd_1329 wd_1330 wd_1331 (ci := 8) (q0 := (RX8, TX8, 58)) rfl (by decide) rfl f1041 rfl rfl (ym_st4 (Nat.le_of_ble_eq_true rfl)) rfl ?_
      by_cases c1044 : q1032.1 = q1041.1
      · rw [if_pos c1044] at hf
        refine ym_lcmp_eq_y (pc := 1044) (tgt := 1685) dL_law_1044 dL_law_1045 (by decide) c1044 ?_
        exact ym_sub [0, 1, 2, 3] rfl (ob_L_law_1685_18 hKl hf k)
      · rw [if_neg c1044] at hf
        refine ym_lcmp_eq_n (pc := 1044) (tgt := 1685) dL_law_1044 dL_law_1045 (by decide) c1044 ?_
        refine ym_iconst (pc := 1048) (v := 0) dL_law_1048 (by decide) ?_
        cases hf
        obtain ⟨rfl, rfl⟩ := k
        exact ym_zret (pc := 1049) dL_law_1049 rfl rfl
    rw [if_neg c33_16] at hf
    by_cases c33_17 : (v29 &&& 63) = 17
    · rw [if_pos c33_17] at hf
      refine ym_swIn (pc := 33) (off := 1017) (tgt := 1050) dL_law_33 (by rw [c33_17]; decide) (by rw [c33_17]; decide) (by rw [c33_17]; decide) (by decide) ?_
      refine ym_aload_n (pc := 1050) 1 dL_law_1050 rfl rfl ?_
      refine ym_aload_n (pc := 1051) 0 dL_law_1051 rfl rfl ?_
      refine ym_iload_n (pc := 1052) 3 dL_law_1052 rfl rfl ?_
      refine ym_iconst (pc := 1053) (v := 1) dL_law_1053 (by decide) ?_
      refine ym_iadd (pc := 1054) dL_law_1054 ?_
      obtain ⟨v1055, e1055, hf⟩ := Option.bind_eq_some_iff.mp hf
      refine ym_iald (pc := 1055) dL_law_1055 rfl (ym_ldI_v e1055) ?_
      refine ym_aload_n (pc := 1056) 0 dL_law_1056 rfl rfl ?_
      refine ym_iload_n (pc := 1057) 3 dL_law_1057 rfl rfl ?_
      refine ym_iconst (pc := 1058) (v := 2) dL_law_1058 (by decide) ?_
      refine ym_iadd (pc := 1059) dL_law_1059 ?_
      obtain ⟨v1060, e1060, hf⟩ := Option.bind_eq_some_iff.mp hf
      refine ym_iald (pc := 1060) dL_law_1060 rfl (ym_ldI_v e1060) ?_
      refine ym_aload_n (pc := 1061) 0 dL_law_1061 rfl rfl ?_
      refine ym_iload_n (pc := 1062) 3 dL_law_1062 rfl rfl ?_
      refine ym_iconst (pc := 1063) (v := 3) dL_law_1063 (by decide) ?_
      refine ym_iadd (pc := 1064) dL_law_1064 ?_
      obtain ⟨v1065, e1065, hf⟩ := Option.bind_eq_some_iff.mp hf
      refine ym_iald (pc := 1065) dL_law_1065 rfl (ym_ldI_v e1065) ?_
      obtain ⟨o1066, f1066, hf⟩ := Option.bind_eq_some_iff.mp hf
      obtain ⟨q1066, e1066, hf⟩ := Option.bind_eq_some_iff.mp hf
      refine ym_callV (pc := 1066) (G2 := g_X7_join) (dep2 := 5) (As := [.int v1055, .int v1060, .int v1065]) (st := []) (stk2 := [.long q1066.1]) (r2 := (some (.long q1066.1))) (h1 := q1066.2) dL_law_1066 (ok_X7_join e1066) (sc_L_law_X7_join) wd_686 wd_687 wd_688 (ci := 7) (q0 := (RX7, TX7, 10)) rfl (by decide) rfl f1066 rfl rfl (ym_st4 (Nat.le_of_ble_eq_true rfl)) rfl ?_
      refine ym_aload_n (pc := 1069) 2 dL_law_1069 rfl rfl ?_
      refine ym_aload_n (pc := 1070) 0 dL_law_1070 rfl rfl ?_
      refine ym_iload_n (pc := 1071) 3 dL_law_1071 rfl rfl ?_
      refine ym_iconst (pc := 1072) (v := 1) dL_law_1072 (by decide) ?_
      refine ym_iadd (pc := 1073) dL_law_1073 ?_
      obtain ⟨v1074, e1074, hf⟩ := Option.bind_eq_some_iff.mp hf
      refine ym_iald (pc := 1074) dL_law_1074 rfl (ym_ldI_v e1074) ?_
      refine ym_aload_n (pc := 1075) 0 dL_law_1075 rfl rfl ?_
      refine ym_iload_n (pc := 1076) 3 dL_law_1076 rfl rfl ?_
      refine ym_iconst (pc := 1077) (v := 2) dL_law_1077 (by decide) ?_
      refine ym_iadd (pc := 1078) dL_law_1078 ?_
      obtain ⟨v1079, e1079, hf⟩ := Option.bind_eq_some_iff.mp hf
      refine ym_iald (pc := 1079) dL_law_1079 rfl (ym_ldI_v e1079) ?_
      refine ym_aload_n (pc := 1080) 0 dL_law_1080 rfl rfl ?_
      refine ym_iload_n (pc := 1081) 3 dL_law_1081 rfl rfl ?_
      refine ym_iconst (pc := 1082) (v := 3) dL_law_1082 (by decide) ?_
      refine ym_iadd (pc := 1083) dL_law_1083 ?_
      obtain ⟨v1084, e1084, hf⟩ := Option.bind_eq_some_iff.mp hf
      refine ym_iald (pc := 1084) dL_law_1084 rfl (ym_ldI_v e1084) ?_
      obtain ⟨o1085, f1085, hf⟩ := Option.bind_eq_some_iff.mp hf
      obtain ⟨q1085, e1085, hf⟩ := Option.bind_eq_some_iff.mp hf
      refine ym_callV (pc := 1085) (G2 := g_X8_join) (dep2 := 19) (As := [.int v1074, .int v1079, .int v1084]) (st := [.long q1066.1]) (stk2 := [.long q1085.1, .long q1066.1]) (r2 := (some (.long q1085.1))) (h1 := q1085.2) dL_law_1085 (ok_X8_join e1085) (sc_L_law_X8_join) wd_1333 wd_1334 wd_1335 (ci := 8) (q0 := (RX8, TX8, 58)) rfl (by decide) rfl f1085 rfl rfl (ym_st4 (Nat.le_of_ble_eq_true rfl)) rfl ?_
      by_cases c1088 : q1066.1 = q1085.1
      · rw [if_pos c1088] at hf
        refine ym_lcmp_eq_y (pc := 1088) (tgt := 1685) dL_law_1088 dL_law_1089 (by decide) c1088 ?_
        exact ym_sub [0, 1, 2, 3] rfl (ob_L_law_1685_18 hKl hf k)
      · rw [if_neg c1088] at hf
        refine ym_lcmp_eq_n (pc := 1088) (tgt := 1685) dL_law_1088 dL_law_1089 (by decide) c1088 ?_
        refine ym_iconst (pc := 1092) (v := 0) dL_law_1092 (by decide) ?_
        cases hf
        obtain ⟨rfl, rfl⟩ := k
        exact ym_zret (pc := 1093) dL_law_1093 rfl rfl
    rw [if_neg c33_17] at hf
    by_cases c33_18 : (v29 &&& 63) = 18
    · rw [if_pos c33_18] at hf
      refine ym_swIn (pc := 33) (off := 1061) (tgt := 1094) dL_law_33 (by rw [c33_18]; decide) (by rw [c33_18]; decide) (by rw [c33_18]; decide) (by decide) ?_
      refine ym_aload_n (pc := 1094) 1 dL_law_1094 rfl rfl ?_
      refine ym_aload_n (pc := 1095) 0 dL_law_1095 rfl rfl ?_
      refine ym_iload_n (pc := 1096) 3 dL_law_1096 rfl rfl ?_
      refine ym_iconst (pc := 1097) (v := 1) dL_law_1097 (by decide) ?_
      refine ym_iadd (pc := 1098) dL_law_1098 ?_
      obtain ⟨v1099, e1099, hf⟩ := Option.bind_eq_some_iff.mp hf
      refine ym_iald (pc := 1099) dL_law_1099 rfl (ym_ldI_v e1099) ?_
      obtain ⟨o1100, f1100, hf⟩ := Option.bind_eq_some_iff.mp hf
      obtain ⟨q1100, e1100, hf⟩ := Option.bind_eq_some_iff.mp hf
      refine ym_callV (pc := 1100) (G2 := g_X7_settle) (dep2 := 9) (As := [.int v1099]) (st := []) (stk2 := [.long q1100.1]) (r2 := (some (.long q1100.1))) (h1 := q1100.2) dL_law_1100 (ok_X7_settle e1100) (sc_L_law_X7_settle) wd_690 wd_691 wd_692 (ci := 7) (q0 := (RX7, TX7, 10)) rfl (by decide) rfl f1100 rfl rfl (ym_st4 (Nat.le_of_ble_eq_true rfl)) rfl ?_
      refine ym_aload_n (pc := 1103) 2 dL_law_1103 rfl rfl ?_
      refine ym_aload_n (pc := 1104) 0 dL_law_1104 rfl rfl ?_
      refine ym_iload_n (pc := 1105) 3 dL_law_1105 rfl rfl ?_
      refine ym_iconst (pc := 1106) (v := 1) dL_law_1106 (by decide) ?_
      refine ym_iadd (pc := 1107) dL_law_1107 ?_
      obtain ⟨v1108, e1108, hf⟩ := Option.bind_eq_some_iff.mp hf
      refine ym_iald (pc := 1108) dL_law_1108 rfl (ym_ldI_v e1108) ?_
      obtain ⟨o1109, f1109, hf⟩ := Option.bind_eq_some_iff.mp hf
      obtain ⟨q1109, e1109, hf⟩ := Option.bind_eq_some_iff.mp hf
      refine ym_callV (pc := 1109) (G2 := g_X8_settle) (dep2 := 19) (As := [.int v1108]) (st := [.long q1100.1]) (stk2 := [.long q1109.1, .long q1100.1]) (r2 := (some (.long q1109.1))) (h1 := q1109.2) dL_law_1109 (ok_X8_settle e1109) (sc_L_law_X8_settle) wd_1337 wd_1338 wd_1339 (ci := 8) (q0 := (RX8, TX8, 58)) rfl (by decide) rfl f1109 rfl rfl (ym_st4 (Nat.le_of_ble_eq_true rfl)) rfl ?_
      by_cases c1112 : q1100.1 = q1109.1
      · rw [if_pos c1112] at hf
        refine ym_lcmp_eq_y (pc := 1112) (tgt := 1685) dL_law_1112 dL_law_1113 (by decide) c1112 ?_
        exact ym_sub [0, 1, 2, 3] rfl (ob_L_law_1685_18 hKl hf k)
      · rw [if_neg c1112] at hf
        refine ym_lcmp_eq_n (pc := 1112) (tgt := 1685) dL_law_1112 dL_law_1113 (by decide) c1112 ?_
        refine ym_iconst (pc := 1116) (v := 0) dL_law_1116 (by decide) ?_
        cases hf
        obtain ⟨rfl, rfl⟩ := k
        exact ym_zret (pc := 1117) dL_law_1117 rfl rfl
    rw [if_neg c33_18] at hf
    by_cases c33_19 : (v29 &&& 63) = 19
    · rw [if_pos c33_19] at hf
      refine ym_swIn (pc := 33) (off := 1085) (tgt := 1118) dL_law_33 (by rw [c33_19]; decide) (by rw [c33_19]; decide) (by rw [c33_19]; decide) (by decide) ?_
      refine ym_aload_n (pc := 1118) 1 dL_law_1118 rfl rfl ?_
      refine ym_aload_n (pc := 1119) 0 dL_law_1119 rfl rfl ?_
      refine ym_iload_n (pc := 1120) 3 dL_law_1120 rfl rfl ?_
      refine ym_iconst (pc := 1121) (v := 1) dL_law_1121 (by decide) ?_
      refine ym_iadd (pc := 1122) dL_law_1122 ?_
      obtain ⟨v1123, e1123, hf⟩ := Option.bind_eq_some_iff.mp hf
      refine ym_iald (pc := 1123) dL_law_1123 rfl (ym_ldI_v e1123) ?_
      refine ym_aload_n (pc := 1124) 0 dL_law_1124 rfl rfl ?_
      refine ym_iload_n (pc := 1125) 3 dL_law_1125 rfl rfl ?_
      refine ym_iconst (pc := 1126) (v := 2) dL_law_1126 (by decide) ?_
      refine ym_iadd (pc := 1127) dL_law_1127 ?_
      obtain ⟨v1128, e1128, hf⟩ := Option.bind_eq_some_iff.mp hf
      refine ym_iald (pc := 1128) dL_law_1128 rfl (ym_ldI_v e1128) ?_
      refine ym_i2l (pc := 1129) dL_law_1129 ?_
      refine ym_bipush (pc := 1130) (v := 32) dL_law_1130 (by decide) ?_
      refine ym_lshl (pc := 1132) dL_law_1132 ?_
      refine ym_aload_n (pc := 1133) 0 dL_law_1133 rfl rfl ?_
      refine ym_iload_n (pc := 1134) 3 dL_law_1134 rfl rfl ?_
      refine ym_iconst (pc := 1135) (v := 3) dL_law_1135 (by decide) ?_
      refine ym_iadd (pc := 1136) dL_law_1136 ?_
      obtain ⟨v1137, e1137, hf⟩ := Option.bind_eq_some_iff.mp hf
      refine ym_iald (pc := 1137) dL_law_1137 rfl (ym_ldI_v e1137) ?_
      refine ym_i2l (pc := 1138) dL_law_1138 ?_
      refine ym_ldc2 (pc := 1139) dL_law_1139 wd_1439 ?_
      refine ym_land (pc := 1142) dL_law_1142 ?_
      refine ym_lor (pc := 1143) dL_law_1143 ?_
      obtain ⟨o1144, f1144, hf⟩ := Option.bind_eq_some_iff.mp hf
      obtain ⟨q1144, e1144, hf⟩ := Option.bind_eq_some_iff.mp hf
      refine ym_callV (pc := 1144) (G2 := g_X7_reoffer) (dep2 := 7) (As := [.int v1123, .long (((Int32.toInt64 v1128) <<< (Int32.toInt64 32 &&& 63)) ||| ((Int32.toInt64 v1137) &&& 4294967295))]) (st := []) (stk2 := [.long q1144.1]) (r2 := (some (.long q1144.1))) (h1 := q1144.2) dL_law_1144 (ok_X7_reoffer e1144) (sc_L_law_X7_reoffer) wd_703 wd_704 wd_705 (ci := 7) (q0 := (RX7, TX7, 10)) rfl (by decide) rfl f1144 rfl rfl (ym_st4 (Nat.le_of_ble_eq_true rfl)) rfl ?_
      refine ym_aload_n (pc := 1147) 2 dL_law_1147 rfl rfl ?_
      refine ym_aload_n (pc := 1148) 0 dL_law_1148 rfl rfl ?_
      refine ym_iload_n (pc := 1149) 3 dL_law_1149 rfl rfl ?_
      refine ym_iconst (pc := 1150) (v := 1) dL_law_1150 (by decide) ?_
      refine ym_iadd (pc := 1151) dL_law_1151 ?_
      obtain ⟨v1152, e1152, hf⟩ := Option.bind_eq_some_iff.mp hf
      refine ym_iald (pc := 1152) dL_law_1152 rfl (ym_ldI_v e1152) ?_
      refine ym_aload_n (pc := 1153) 0 dL_law_1153 rfl rfl ?_
      refine ym_iload_n (pc := 1154) 3 dL_law_1154 rfl rfl ?_
      refine ym_iconst (pc := 1155) (v := 2) dL_law_1155 (by decide) ?_
      refine ym_iadd (pc := 1156) dL_law_1156 ?_
      obtain ⟨v1157, e1157, hf⟩ := Option.bind_eq_some_iff.mp hf
      refine ym_iald (pc := 1157) dL_law_1157 rfl (ym_ldI_v e1157) ?_
      refine ym_i2l (pc := 1158) dL_law_1158 ?_
      refine ym_bipush (pc := 1159) (v := 32) dL_law_1159 (by decide) ?_
      refine ym_lshl (pc := 1161) dL_law_1161 ?_
      refine ym_aload_n (pc := 1162) 0 dL_law_1162 rfl rfl ?_
      refine ym_iload_n (pc := 1163) 3 dL_law_1163 rfl rfl ?_
      refine ym_iconst (pc := 1164) (v := 3) dL_law_1164 (by decide) ?_
      refine ym_iadd (pc := 1165) dL_law_1165 ?_
      obtain ⟨v1166, e1166, hf⟩ := Option.bind_eq_some_iff.mp hf
      refine ym_iald (pc := 1166) dL_law_1166 rfl (ym_ldI_v e1166) ?_
      refine ym_i2l (pc := 1167) dL_law_1167 ?_
      refine ym_ldc2 (pc := 1168) dL_law_1168 wd_1439 ?_
      refine ym_land (pc := 1171) dL_law_1171 ?_
      refine ym_lor (pc := 1172) dL_law_1172 ?_
      obtain ⟨o1173, f1173, hf⟩ := Option.bind_eq_some_iff.mp hf
      obtain ⟨q1173, e1173, hf⟩ := Option.bind_eq_some_iff.mp hf
      refine ym_callV (pc := 1173) (G2 := g_X8_reoffer) (dep2 := 19) (As := [.int v1152, .long (((Int32.toInt64 v1157) <<< (Int32.toInt64 32 &&& 63)) ||| ((Int32.toInt64 v1166) &&& 4294967295))]) (st := [.long q1144.1]) (stk2 := [.long q1173.1, .long q1144.1]) (r2 := (some (.long q1173.1))) (h1 := q1173.2) dL_law_1173 (ok_X8_reoffer e1173) (sc_L_law_X8_reoffer) wd_1341 wd_1342 wd_1343 (ci := 8) (q0 := (RX8, TX8, 58)) rfl (by decide) rfl f1173 rfl rfl (ym_st4 (Nat.le_of_ble_eq_true rfl)) rfl ?_
      by_cases c1176 : q1144.1 = q1173.1
      · rw [if_pos c1176] at hf
        refine ym_lcmp_eq_y (pc := 1176) (tgt := 1685) dL_law_1176 dL_law_1177 (by decide) c1176 ?_
        exact ym_sub [0, 1, 2, 3] rfl (ob_L_law_1685_18 hKl hf k)
      · rw [if_neg c1176] at hf
        refine ym_lcmp_eq_n (pc := 1176) (tgt := 1685) dL_law_1176 dL_law_1177 (by decide) c1176 ?_
        refine ym_iconst (pc := 1180) (v := 0) dL_law_1180 (by decide) ?_
        cases hf
        obtain ⟨rfl, rfl⟩ := k
        exact ym_zret (pc := 1181) dL_law_1181 rfl rfl
    rw [if_neg c33_19] at hf
    by_cases c33_20 : (v29 &&& 63) = 20
    · rw [if_pos c33_20] at hf
      refine ym_swIn (pc := 33) (off := 1149) (tgt := 1182) dL_law_33 (by rw [c33_20]; decide) (by rw [c33_20]; decide) (by rw [c33_20]; decide) (by decide) ?_
      refine ym_aload_n (pc := 1182) 1 dL_law_1182 rfl rfl ?_
      refine ym_aload_n (pc := 1183) 0 dL_law_1183 rfl rfl ?_
      refine ym_iload_n (pc := 1184) 3 dL_law_1184 rfl rfl ?_
      refine ym_iconst (pc := 1185) (v := 1) dL_law_1185 (by decide) ?_
      refine ym_iadd (pc := 1186) dL_law_1186 ?_
      obtain ⟨v1187, e1187, hf⟩ := Option.bind_eq_some_iff.mp hf
      refine ym_iald (pc := 1187) dL_law_1187 rfl (ym_ldI_v e1187) ?_
      refine ym_aload_n (pc := 1188) 0 dL_law_1188 rfl rfl ?_
      refine ym_iload_n (pc := 1189) 3 dL_law_1189 rfl rfl ?_
      refine ym_iconst (pc := 1190) (v := 2) dL_law_1190 (by decide) ?_
      refine ym_iadd (pc := 1191) dL_law_1191 ?_
      obtain ⟨v1192, e1192, hf⟩ := Option.bind_eq_some_iff.mp hf
      refine ym_iald (pc := 1192) dL_law_1192 rfl (ym_ldI_v e1192) ?_
      refine ym_i2l (pc := 1193) dL_law_1193 ?_
      refine ym_bipush (pc := 1194) (v := 32) dL_law_1194 (by decide) ?_
      refine ym_lshl (pc := 1196) dL_law_1196 ?_
      refine ym_aload_n (pc := 1197) 0 dL_law_1197 rfl rfl ?_
      refine ym_iload_n (pc := 1198) 3 dL_law_1198 rfl rfl ?_
      refine ym_iconst (pc := 1199) (v := 3) dL_law_1199 (by decide) ?_
      refine ym_iadd (pc := 1200) dL_law_1200 ?_
      obtain ⟨v1201, e1201, hf⟩ := Option.bind_eq_some_iff.mp hf
      refine ym_iald (pc := 1201) dL_law_1201 rfl (ym_ldI_v e1201) ?_
      refine ym_i2l (pc := 1202) dL_law_1202 ?_
      refine ym_ldc2 (pc := 1203) dL_law_1203 wd_1439 ?_
      refine ym_land (pc := 1206) dL_law_1206 ?_
      refine ym_lor (pc := 1207) dL_law_1207 ?_
      obtain ⟨o1208, f1208, hf⟩ := Option.bind_eq_some_iff.mp hf
      obtain ⟨q1208, e1208, hf⟩ := Option.bind_eq_some_iff.mp hf
      refine ym_callV (pc := 1208) (G2 := g_X7_pay) (dep2 := 6) (As := [.int v1187, .long (((Int32.toInt64 v1192) <<< (Int32.toInt64 32 &&& 63)) ||| ((Int32.toInt64 v1201) &&& 4294967295))]) (st := []) (stk2 := [.long q1208.1]) (r2 := (some (.long q1208.1))) (h1 := q1208.2) dL_law_1208 (ok_X7_pay e1208) (sc_L_law_X7_pay) wd_720 wd_721 wd_722 (ci := 7) (q0 := (RX7, TX7, 10)) rfl (by decide) rfl f1208 rfl rfl (ym_st4 (Nat.le_of_ble_eq_true rfl)) rfl ?_
      refine ym_aload_n (pc := 1211) 2 dL_law_1211 rfl rfl ?_
      refine ym_aload_n (pc := 1212) 0 dL_law_1212 rfl rfl ?_
      refine ym_iload_n (pc := 1213) 3 dL_law_1213 rfl rfl ?_
      refine ym_iconst (pc := 1214) (v := 1) dL_law_1214 (by decide) ?_
      refine ym_iadd (pc := 1215) dL_law_1215 ?_
      obtain ⟨v1216, e1216, hf⟩ := Option.bind_eq_some_iff.mp hf
      refine ym_iald (pc := 1216) dL_law_1216 rfl (ym_ldI_v e1216) ?_
      refine ym_aload_n (pc := 1217) 0 dL_law_1217 rfl rfl ?_
      refine ym_iload_n (pc := 1218) 3 dL_law_1218 rfl rfl ?_
      refine ym_iconst (pc := 1219) (v := 2) dL_law_1219 (by decide) ?_
      refine ym_iadd (pc := 1220) dL_law_1220 ?_
      obtain ⟨v1221, e1221, hf⟩ := Option.bind_eq_some_iff.mp hf
      refine ym_iald (pc := 1221) dL_law_1221 rfl (ym_ldI_v e1221) ?_
      refine ym_i2l (pc := 1222) dL_law_1222 ?_
      refine ym_bipush (pc := 1223) (v := 32) dL_law_1223 (by decide) ?_
      refine ym_lshl (pc := 1225) dL_law_1225 ?_
      refine ym_aload_n (pc := 1226) 0 dL_law_1226 rfl rfl ?_
      refine ym_iload_n (pc := 1227) 3 dL_law_1227 rfl rfl ?_
      refine ym_iconst (pc := 1228) (v := 3) dL_law_1228 (by decide) ?_
      refine ym_iadd (pc := 1229) dL_law_1229 ?_
      obtain ⟨v1230, e1230, hf⟩ := Option.bind_eq_some_iff.mp hf
      refine ym_iald (pc := 1230) dL_law_1230 rfl (ym_ldI_v e1230) ?_
      refine ym_i2l (pc := 1231) dL_law_1231 ?_
      refine ym_ldc2 (pc := 1232) dL_law_1232 wd_1439 ?_
      refine ym_land (pc := 1235) dL_law_1235 ?_
      refine ym_lor (pc := 1236) dL_law_1236 ?_
      obtain ⟨o1237, f1237, hf⟩ := Option.bind_eq_some_iff.mp hf
      obtain ⟨q1237, e1237, hf⟩ := Option.bind_eq_some_iff.mp hf
      refine ym_callV (pc := 1237) (G2 := g_X8_pay) (dep2 := 19) (As := [.int v1216, .long (((Int32.toInt64 v1221) <<< (Int32.toInt64 32 &&& 63)) ||| ((Int32.toInt64 v1230) &&& 4294967295))]) (st := [.long q1208.1]) (stk2 := [.long q1237.1, .long q1208.1]) (r2 := (some (.long q1237.1))) (h1 := q1237.2) dL_law_1237 (ok_X8_pay e1237) (sc_L_law_X8_pay) wd_1345 wd_1346 wd_1347 (ci := 8) (q0 := (RX8, TX8, 58)) rfl (by decide) rfl f1237 rfl rfl (ym_st4 (Nat.le_of_ble_eq_true rfl)) rfl ?_
      by_cases c1240 : q1208.1 = q1237.1
      · rw [if_pos c1240] at hf
        refine ym_lcmp_eq_y (pc := 1240) (tgt := 1685) dL_law_1240 dL_law_1241 (by decide) c1240 ?_
        exact ym_sub [0, 1, 2, 3] rfl (ob_L_law_1685_18 hKl hf k)
      · rw [if_neg c1240] at hf
        refine ym_lcmp_eq_n (pc := 1240) (tgt := 1685) dL_law_1240 dL_law_1241 (by decide) c1240 ?_
        refine ym_iconst (pc := 1244) (v := 0) dL_law_1244 (by decide) ?_
        cases hf
        obtain ⟨rfl, rfl⟩ := k
        exact ym_zret (pc := 1245) dL_law_1245 rfl rfl
    rw [if_neg c33_20] at hf
    by_cases c33_21 : (v29 &&& 63) = 21
    · rw [if_pos c33_21] at hf
      refine ym_swIn (pc := 33) (off := 1213) (tgt := 1246) dL_law_33 (by rw [c33_21]; decide) (by rw [c33_21]; decide) (by rw [c33_21]; decide) (by decide) ?_
      refine ym_aload_n (pc := 1246) 1 dL_law_1246 rfl rfl ?_
      refine ym_aload_n (pc := 1247) 0 dL_law_1247 rfl rfl ?_
      refine ym_iload_n (pc := 1248) 3 dL_law_1248 rfl rfl ?_
      refine ym_iconst (pc := 1249) (v := 1) dL_law_1249 (by decide) ?_
      refine ym_iadd (pc := 1250) dL_law_1250 ?_
      obtain ⟨v1251, e1251, hf⟩ := Option.bind_eq_some_iff.mp hf
      refine ym_iald (pc := 1251) dL_law_1251 rfl (ym_ldI_v e1251) ?_
      refine ym_aload_n (pc := 1252) 0 dL_law_1252 rfl rfl ?_
      refine ym_iload_n (pc := 1253) 3 dL_law_1253 rfl rfl ?_
      refine ym_iconst (pc := 1254) (v := 2) dL_law_1254 (by decide) ?_
      refine ym_iadd (pc := 1255) dL_law_1255 ?_
      obtain ⟨v1256, e1256, hf⟩ := Option.bind_eq_some_iff.mp hf
      refine ym_iald (pc := 1256) dL_law_1256 rfl (ym_ldI_v e1256) ?_
      refine ym_i2l (pc := 1257) dL_law_1257 ?_
      refine ym_bipush (pc := 1258) (v := 32) dL_law_1258 (by decide) ?_
      refine ym_lshl (pc := 1260) dL_law_1260 ?_
      refine ym_aload_n (pc := 1261) 0 dL_law_1261 rfl rfl ?_
      refine ym_iload_n (pc := 1262) 3 dL_law_1262 rfl rfl ?_
      refine ym_iconst (pc := 1263) (v := 3) dL_law_1263 (by decide) ?_
      refine ym_iadd (pc := 1264) dL_law_1264 ?_
      obtain ⟨v1265, e1265, hf⟩ := Option.bind_eq_some_iff.mp hf
      refine ym_iald (pc := 1265) dL_law_1265 rfl (ym_ldI_v e1265) ?_
      refine ym_i2l (pc := 1266) dL_law_1266 ?_
      refine ym_ldc2 (pc := 1267) dL_law_1267 wd_1439 ?_
      refine ym_land (pc := 1270) dL_law_1270 ?_
      refine ym_lor (pc := 1271) dL_law_1271 ?_
      obtain ⟨o1272, f1272, hf⟩ := Option.bind_eq_some_iff.mp hf
      obtain ⟨q1272, e1272, hf⟩ := Option.bind_eq_some_iff.mp hf
      refine ym_callV (pc := 1272) (G2 := g_X7_payOut) (dep2 := 6) (As := [.int v1251, .long (((Int32.toInt64 v1256) <<< (Int32.toInt64 32 &&& 63)) ||| ((Int32.toInt64 v1265) &&& 4294967295))]) (st := []) (stk2 := [.long q1272.1]) (r2 := (some (.long q1272.1))) (h1 := q1272.2) dL_law_1272 (ok_X7_payOut e1272) (sc_L_law_X7_payOut) wd_729 wd_730 wd_731 (ci := 7) (q0 := (RX7, TX7, 10)) rfl (by decide) rfl f1272 rfl rfl (ym_st4 (Nat.le_of_ble_eq_true rfl)) rfl ?_
      refine ym_aload_n (pc := 1275) 2 dL_law_1275 rfl rfl ?_
      refine ym_aload_n (pc := 1276) 0 dL_law_1276 rfl rfl ?_
      refine ym_iload_n (pc := 1277) 3 dL_law_1277 rfl rfl ?_
      refine ym_iconst (pc := 1278) (v := 1) dL_law_1278 (by decide) ?_
      refine ym_iadd (pc := 1279) dL_law_1279 ?_
      obtain ⟨v1280, e1280, hf⟩ := Option.bind_eq_some_iff.mp hf
      refine ym_iald (pc := 1280) dL_law_1280 rfl (ym_ldI_v e1280) ?_
      refine ym_aload_n (pc := 1281) 0 dL_law_1281 rfl rfl ?_
      refine ym_iload_n (pc := 1282) 3 dL_law_1282 rfl rfl ?_
      refine ym_iconst (pc := 1283) (v := 2) dL_law_1283 (by decide) ?_
      refine ym_iadd (pc := 1284) dL_law_1284 ?_
      obtain ⟨v1285, e1285, hf⟩ := Option.bind_eq_some_iff.mp hf
      refine ym_iald (pc := 1285) dL_law_1285 rfl (ym_ldI_v e1285) ?_
      refine ym_i2l (pc := 1286) dL_law_1286 ?_
      refine ym_bipush (pc := 1287) (v := 32) dL_law_1287 (by decide) ?_
      refine ym_lshl (pc := 1289) dL_law_1289 ?_
      refine ym_aload_n (pc := 1290) 0 dL_law_1290 rfl rfl ?_
      refine ym_iload_n (pc := 1291) 3 dL_law_1291 rfl rfl ?_
      refine ym_iconst (pc := 1292) (v := 3) dL_law_1292 (by decide) ?_
      refine ym_iadd (pc := 1293) dL_law_1293 ?_
      obtain ⟨v1294, e1294, hf⟩ := Option.bind_eq_some_iff.mp hf
      refine ym_iald (pc := 1294) dL_law_1294 rfl (ym_ldI_v e1294) ?_
      refine ym_i2l (pc := 1295) dL_law_1295 ?_
      refine ym_ldc2 (pc := 1296) dL_law_1296 wd_1439 ?_
      refine ym_land (pc := 1299) dL_law_1299 ?_
      refine ym_lor (pc := 1300) dL_law_1300 ?_
      obtain ⟨o1301, f1301, hf⟩ := Option.bind_eq_some_iff.mp hf
      obtain ⟨q1301, e1301, hf⟩ := Option.bind_eq_some_iff.mp hf
      refine ym_callV (pc := 1301) (G2 := g_X8_payOut) (dep2 := 19) (As := [.int v1280, .long (((Int32.toInt64 v1285) <<< (Int32.toInt64 32 &&& 63)) ||| ((Int32.toInt64 v1294) &&& 4294967295))]) (st := [.long q1272.1]) (stk2 := [.long q1301.1, .long q1272.1]) (r2 := (some (.long q1301.1))) (h1 := q1301.2) dL_law_1301 (ok_X8_payOut e1301) (sc_L_law_X8_payOut) wd_1349 wd_1350 wd_1351 (ci := 8) (q0 := (RX8, TX8, 58)) rfl (by decide) rfl f1301 rfl rfl (ym_st4 (Nat.le_of_ble_eq_true rfl)) rfl ?_
      by_cases c1304 : q1272.1 = q1301.1
      · rw [if_pos c1304] at hf
        refine ym_lcmp_eq_y (pc := 1304) (tgt := 1685) dL_law_1304 dL_law_1305 (by decide) c1304 ?_
        exact ym_sub [0, 1, 2, 3] rfl (ob_L_law_1685_18 hKl hf k)
      · rw [if_neg c1304] at hf
        refine ym_lcmp_eq_n (pc := 1304) (tgt := 1685) dL_law_1304 dL_law_1305 (by decide) c1304 ?_
        refine ym_iconst (pc := 1308) (v := 0) dL_law_1308 (by decide) ?_
        cases hf
        obtain ⟨rfl, rfl⟩ := k
        exact ym_zret (pc := 1309) dL_law_1309 rfl rfl
    rw [if_neg c33_21] at hf
    by_cases c33_22 : (v29 &&& 63) = 22
    · rw [if_pos c33_22] at hf
      refine ym_swIn (pc := 33) (off := 1277) (tgt := 1310) dL_law_33 (by rw [c33_22]; decide) (by rw [c33_22]; decide) (by rw [c33_22]; decide) (by decide) ?_
      refine ym_aload_n (pc := 1310) 1 dL_law_1310 rfl rfl ?_
      obtain ⟨o1311, f1311, hf⟩ := Option.bind_eq_some_iff.mp hf
      obtain ⟨q1311, e1311, hf⟩ := Option.bind_eq_some_iff.mp hf
      refine ym_callV (pc := 1311) (G2 := g_X7_batch) (dep2 := 5) (As := []) (st := []) (stk2 := [.long q1311.1]) (r2 := (some (.long q1311.1))) (h1 := q1311.2) dL_law_1311 (ok_X7_batch e1311) (sc_L_law_X7_batch) wd_733 wd_734 wd_735 (ci := 7) (q0 := (RX7, TX7, 10)) rfl (by decide) rfl f1311 rfl rfl (ym_st4 (Nat.le_of_ble_eq_true rfl)) rfl ?_
      refine ym_aload_n (pc := 1314) 2 dL_law_1314 rfl rfl ?_
      obtain ⟨o1315, f1315, hf⟩ := Option.bind_eq_some_iff.mp hf
      obtain ⟨q1315, e1315, hf⟩ := Option.bind_eq_some_iff.mp hf
      refine ym_callV (pc := 1315) (G2 := g_X8_batch) (dep2 := 19) (As := []) (st := [.long q1311.1]) (stk2 := [.long q1315.1, .long q1311.1]) (r2 := (some (.long q1315.1))) (h1 := q1315.2) dL_law_1315 (ok_X8_batch e1315) (sc_L_law_X8_batch) wd_1353 wd_1354 wd_1355 (ci := 8) (q0 := (RX8, TX8, 58)) rfl (by decide) rfl f1315 rfl rfl (ym_st4 (Nat.le_of_ble_eq_true rfl)) rfl ?_
      by_cases c1318 : q1311.1 = q1315.1
      · rw [if_pos c1318] at hf
        refine ym_lcmp_eq_y (pc := 1318) (tgt := 1685) dL_law_1318 dL_law_1319 (by decide) c1318 ?_
        exact ym_sub [0, 1, 2, 3] rfl (ob_L_law_1685_18 hKl hf k)
      · rw [if_neg c1318] at hf
        refine ym_lcmp_eq_n (pc := 1318) (tgt := 1685) dL_law_1318 dL_law_1319 (by decide) c1318 ?_
        refine ym_iconst (pc := 1322) (v := 0) dL_law_1322 (by decide) ?_
        cases hf
        obtain ⟨rfl, rfl⟩ := k
        exact ym_zret (pc := 1323) dL_law_1323 rfl rfl
    rw [if_neg c33_22] at hf
    by_cases c33_23 : (v29 &&& 63) = 23
    · rw [if_pos c33_23] at hf
      refine ym_swIn (pc := 33) (off := 1291) (tgt := 1324) dL_law_33 (by rw [c33_23]; decide) (by rw [c33_23]; decide) (by rw [c33_23]; decide) (by decide) ?_
      refine ym_aload_n (pc := 1324) 1 dL_law_1324 rfl rfl ?_
      obtain ⟨o1325, f1325, hf⟩ := Option.bind_eq_some_iff.mp hf
      obtain ⟨q1325, e1325, hf⟩ := Option.bind_eq_some_iff.mp hf
      refine ym_callV (pc := 1325) (G2 := g_X7_end) (dep2 := 5) (As := []) (st := []) (stk2 := [.long q1325.1]) (r2 := (some (.long q1325.1))) (h1 := q1325.2) dL_law_1325 (ok_X7_end e1325) (sc_L_law_X7_end) wd_745 wd_746 wd_747 (ci := 7) (q0 := (RX7, TX7, 10)) rfl (by decide) rfl f1325 rfl rfl (ym_st4 (Nat.le_of_ble_eq_true rfl)) rfl ?_
      refine ym_aload_n (pc := 1328) 2 dL_law_1328 rfl rfl ?_
      obtain ⟨o1329, f1329, hf⟩ := Option.bind_eq_some_iff.mp hf
      obtain ⟨q1329, e1329, hf⟩ := Option.bind_eq_some_iff.mp hf
      refine ym_callV (pc := 1329) (G2 := g_X8_end) (dep2 := 19) (As := []) (st := [.long q1325.1]) (stk2 := [.long q1329.1, .long q1325.1]) (r2 := (some (.long q1329.1))) (h1 := q1329.2) dL_law_1329 (ok_X8_end e1329) (sc_L_law_X8_end) wd_1357 wd_1358 wd_1359 (ci := 8) (q0 := (RX8, TX8, 58)) rfl (by decide) rfl f1329 rfl rfl (ym_st4 (Nat.le_of_ble_eq_true rfl)) rfl ?_
      by_cases c1332 : q1325.1 = q1329.1
      · rw [if_pos c1332] at hf
        refine ym_lcmp_eq_y (pc := 1332) (tgt := 1685) dL_law_1332 dL_law_1333 (by decide) c1332 ?_
        exact ym_sub [0, 1, 2, 3] rfl (ob_L_law_1685_18 hKl hf k)
      · rw [if_neg c1332] at hf
        refine ym_lcmp_eq_n (pc := 1332) (tgt := 1685) dL_law_1332 dL_law_1333 (by decide) c1332 ?_
        refine ym_iconst (pc := 1336) (v := 0) dL_law_1336 (by decide) ?_
        cases hf
        obtain ⟨rfl, rfl⟩ := k
        exact ym_zret (pc := 1337) dL_law_1337 rfl rfl
    rw [if_neg c33_23] at hf
    by_cases c33_24 : (v29 &&& 63) = 24
    · rw [if_pos c33_24] at hf
      refine ym_swIn (pc := 33) (off := 1305) (tgt := 1338) dL_law_33 (by rw [c33_24]; decide) (by rw [c33_24]; decide) (by rw [c33_24]; decide) (by decide) ?_
      refine ym_aload_n (pc := 1338) 1 dL_law_1338 rfl rfl ?_
      obtain ⟨o1339, f1339, hf⟩ := Option.bind_eq_some_iff.mp hf
      obtain ⟨q1339, e1339, hf⟩ := Option.bind_eq_some_iff.mp hf
      refine ym_callV (pc := 1339) (G2 := g_X7_undo) (dep2 := 5) (As := []) (st := []) (stk2 := [.long q1339.1]) (r2 := (some (.long q1339.1))) (h1 := q1339.2) dL_law_1339 (ok_X7_undo e1339) (sc_L_law_X7_undo) wd_753 wd_754 wd_755 (ci := 7) (q0 := (RX7, TX7, 10)) rfl (by decide) rfl f1339 rfl rfl (ym_st4 (Nat.le_of_ble_eq_true rfl)) rfl ?_
      refine ym_aload_n (pc := 1342) 2 dL_law_1342 rfl rfl ?_
      obtain ⟨o1343, f1343, hf⟩ := Option.bind_eq_some_iff.mp hf
      obtain ⟨q1343, e1343, hf⟩ := Option.bind_eq_some_iff.mp hf
      refine ym_callV (pc := 1343) (G2 := g_X8_undo) (dep2 := 19) (As := []) (st := [.long q1339.1]) (stk2 := [.long q1343.1, .long q1339.1]) (r2 := (some (.long q1343.1))) (h1 := q1343.2) dL_law_1343 (ok_X8_undo e1343) (sc_L_law_X8_undo) wd_1361 wd_1362 wd_1363 (ci := 8) (q0 := (RX8, TX8, 58)) rfl (by decide) rfl f1343 rfl rfl (ym_st4 (Nat.le_of_ble_eq_true rfl)) rfl ?_
      by_cases c1346 : q1339.1 = q1343.1
      · rw [if_pos c1346] at hf
        refine ym_lcmp_eq_y (pc := 1346) (tgt := 1685) dL_law_1346 dL_law_1347 (by decide) c1346 ?_
        exact ym_sub [0, 1, 2, 3] rfl (ob_L_law_1685_18 hKl hf k)
      · rw [if_neg c1346] at hf
        refine ym_lcmp_eq_n (pc := 1346) (tgt := 1685) dL_law_1346 dL_law_1347 (by decide) c1346 ?_
        refine ym_iconst (pc := 1350) (v := 0) dL_law_1350 (by decide) ?_
        cases hf
        obtain ⟨rfl, rfl⟩ := k
        exact ym_zret (pc := 1351) dL_law_1351 rfl rfl
    rw [if_neg c33_24] at hf
    by_cases c33_25 : (v29 &&& 63) = 25
    · rw [if_pos c33_25] at hf
      refine ym_swIn (pc := 33) (off := 1319) (tgt := 1352) dL_law_33 (by rw [c33_25]; decide) (by rw [c33_25]; decide) (by rw [c33_25]; decide) (by decide) ?_
      refine ym_aload_n (pc := 1352) 1 dL_law_1352 rfl rfl ?_
      refine ym_aload_n (pc := 1353) 0 dL_law_1353 rfl rfl ?_
      refine ym_iload_n (pc := 1354) 3 dL_law_1354 rfl rfl ?_
      refine ym_iconst (pc := 1355) (v := 1) dL_law_1355 (by decide) ?_
      refine ym_iadd (pc := 1356) dL_law_1356 ?_
      obtain ⟨v1357, e1357, hf⟩ := Option.bind_eq_some_iff.mp hf
      refine ym_iald (pc := 1357) dL_law_1357 rfl (ym_ldI_v e1357) ?_
      obtain ⟨o1358, f1358, hf⟩ := Option.bind_eq_some_iff.mp hf
      obtain ⟨q1358, e1358, hf⟩ := Option.bind_eq_some_iff.mp hf
      refine ym_callV (pc := 1358) (G2 := g_X7_kindOf) (dep2 := 4) (As := [.int v1357]) (st := []) (stk2 := [.int q1358.1]) (r2 := (some (.int q1358.1))) (h1 := q1358.2) dL_law_1358 (ok_X7_kindOf e1358) (sc_L_law_X7_kindOf) wd_761 wd_762 wd_763 (ci := 7) (q0 := (RX7, TX7, 10)) rfl (by decide) rfl f1358 rfl rfl (ym_st4 (Nat.le_of_ble_eq_true rfl)) rfl ?_
      refine ym_aload_n (pc := 1361) 2 dL_law_1361 rfl rfl ?_
      refine ym_aload_n (pc := 1362) 0 dL_law_1362 rfl rfl ?_
      refine ym_iload_n (pc := 1363) 3 dL_law_1363 rfl rfl ?_
      refine ym_iconst (pc := 1364) (v := 1) dL_law_1364 (by decide) ?_
      refine ym_iadd (pc := 1365) dL_law_1365 ?_
      obtain ⟨v1366, e1366, hf⟩ := Option.bind_eq_some_iff.mp hf
      refine ym_iald (pc := 1366) dL_law_1366 rfl (ym_ldI_v e1366) ?_
      obtain ⟨o1367, f1367, hf⟩ := Option.bind_eq_some_iff.mp hf
      obtain ⟨q1367, e1367, hf⟩ := Option.bind_eq_some_iff.mp hf
      refine ym_callV (pc := 1367) (G2 := g_X8_kindOf) (dep2 := 3) (As := [.int v1366]) (st := [.int q1358.1]) (stk2 := [.int q1367.1, .int q1358.1]) (r2 := (some (.int q1367.1))) (h1 := q1367.2) dL_law_1367 (ok_X8_kindOf e1367) (sc_L_law_X8_kindOf) wd_1365 wd_1366 wd_1367 (ci := 8) (q0 := (RX8, TX8, 58)) rfl (by decide) rfl f1367 rfl rfl (ym_st4 (Nat.le_of_ble_eq_true rfl)) rfl ?_
      by_cases c1370 : q1358.1 = q1367.1
      · rw [if_pos c1370] at hf
        refine ym_icmp_eq_y (pc := 1370) (tgt := 1685) dL_law_1370 (by decide) c1370 ?_
        exact ym_sub [0, 1, 2, 3] rfl (ob_L_law_1685_18 hKl hf k)
      · rw [if_neg c1370] at hf
        refine ym_icmp_eq_n (pc := 1370) (tgt := 1685) dL_law_1370 (by decide) c1370 ?_
        refine ym_iconst (pc := 1373) (v := 0) dL_law_1373 (by decide) ?_
        cases hf
        obtain ⟨rfl, rfl⟩ := k
        exact ym_zret (pc := 1374) dL_law_1374 rfl rfl
    rw [if_neg c33_25] at hf
    by_cases c33_26 : (v29 &&& 63) = 26
    · rw [if_pos c33_26] at hf
      refine ym_swIn (pc := 33) (off := 1342) (tgt := 1375) dL_law_33 (by rw [c33_26]; decide) (by rw [c33_26]; decide) (by rw [c33_26]; decide) (by decide) ?_
      refine ym_aload_n (pc := 1375) 1 dL_law_1375 rfl rfl ?_
      refine ym_aload_n (pc := 1376) 0 dL_law_1376 rfl rfl ?_
      refine ym_iload_n (pc := 1377) 3 dL_law_1377 rfl rfl ?_
      refine ym_iconst (pc := 1378) (v := 1) dL_law_1378 (by decide) ?_
      refine ym_iadd (pc := 1379) dL_law_1379 ?_
      obtain ⟨v1380, e1380, hf⟩ := Option.bind_eq_some_iff.mp hf
      refine ym_iald (pc := 1380) dL_law_1380 rfl (ym_ldI_v e1380) ?_
      obtain ⟨o1381, f1381, hf⟩ := Option.bind_eq_some_iff.mp hf
      obtain ⟨q1381, e1381, hf⟩ := Option.bind_eq_some_iff.mp hf
      refine ym_callV (pc := 1381) (G2 := g_X7_bidderKind) (dep2 := 4) (As := [.int v1380]) (st := []) (stk2 := [.int q1381.1]) (r2 := (some (.int q1381.1))) (h1 := q1381.2) dL_law_1381 (ok_X7_bidderKind e1381) (sc_L_law_X7_bidderKind) wd_765 wd_766 wd_767 (ci := 7) (q0 := (RX7, TX7, 10)) rfl (by decide) rfl f1381 rfl rfl (ym_st4 (Nat.le_of_ble_eq_true rfl)) rfl ?_
      refine ym_aload_n (pc := 1384) 2 dL_law_1384 rfl rfl ?_
      refine ym_aload_n (pc := 1385) 0 dL_law_1385 rfl rfl ?_
      refine ym_iload_n (pc := 1386) 3 dL_law_1386 rfl rfl ?_
      refine ym_iconst (pc := 1387) (v := 1) dL_law_1387 (by decide) ?_
      refine ym_iadd (pc := 1388) dL_law_1388 ?_
      obtain ⟨v1389, e1389, hf⟩ := Option.bind_eq_some_iff.mp hf
      refine ym_iald (pc := 1389) dL_law_1389 rfl (ym_ldI_v e1389) ?_
      obtain ⟨o1390, f1390, hf⟩ := Option.bind_eq_some_iff.mp hf
      obtain ⟨q1390, e1390, hf⟩ := Option.bind_eq_some_iff.mp hf
      refine ym_callV (pc := 1390) (G2 := g_X8_bidderKind) (dep2 := 3) (As := [.int v1389]) (st := [.int q1381.1]) (stk2 := [.int q1390.1, .int q1381.1]) (r2 := (some (.int q1390.1))) (h1 := q1390.2) dL_law_1390 (ok_X8_bidderKind e1390) (sc_L_law_X8_bidderKind) wd_1373 wd_1374 wd_1375 (ci := 8) (q0 := (RX8, TX8, 58)) rfl (by decide) rfl f1390 rfl rfl (ym_st4 (Nat.le_of_ble_eq_true rfl)) rfl ?_
      by_cases c1393 : q1381.1 = q1390.1
      · rw [if_pos c1393] at hf
        refine ym_icmp_eq_y (pc := 1393) (tgt := 1685) dL_law_1393 (by decide) c1393 ?_
        exact ym_sub [0, 1, 2, 3] rfl (ob_L_law_1685_18 hKl hf k)
      · rw [if_neg c1393] at hf
        refine ym_icmp_eq_n (pc := 1393) (tgt := 1685) dL_law_1393 (by decide) c1393 ?_
        refine ym_iconst (pc := 1396) (v := 0) dL_law_1396 (by decide) ?_
        cases hf
        obtain ⟨rfl, rfl⟩ := k
        exact ym_zret (pc := 1397) dL_law_1397 rfl rfl
    rw [if_neg c33_26] at hf
    by_cases c33_27 : (v29 &&& 63) = 27
    · rw [if_pos c33_27] at hf
      refine ym_swIn (pc := 33) (off := 1365) (tgt := 1398) dL_law_33 (by rw [c33_27]; decide) (by rw [c33_27]; decide) (by rw [c33_27]; decide) (by decide) ?_
      refine ym_aload_n (pc := 1398) 1 dL_law_1398 rfl rfl ?_
      refine ym_aload_n (pc := 1399) 0 dL_law_1399 rfl rfl ?_
      refine ym_iload_n (pc := 1400) 3 dL_law_1400 rfl rfl ?_
      refine ym_iconst (pc := 1401) (v := 1) dL_law_1401 (by decide) ?_
      refine ym_iadd (pc := 1402) dL_law_1402 ?_
      obtain ⟨v1403, e1403, hf⟩ := Option.bind_eq_some_iff.mp hf
      refine ym_iald (pc := 1403) dL_law_1403 rfl (ym_ldI_v e1403) ?_
      obtain ⟨o1404, f1404, hf⟩ := Option.bind_eq_some_iff.mp hf
      obtain ⟨q1404, e1404, hf⟩ := Option.bind_eq_some_iff.mp hf
      refine ym_callV (pc := 1404) (G2 := g_X7_state) (dep2 := 4) (As := [.int v1403]) (st := []) (stk2 := [.int q1404.1]) (r2 := (some (.int q1404.1))) (h1 := q1404.2) dL_law_1404 (ok_X7_state e1404) (sc_L_law_X7_state) wd_769 wd_770 wd_771 (ci := 7) (q0 := (RX7, TX7, 10)) rfl (by decide) rfl f1404 rfl rfl (ym_st4 (Nat.le_of_ble_eq_true rfl)) rfl ?_
      refine ym_aload_n (pc := 1407) 2 dL_law_1407 rfl rfl ?_
      refine ym_aload_n (pc := 1408) 0 dL_law_1408 rfl rfl ?_
      refine ym_iload_n (pc := 1409) 3 dL_law_1409 rfl rfl ?_
      refine ym_iconst (pc := 1410) (v := 1) dL_law_1410 (by decide) ?_
      refine ym_iadd (pc := 1411) dL_law_1411 ?_
      obtain ⟨v1412, e1412, hf⟩ := Option.bind_eq_some_iff.mp hf
      refine ym_iald (pc := 1412) dL_law_1412 rfl (ym_ldI_v e1412) ?_
      obtain ⟨o1413, f1413, hf⟩ := Option.bind_eq_some_iff.mp hf
      obtain ⟨q1413, e1413, hf⟩ := Option.bind_eq_some_iff.mp hf
      refine ym_callV (pc := 1413) (G2 := g_X8_state) (dep2 := 3) (As := [.int v1412]) (st := [.int q1404.1]) (stk2 := [.int q1413.1, .int q1404.1]) (r2 := (some (.int q1413.1))) (h1 := q1413.2) dL_law_1413 (ok_X8_state e1413) (sc_L_law_X8_state) wd_1381 wd_1382 wd_1383 (ci := 8) (q0 := (RX8, TX8, 58)) rfl (by decide) rfl f1413 rfl rfl (ym_st4 (Nat.le_of_ble_eq_true rfl)) rfl ?_
      by_cases c1416 : q1404.1 = q1413.1
      · rw [if_pos c1416] at hf
        refine ym_icmp_eq_y (pc := 1416) (tgt := 1685) dL_law_1416 (by decide) c1416 ?_
        exact ym_sub [0, 1, 2, 3] rfl (ob_L_law_1685_18 hKl hf k)
      · rw [if_neg c1416] at hf
        refine ym_icmp_eq_n (pc := 1416) (tgt := 1685) dL_law_1416 (by decide) c1416 ?_
        refine ym_iconst (pc := 1419) (v := 0) dL_law_1419 (by decide) ?_
        cases hf
        obtain ⟨rfl, rfl⟩ := k
        exact ym_zret (pc := 1420) dL_law_1420 rfl rfl
    rw [if_neg c33_27] at hf
    by_cases c33_28 : (v29 &&& 63) = 28
    · rw [if_pos c33_28] at hf
      refine ym_swIn (pc := 33) (off := 1388) (tgt := 1421) dL_law_33 (by rw [c33_28]; decide) (by rw [c33_28]; decide) (by rw [c33_28]; decide) (by decide) ?_
      refine ym_aload_n (pc := 1421) 1 dL_law_1421 rfl rfl ?_
      refine ym_aload_n (pc := 1422) 0 dL_law_1422 rfl rfl ?_
      refine ym_iload_n (pc := 1423) 3 dL_law_1423 rfl rfl ?_
      refine ym_iconst (pc := 1424) (v := 1) dL_law_1424 (by decide) ?_
      refine ym_iadd (pc := 1425) dL_law_1425 ?_
      obtain ⟨v1426, e1426, hf⟩ := Option.bind_eq_some_iff.mp hf
      refine ym_iald (pc := 1426) dL_law_1426 rfl (ym_ldI_v e1426) ?_
      obtain ⟨o1427, f1427, hf⟩ := Option.bind_eq_some_iff.mp hf
      obtain ⟨q1427, e1427, hf⟩ := Option.bind_eq_some_iff.mp hf
      refine ym_callV (pc := 1427) (G2 := g_X7_stands) (dep2 := 4) (As := [.int v1426]) (st := []) (stk2 := [.int q1427.1]) (r2 := (some (.int q1427.1))) (h1 := q1427.2) dL_law_1427 (ok_X7_stands e1427) (sc_L_law_X7_stands) wd_773 wd_774 wd_775 (ci := 7) (q0 := (RX7, TX7, 10)) rfl (by decide) rfl f1427 rfl rfl (ym_st4 (Nat.le_of_ble_eq_true rfl)) rfl ?_
      refine ym_aload_n (pc := 1430) 2 dL_law_1430 rfl rfl ?_
      refine ym_aload_n (pc := 1431) 0 dL_law_1431 rfl rfl ?_
      refine ym_iload_n (pc := 1432) 3 dL_law_1432 rfl rfl ?_
      refine ym_iconst (pc := 1433) (v := 1) dL_law_1433 (by decide) ?_
      refine ym_iadd (pc := 1434) dL_law_1434 ?_
      obtain ⟨v1435, e1435, hf⟩ := Option.bind_eq_some_iff.mp hf
      refine ym_iald (pc := 1435) dL_law_1435 rfl (ym_ldI_v e1435) ?_
      obtain ⟨o1436, f1436, hf⟩ := Option.bind_eq_some_iff.mp hf
      obtain ⟨q1436, e1436, hf⟩ := Option.bind_eq_some_iff.mp hf
      refine ym_callV (pc := 1436) (G2 := g_X8_stands) (dep2 := 3) (As := [.int v1435]) (st := [.int q1427.1]) (stk2 := [.int q1436.1, .int q1427.1]) (r2 := (some (.int q1436.1))) (h1 := q1436.2) dL_law_1436 (ok_X8_stands e1436) (sc_L_law_X8_stands) wd_1385 wd_1386 wd_1387 (ci := 8) (q0 := (RX8, TX8, 58)) rfl (by decide) rfl f1436 rfl rfl (ym_st4 (Nat.le_of_ble_eq_true rfl)) rfl ?_
      by_cases c1439 : q1427.1 = q1436.1
      · rw [if_pos c1439] at hf
        refine ym_icmp_eq_y (pc := 1439) (tgt := 1685) dL_law_1439 (by decide) c1439 ?_
        exact ym_sub [0, 1, 2, 3] rfl (ob_L_law_1685_18 hKl hf k)
      · rw [if_neg c1439] at hf
        refine ym_icmp_eq_n (pc := 1439) (tgt := 1685) dL_law_1439 (by decide) c1439 ?_
        refine ym_iconst (pc := 1442) (v := 0) dL_law_1442 (by decide) ?_
        cases hf
        obtain ⟨rfl, rfl⟩ := k
        exact ym_zret (pc := 1443) dL_law_1443 rfl rfl
    rw [if_neg c33_28] at hf
    by_cases c33_29 : (v29 &&& 63) = 29
    · rw [if_pos c33_29] at hf
      refine ym_swIn (pc := 33) (off := 1411) (tgt := 1444) dL_law_33 (by rw [c33_29]; decide) (by rw [c33_29]; decide) (by rw [c33_29]; decide) (by decide) ?_
      refine ym_aload_n (pc := 1444) 1 dL_law_1444 rfl rfl ?_
      refine ym_aload_n (pc := 1445) 0 dL_law_1445 rfl rfl ?_
      refine ym_iload_n (pc := 1446) 3 dL_law_1446 rfl rfl ?_
      refine ym_iconst (pc := 1447) (v := 1) dL_law_1447 (by decide) ?_
      refine ym_iadd (pc := 1448) dL_law_1448 ?_
      obtain ⟨v1449, e1449, hf⟩ := Option.bind_eq_some_iff.mp hf
      refine ym_iald (pc := 1449) dL_law_1449 rfl (ym_ldI_v e1449) ?_
      obtain ⟨o1450, f1450, hf⟩ := Option.bind_eq_some_iff.mp hf
      obtain ⟨q1450, e1450, hf⟩ := Option.bind_eq_some_iff.mp hf
      refine ym_callV (pc := 1450) (G2 := g_X7_sum) (dep2 := 4) (As := [.int v1449]) (st := []) (stk2 := [.long q1450.1]) (r2 := (some (.long q1450.1))) (h1 := q1450.2) dL_law_1450 (ok_X7_sum e1450) (sc_L_law_X7_sum) wd_777 wd_778 wd_779 (ci := 7) (q0 := (RX7, TX7, 10)) rfl (by decide) rfl f1450 rfl rfl (ym_st4 (Nat.le_of_ble_eq_true rfl)) rfl ?_
      refine ym_aload_n (pc := 1453) 2 dL_law_1453 rfl rfl ?_
      refine ym_aload_n (pc := 1454) 0 dL_law_1454 rfl rfl ?_
      refine ym_iload_n (pc := 1455) 3 dL_law_1455 rfl rfl ?_
      refine ym_iconst (pc := 1456) (v := 1) dL_law_1456 (by decide) ?_
      refine ym_iadd (pc := 1457) dL_law_1457 ?_
      obtain ⟨v1458, e1458, hf⟩ := Option.bind_eq_some_iff.mp hf
      refine ym_iald (pc := 1458) dL_law_1458 rfl (ym_ldI_v e1458) ?_
      obtain ⟨o1459, f1459, hf⟩ := Option.bind_eq_some_iff.mp hf
      obtain ⟨q1459, e1459, hf⟩ := Option.bind_eq_some_iff.mp hf
      refine ym_callV (pc := 1459) (G2 := g_X8_sum) (dep2 := 3) (As := [.int v1458]) (st := [.long q1450.1]) (stk2 := [.long q1459.1, .long q1450.1]) (r2 := (some (.long q1459.1))) (h1 := q1459.2) dL_law_1459 (ok_X8_sum e1459) (sc_L_law_X8_sum) wd_1389 wd_1390 wd_1391 (ci := 8) (q0 := (RX8, TX8, 58)) rfl (by decide) rfl f1459 rfl rfl (ym_st4 (Nat.le_of_ble_eq_true rfl)) rfl ?_
      by_cases c1462 : q1450.1 = q1459.1
      · rw [if_pos c1462] at hf
        refine ym_lcmp_eq_y (pc := 1462) (tgt := 1685) dL_law_1462 dL_law_1463 (by decide) c1462 ?_
        exact ym_sub [0, 1, 2, 3] rfl (ob_L_law_1685_18 hKl hf k)
      · rw [if_neg c1462] at hf
        refine ym_lcmp_eq_n (pc := 1462) (tgt := 1685) dL_law_1462 dL_law_1463 (by decide) c1462 ?_
        refine ym_iconst (pc := 1466) (v := 0) dL_law_1466 (by decide) ?_
        cases hf
        obtain ⟨rfl, rfl⟩ := k
        exact ym_zret (pc := 1467) dL_law_1467 rfl rfl
    rw [if_neg c33_29] at hf
    by_cases c33_30 : (v29 &&& 63) = 30
    · rw [if_pos c33_30] at hf
      refine ym_swIn (pc := 33) (off := 1435) (tgt := 1468) dL_law_33 (by rw [c33_30]; decide) (by rw [c33_30]; decide) (by rw [c33_30]; decide) (by decide) ?_
      refine ym_aload_n (pc := 1468) 1 dL_law_1468 rfl rfl ?_
      refine ym_aload_n (pc := 1469) 0 dL_law_1469 rfl rfl ?_
      refine ym_iload_n (pc := 1470) 3 dL_law_1470 rfl rfl ?_
      refine ym_iconst (pc := 1471) (v := 1) dL_law_1471 (by decide) ?_
      refine ym_iadd (pc := 1472) dL_law_1472 ?_
      obtain ⟨v1473, e1473, hf⟩ := Option.bind_eq_some_iff.mp hf
      refine ym_iald (pc := 1473) dL_law_1473 rfl (ym_ldI_v e1473) ?_
      obtain ⟨o1474, f1474, hf⟩ := Option.bind_eq_some_iff.mp hf
      obtain ⟨q1474, e1474, hf⟩ := Option.bind_eq_some_iff.mp hf
      refine ym_callV (pc := 1474) (G2 := g_X7_entries) (dep2 := 4) (As := [.int v1473]) (st := []) (stk2 := [.int q1474.1]) (r2 := (some (.int q1474.1))) (h1 := q1474.2) dL_law_1474 (ok_X7_entries e1474) (sc_L_law_X7_entries) wd_781 wd_782 wd_783 (ci := 7) (q0 := (RX7, TX7, 10)) rfl (by decide) rfl f1474 rfl rfl (ym_st4 (Nat.le_of_ble_eq_true rfl)) rfl ?_
      refine ym_aload_n (pc := 1477) 2 dL_law_1477 rfl rfl ?_
      refine ym_aload_n (pc := 1478) 0 dL_law_1478 rfl rfl ?_
      refine ym_iload_n (pc := 1479) 3 dL_law_1479 rfl rfl ?_
      refine ym_iconst (pc := 1480) (v := 1) dL_law_1480 (by decide) ?_
      refine ym_iadd (pc := 1481) dL_law_1481 ?_
      obtain ⟨v1482, e1482, hf⟩ := Option.bind_eq_some_iff.mp hf
      refine ym_iald (pc := 1482) dL_law_1482 rfl (ym_ldI_v e1482) ?_
      obtain ⟨o1483, f1483, hf⟩ := Option.bind_eq_some_iff.mp hf
      obtain ⟨q1483, e1483, hf⟩ := Option.bind_eq_some_iff.mp hf
      refine ym_callV (pc := 1483) (G2 := g_X8_entries) (dep2 := 3) (As := [.int v1482]) (st := [.int q1474.1]) (stk2 := [.int q1483.1, .int q1474.1]) (r2 := (some (.int q1483.1))) (h1 := q1483.2) dL_law_1483 (ok_X8_entries e1483) (sc_L_law_X8_entries) wd_1393 wd_1394 wd_1395 (ci := 8) (q0 := (RX8, TX8, 58)) rfl (by decide) rfl f1483 rfl rfl (ym_st4 (Nat.le_of_ble_eq_true rfl)) rfl ?_
      by_cases c1486 : q1474.1 = q1483.1
      · rw [if_pos c1486] at hf
        refine ym_icmp_eq_y (pc := 1486) (tgt := 1685) dL_law_1486 (by decide) c1486 ?_
        exact ym_sub [0, 1, 2, 3] rfl (ob_L_law_1685_18 hKl hf k)
      · rw [if_neg c1486] at hf
        refine ym_icmp_eq_n (pc := 1486) (tgt := 1685) dL_law_1486 (by decide) c1486 ?_
        refine ym_iconst (pc := 1489) (v := 0) dL_law_1489 (by decide) ?_
        cases hf
        obtain ⟨rfl, rfl⟩ := k
        exact ym_zret (pc := 1490) dL_law_1490 rfl rfl
    rw [if_neg c33_30] at hf
    by_cases c33_31 : (v29 &&& 63) = 31
    · rw [if_pos c33_31] at hf
      refine ym_swIn (pc := 33) (off := 1458) (tgt := 1491) dL_law_33 (by rw [c33_31]; decide) (by rw [c33_31]; decide) (by rw [c33_31]; decide) (by decide) ?_
      refine ym_aload_n (pc := 1491) 1 dL_law_1491 rfl rfl ?_
      refine ym_aload_n (pc := 1492) 0 dL_law_1492 rfl rfl ?_
      refine ym_iload_n (pc := 1493) 3 dL_law_1493 rfl rfl ?_
      refine ym_iconst (pc := 1494) (v := 1) dL_law_1494 (by decide) ?_
      refine ym_iadd (pc := 1495) dL_law_1495 ?_
      obtain ⟨v1496, e1496, hf⟩ := Option.bind_eq_some_iff.mp hf
      refine ym_iald (pc := 1496) dL_law_1496 rfl (ym_ldI_v e1496) ?_
      refine ym_aload_n (pc := 1497) 0 dL_law_1497 rfl rfl ?_
      refine ym_iload_n (pc := 1498) 3 dL_law_1498 rfl rfl ?_
      refine ym_iconst (pc := 1499) (v := 2) dL_law_1499 (by decide) ?_
      refine ym_iadd (pc := 1500) dL_law_1500 ?_
      obtain ⟨v1501, e1501, hf⟩ := Option.bind_eq_some_iff.mp hf
      refine ym_iald (pc := 1501) dL_law_1501 rfl (ym_ldI_v e1501) ?_
      obtain ⟨o1502, f1502, hf⟩ := Option.bind_eq_some_iff.mp hf
      obtain ⟨q1502, e1502, hf⟩ := Option.bind_eq_some_iff.mp hf
      refine ym_callV (pc := 1502) (G2 := g_X7_cause) (dep2 := 4) (As := [.int v1496, .int v1501]) (st := []) (stk2 := [.int q1502.1]) (r2 := (some (.int q1502.1))) (h1 := q1502.2) dL_law_1502 (ok_X7_cause e1502) (sc_L_law_X7_cause) wd_785 wd_786 wd_787 (ci := 7) (q0 := (RX7, TX7, 10)) rfl (by decide) rfl f1502 rfl rfl (ym_st4 (Nat.le_of_ble_eq_true rfl)) rfl ?_
      refine ym_aload_n (pc := 1505) 2 dL_law_1505 rfl rfl ?_
      refine ym_aload_n (pc := 1506) 0 dL_law_1506 rfl rfl ?_
      refine ym_iload_n (pc := 1507) 3 dL_law_1507 rfl rfl ?_
      refine ym_iconst (pc := 1508) (v := 1) dL_law_1508 (by decide) ?_
      refine ym_iadd (pc := 1509) dL_law_1509 ?_
      obtain ⟨v1510, e1510, hf⟩ := Option.bind_eq_some_iff.mp hf
      refine ym_iald (pc := 1510) dL_law_1510 rfl (ym_ldI_v e1510) ?_
      refine ym_aload_n (pc := 1511) 0 dL_law_1511 rfl rfl ?_
      refine ym_iload_n (pc := 1512) 3 dL_law_1512 rfl rfl ?_
      refine ym_iconst (pc := 1513) (v := 2) dL_law_1513 (by decide) ?_
      refine ym_iadd (pc := 1514) dL_law_1514 ?_
      obtain ⟨v1515, e1515, hf⟩ := Option.bind_eq_some_iff.mp hf
      refine ym_iald (pc := 1515) dL_law_1515 rfl (ym_ldI_v e1515) ?_
      obtain ⟨o1516, f1516, hf⟩ := Option.bind_eq_some_iff.mp hf
      obtain ⟨q1516, e1516, hf⟩ := Option.bind_eq_some_iff.mp hf
      refine ym_callV (pc := 1516) (G2 := g_X8_cause) (dep2 := 3) (As := [.int v1510, .int v1515]) (st := [.int q1502.1]) (stk2 := [.int q1516.1, .int q1502.1]) (r2 := (some (.int q1516.1))) (h1 := q1516.2) dL_law_1516 (ok_X8_cause e1516) (sc_L_law_X8_cause) wd_1397 wd_1398 wd_1399 (ci := 8) (q0 := (RX8, TX8, 58)) rfl (by decide) rfl f1516 rfl rfl (ym_st4 (Nat.le_of_ble_eq_true rfl)) rfl ?_
      by_cases c1519 : q1502.1 = q1516.1
      · rw [if_pos c1519] at hf
        refine ym_icmp_eq_y (pc := 1519) (tgt := 1685) dL_law_1519 (by decide) c1519 ?_
        exact ym_sub [0, 1, 2, 3] rfl (ob_L_law_1685_18 hKl hf k)
      · rw [if_neg c1519] at hf
        refine ym_icmp_eq_n (pc := 1519) (tgt := 1685) dL_law_1519 (by decide) c1519 ?_
        refine ym_iconst (pc := 1522) (v := 0) dL_law_1522 (by decide) ?_
        cases hf
        obtain ⟨rfl, rfl⟩ := k
        exact ym_zret (pc := 1523) dL_law_1523 rfl rfl
    rw [if_neg c33_31] at hf
    by_cases c33_32 : (v29 &&& 63) = 32
    · rw [if_pos c33_32] at hf
      refine ym_swIn (pc := 33) (off := 1491) (tgt := 1524) dL_law_33 (by rw [c33_32]; decide) (by rw [c33_32]; decide) (by rw [c33_32]; decide) (by decide) ?_
      refine ym_aload_n (pc := 1524) 1 dL_law_1524 rfl rfl ?_
      refine ym_aload_n (pc := 1525) 0 dL_law_1525 rfl rfl ?_
      refine ym_iload_n (pc := 1526) 3 dL_law_1526 rfl rfl ?_
      refine ym_iconst (pc := 1527) (v := 1) dL_law_1527 (by decide) ?_
      refine ym_iadd (pc := 1528) dL_law_1528 ?_
      obtain ⟨v1529, e1529, hf⟩ := Option.bind_eq_some_iff.mp hf
      refine ym_iald (pc := 1529) dL_law_1529 rfl (ym_ldI_v e1529) ?_
      obtain ⟨o1530, f1530, hf⟩ := Option.bind_eq_some_iff.mp hf
      obtain ⟨q1530, e1530, hf⟩ := Option.bind_eq_some_iff.mp hf
      refine ym_callV (pc := 1530) (G2 := g_X7_balance) (dep2 := 4) (As := [.int v1529]) (st := []) (stk2 := [.long q1530.1]) (r2 := (some (.long q1530.1))) (h1 := q1530.2) dL_law_1530 (ok_X7_balance e1530) (sc_L_law_X7_balance) wd_789 wd_790 wd_791 (ci := 7) (q0 := (RX7, TX7, 10)) rfl (by decide) rfl f1530 rfl rfl (ym_st4 (Nat.le_of_ble_eq_true rfl)) rfl ?_
      refine ym_aload_n (pc := 1533) 2 dL_law_1533 rfl rfl ?_
      refine ym_aload_n (pc := 1534) 0 dL_law_1534 rfl rfl ?_
      refine ym_iload_n (pc := 1535) 3 dL_law_1535 rfl rfl ?_
      refine ym_iconst (pc := 1536) (v := 1) dL_law_1536 (by decide) ?_
      refine ym_iadd (pc := 1537) dL_law_1537 ?_
      obtain ⟨v1538, e1538, hf⟩ := Option.bind_eq_some_iff.mp hf
      refine ym_iald (pc := 1538) dL_law_1538 rfl (ym_ldI_v e1538) ?_
      obtain ⟨o1539, f1539, hf⟩ := Option.bind_eq_some_iff.mp hf
      obtain ⟨q1539, e1539, hf⟩ := Option.bind_eq_some_iff.mp hf
      refine ym_callV (pc := 1539) (G2 := g_X8_balance) (dep2 := 3) (As := [.int v1538]) (st := [.long q1530.1]) (stk2 := [.long q1539.1, .long q1530.1]) (r2 := (some (.long q1539.1))) (h1 := q1539.2) dL_law_1539 (ok_X8_balance e1539) (sc_L_law_X8_balance) wd_1401 wd_1402 wd_1403 (ci := 8) (q0 := (RX8, TX8, 58)) rfl (by decide) rfl f1539 rfl rfl (ym_st4 (Nat.le_of_ble_eq_true rfl)) rfl ?_
      by_cases c1542 : q1530.1 = q1539.1
      · rw [if_pos c1542] at hf
        refine ym_lcmp_eq_y (pc := 1542) (tgt := 1685) dL_law_1542 dL_law_1543 (by decide) c1542 ?_
        exact ym_sub [0, 1, 2, 3] rfl (ob_L_law_1685_18 hKl hf k)
      · rw [if_neg c1542] at hf
        refine ym_lcmp_eq_n (pc := 1542) (tgt := 1685) dL_law_1542 dL_law_1543 (by decide) c1542 ?_
        refine ym_iconst (pc := 1546) (v := 0) dL_law_1546 (by decide) ?_
        cases hf
        obtain ⟨rfl, rfl⟩ := k
        exact ym_zret (pc := 1547) dL_law_1547 rfl rfl
    rw [if_neg c33_32] at hf
    by_cases c33_33 : (v29 &&& 63) = 33
    · rw [if_pos c33_33] at hf
      refine ym_swIn (pc := 33) (off := 1515) (tgt := 1548) dL_law_33 (by rw [c33_33]; decide) (by rw [c33_33]; decide) (by rw [c33_33]; decide) (by decide) ?_
      refine ym_aload_n (pc := 1548) 1 dL_law_1548 rfl rfl ?_
      refine ym_aload_n (pc := 1549) 0 dL_law_1549 rfl rfl ?_
      refine ym_iload_n (pc := 1550) 3 dL_law_1550 rfl rfl ?_
      refine ym_iconst (pc := 1551) (v := 1) dL_law_1551 (by decide) ?_
      refine ym_iadd (pc := 1552) dL_law_1552 ?_
      obtain ⟨v1553, e1553, hf⟩ := Option.bind_eq_some_iff.mp hf
      refine ym_iald (pc := 1553) dL_law_1553 rfl (ym_ldI_v e1553) ?_
      obtain ⟨o1554, f1554, hf⟩ := Option.bind_eq_some_iff.mp hf
      obtain ⟨q1554, e1554, hf⟩ := Option.bind_eq_some_iff.mp hf
      refine ym_callV (pc := 1554) (G2 := g_X7_account) (dep2 := 2) (As := [.int v1553]) (st := []) (stk2 := [.long q1554.1]) (r2 := (some (.long q1554.1))) (h1 := q1554.2) dL_law_1554 (ok_X7_account e1554) (sc_L_law_X7_account) wd_793 wd_794 wd_795 (ci := 7) (q0 := (RX7, TX7, 10)) rfl (by decide) rfl f1554 rfl rfl (ym_st4 (Nat.le_of_ble_eq_true rfl)) rfl ?_
      refine ym_aload_n (pc := 1557) 2 dL_law_1557 rfl rfl ?_
      refine ym_aload_n (pc := 1558) 0 dL_law_1558 rfl rfl ?_
      refine ym_iload_n (pc := 1559) 3 dL_law_1559 rfl rfl ?_
      refine ym_iconst (pc := 1560) (v := 1) dL_law_1560 (by decide) ?_
      refine ym_iadd (pc := 1561) dL_law_1561 ?_
      obtain ⟨v1562, e1562, hf⟩ := Option.bind_eq_some_iff.mp hf
      refine ym_iald (pc := 1562) dL_law_1562 rfl (ym_ldI_v e1562) ?_
      obtain ⟨o1563, f1563, hf⟩ := Option.bind_eq_some_iff.mp hf
      obtain ⟨q1563, e1563, hf⟩ := Option.bind_eq_some_iff.mp hf
      refine ym_callV (pc := 1563) (G2 := g_X8_account) (dep2 := 1) (As := [.int v1562]) (st := [.long q1554.1]) (stk2 := [.long q1563.1, .long q1554.1]) (r2 := (some (.long q1563.1))) (h1 := q1563.2) dL_law_1563 (ok_X8_account e1563) (sc_L_law_X8_account) wd_1405 wd_1406 wd_1407 (ci := 8) (q0 := (RX8, TX8, 58)) rfl (by decide) rfl f1563 rfl rfl (ym_st4 (Nat.le_of_ble_eq_true rfl)) rfl ?_
      by_cases c1566 : q1554.1 = q1563.1
      · rw [if_pos c1566] at hf
        refine ym_lcmp_eq_y (pc := 1566) (tgt := 1685) dL_law_1566 dL_law_1567 (by decide) c1566 ?_
        exact ym_sub [0, 1, 2, 3] rfl (ob_L_law_1685_18 hKl hf k)
      · rw [if_neg c1566] at hf
        refine ym_lcmp_eq_n (pc := 1566) (tgt := 1685) dL_law_1566 dL_law_1567 (by decide) c1566 ?_
        refine ym_iconst (pc := 1570) (v := 0) dL_law_1570 (by decide) ?_
        cases hf
        obtain ⟨rfl, rfl⟩ := k
        exact ym_zret (pc := 1571) dL_law_1571 rfl rfl
    rw [if_neg c33_33] at hf
    by_cases c33_34 : (v29 &&& 63) = 34
    · rw [if_pos c33_34] at hf
      refine ym_swIn (pc := 33) (off := 1539) (tgt := 1572) dL_law_33 (by rw [c33_34]; decide) (by rw [c33_34]; decide) (by rw [c33_34]; decide) (by decide) ?_
      refine ym_aload_n (pc := 1572) 1 dL_law_1572 rfl rfl ?_
      obtain ⟨o1573, f1573, hf⟩ := Option.bind_eq_some_iff.mp hf
      obtain ⟨q1573, e1573, hf⟩ := Option.bind_eq_some_iff.mp hf
      refine ym_callV (pc := 1573) (G2 := g_X7_total) (dep2 := 5) (As := []) (st := []) (stk2 := [.long q1573.1]) (r2 := (some (.long q1573.1))) (h1 := q1573.2) dL_law_1573 (ok_X7_total e1573) (sc_L_law_X7_total) wd_797 wd_798 wd_799 (ci := 7) (q0 := (RX7, TX7, 10)) rfl (by decide) rfl f1573 rfl rfl (ym_st4 (Nat.le_of_ble_eq_true rfl)) rfl ?_
      refine ym_aload_n (pc := 1576) 2 dL_law_1576 rfl rfl ?_
      obtain ⟨o1577, f1577, hf⟩ := Option.bind_eq_some_iff.mp hf
      obtain ⟨q1577, e1577, hf⟩ := Option.bind_eq_some_iff.mp hf
      refine ym_callV (pc := 1577) (G2 := g_X8_total) (dep2 := 1) (As := []) (st := [.long q1573.1]) (stk2 := [.long q1577.1, .long q1573.1]) (r2 := (some (.long q1577.1))) (h1 := q1577.2) dL_law_1577 (ok_X8_total e1577) (sc_L_law_X8_total) wd_1409 wd_1410 wd_1411 (ci := 8) (q0 := (RX8, TX8, 58)) rfl (by decide) rfl f1577 rfl rfl (ym_st4 (Nat.le_of_ble_eq_true rfl)) rfl ?_
      by_cases c1580 : q1573.1 = q1577.1
      · rw [if_pos c1580] at hf
        refine ym_lcmp_eq_y (pc := 1580) (tgt := 1685) dL_law_1580 dL_law_1581 (by decide) c1580 ?_
        exact ym_sub [0, 1, 2, 3] rfl (ob_L_law_1685_18 hKl hf k)
      · rw [if_neg c1580] at hf
        refine ym_lcmp_eq_n (pc := 1580) (tgt := 1685) dL_law_1580 dL_law_1581 (by decide) c1580 ?_
        refine ym_iconst (pc := 1584) (v := 0) dL_law_1584 (by decide) ?_
        cases hf
        obtain ⟨rfl, rfl⟩ := k
        exact ym_zret (pc := 1585) dL_law_1585 rfl rfl
    rw [if_neg c33_34] at hf
    by_cases c33_35 : (v29 &&& 63) = 35
    · rw [if_pos c33_35] at hf
      refine ym_swIn (pc := 33) (off := 1553) (tgt := 1586) dL_law_33 (by rw [c33_35]; decide) (by rw [c33_35]; decide) (by rw [c33_35]; decide) (by decide) ?_
      refine ym_aload_n (pc := 1586) 1 dL_law_1586 rfl rfl ?_
      refine ym_aload_n (pc := 1587) 0 dL_law_1587 rfl rfl ?_
      refine ym_iload_n (pc := 1588) 3 dL_law_1588 rfl rfl ?_
      refine ym_iconst (pc := 1589) (v := 1) dL_law_1589 (by decide) ?_
      refine ym_iadd (pc := 1590) dL_law_1590 ?_
      obtain ⟨v1591, e1591, hf⟩ := Option.bind_eq_some_iff.mp hf
      refine ym_iald (pc := 1591) dL_law_1591 rfl (ym_ldI_v e1591) ?_
      obtain ⟨o1592, f1592, hf⟩ := Option.bind_eq_some_iff.mp hf
      obtain ⟨q1592, e1592, hf⟩ := Option.bind_eq_some_iff.mp hf
      refine ym_callV (pc := 1592) (G2 := g_X7_numbers) (dep2 := 1) (As := [.int v1591]) (st := []) (stk2 := [.int q1592.1]) (r2 := (some (.int q1592.1))) (h1 := q1592.2) dL_law_1592 (ok_X7_numbers e1592) (sc_L_law_X7_numbers) wd_802 wd_803 wd_804 (ci := 7) (q0 := (RX7, TX7, 10)) rfl (by decide) rfl f1592 rfl rfl (ym_st4 (Nat.le_of_ble_eq_true rfl)) rfl ?_
      refine ym_aload_n (pc := 1595) 2 dL_law_1595 rfl rfl ?_
      refine ym_aload_n (pc := 1596) 0 dL_law_1596 rfl rfl ?_
      refine ym_iload_n (pc := 1597) 3 dL_law_1597 rfl rfl ?_
      refine ym_iconst (pc := 1598) (v := 1) dL_law_1598 (by decide) ?_
      refine ym_iadd (pc := 1599) dL_law_1599 ?_
      obtain ⟨v1600, e1600, hf⟩ := Option.bind_eq_some_iff.mp hf
      refine ym_iald (pc := 1600) dL_law_1600 rfl (ym_ldI_v e1600) ?_
      obtain ⟨o1601, f1601, hf⟩ := Option.bind_eq_some_iff.mp hf
      obtain ⟨q1601, e1601, hf⟩ := Option.bind_eq_some_iff.mp hf
      refine ym_callV (pc := 1601) (G2 := g_X8_numbers) (dep2 := 1) (As := [.int v1600]) (st := [.int q1592.1]) (stk2 := [.int q1601.1, .int q1592.1]) (r2 := (some (.int q1601.1))) (h1 := q1601.2) dL_law_1601 (ok_X8_numbers e1601) (sc_L_law_X8_numbers) wd_1413 wd_1414 wd_1415 (ci := 8) (q0 := (RX8, TX8, 58)) rfl (by decide) rfl f1601 rfl rfl (ym_st4 (Nat.le_of_ble_eq_true rfl)) rfl ?_
      by_cases c1604 : q1592.1 = q1601.1
      · rw [if_pos c1604] at hf
        refine ym_icmp_eq_y (pc := 1604) (tgt := 1685) dL_law_1604 (by decide) c1604 ?_
        exact ym_sub [0, 1, 2, 3] rfl (ob_L_law_1685_18 hKl hf k)
      · rw [if_neg c1604] at hf
        refine ym_icmp_eq_n (pc := 1604) (tgt := 1685) dL_law_1604 (by decide) c1604 ?_
        refine ym_iconst (pc := 1607) (v := 0) dL_law_1607 (by decide) ?_
        cases hf
        obtain ⟨rfl, rfl⟩ := k
        exact ym_zret (pc := 1608) dL_law_1608 rfl rfl
    rw [if_neg c33_35] at hf
    by_cases c33_36 : (v29 &&& 63) = 36
    · rw [if_pos c33_36] at hf
      refine ym_swIn (pc := 33) (off := 1576) (tgt := 1609) dL_law_33 (by rw [c33_36]; decide) (by rw [c33_36]; decide) (by rw [c33_36]; decide) (by decide) ?_
      refine ym_aload_n (pc := 1609) 1 dL_law_1609 rfl rfl ?_
      obtain ⟨o1610, f1610, hf⟩ := Option.bind_eq_some_iff.mp hf
      obtain ⟨q1610, e1610, hf⟩ := Option.bind_eq_some_iff.mp hf
      refine ym_callV (pc := 1610) (G2 := g_X7_tries) (dep2 := 1) (As := []) (st := []) (stk2 := [.int q1610.1]) (r2 := (some (.int q1610.1))) (h1 := q1610.2) dL_law_1610 (ok_X7_tries e1610) (sc_L_law_X7_tries) wd_806 wd_807 wd_808 (ci := 7) (q0 := (RX7, TX7, 10)) rfl (by decide) rfl f1610 rfl rfl (ym_st4 (Nat.le_of_ble_eq_true rfl)) rfl ?_
      refine ym_aload_n (pc := 1613) 2 dL_law_1613 rfl rfl ?_
      obtain ⟨o1614, f1614, hf⟩ := Option.bind_eq_some_iff.mp hf
      obtain ⟨q1614, e1614, hf⟩ := Option.bind_eq_some_iff.mp hf
      refine ym_callV (pc := 1614) (G2 := g_X8_tries) (dep2 := 1) (As := []) (st := [.int q1610.1]) (stk2 := [.int q1614.1, .int q1610.1]) (r2 := (some (.int q1614.1))) (h1 := q1614.2) dL_law_1614 (ok_X8_tries e1614) (sc_L_law_X8_tries) wd_1417 wd_1418 wd_1419 (ci := 8) (q0 := (RX8, TX8, 58)) rfl (by decide) rfl f1614 rfl rfl (ym_st4 (Nat.le_of_ble_eq_true rfl)) rfl ?_
      by_cases c1617 : q1610.1 = q1614.1
      · rw [if_pos c1617] at hf
        refine ym_icmp_eq_y (pc := 1617) (tgt := 1685) dL_law_1617 (by decide) c1617 ?_
        exact ym_sub [0, 1, 2, 3] rfl (ob_L_law_1685_18 hKl hf k)
      · rw [if_neg c1617] at hf
        refine ym_icmp_eq_n (pc := 1617) (tgt := 1685) dL_law_1617 (by decide) c1617 ?_
        refine ym_iconst (pc := 1620) (v := 0) dL_law_1620 (by decide) ?_
        cases hf
        obtain ⟨rfl, rfl⟩ := k
        exact ym_zret (pc := 1621) dL_law_1621 rfl rfl
    rw [if_neg c33_36] at hf
    by_cases c33_37 : (v29 &&& 63) = 37
    · rw [if_pos c33_37] at hf
      refine ym_swIn (pc := 33) (off := 1589) (tgt := 1622) dL_law_33 (by rw [c33_37]; decide) (by rw [c33_37]; decide) (by rw [c33_37]; decide) (by decide) ?_
      refine ym_aload_n (pc := 1622) 1 dL_law_1622 rfl rfl ?_
      obtain ⟨o1623, f1623, hf⟩ := Option.bind_eq_some_iff.mp hf
      obtain ⟨q1623, e1623, hf⟩ := Option.bind_eq_some_iff.mp hf
      refine ym_callV (pc := 1623) (G2 := g_X7_why) (dep2 := 1) (As := []) (st := []) (stk2 := [.int q1623.1]) (r2 := (some (.int q1623.1))) (h1 := q1623.2) dL_law_1623 (ok_X7_why e1623) (sc_L_law_X7_why) wd_810 wd_811 wd_812 (ci := 7) (q0 := (RX7, TX7, 10)) rfl (by decide) rfl f1623 rfl rfl (ym_st4 (Nat.le_of_ble_eq_true rfl)) rfl ?_
      refine ym_aload_n (pc := 1626) 2 dL_law_1626 rfl rfl ?_
      obtain ⟨o1627, f1627, hf⟩ := Option.bind_eq_some_iff.mp hf
      obtain ⟨q1627, e1627, hf⟩ := Option.bind_eq_some_iff.mp hf
      refine ym_callV (pc := 1627) (G2 := g_X8_why) (dep2 := 1) (As := []) (st := [.int q1623.1]) (stk2 := [.int q1627.1, .int q1623.1]) (r2 := (some (.int q1627.1))) (h1 := q1627.2) dL_law_1627 (ok_X8_why e1627) (sc_L_law_X8_why) wd_1421 wd_1422 wd_1423 (ci := 8) (q0 := (RX8, TX8, 58)) rfl (by decide) rfl f1627 rfl rfl (ym_st4 (Nat.le_of_ble_eq_true rfl)) rfl ?_
      by_cases c1630 : q1623.1 = q1627.1
      · rw [if_pos c1630] at hf
        refine ym_icmp_eq_y (pc := 1630) (tgt := 1685) dL_law_1630 (by decide) c1630 ?_
        exact ym_sub [0, 1, 2, 3] rfl (ob_L_law_1685_18 hKl hf k)
      · rw [if_neg c1630] at hf
        refine ym_icmp_eq_n (pc := 1630) (tgt := 1685) dL_law_1630 (by decide) c1630 ?_
        refine ym_iconst (pc := 1633) (v := 0) dL_law_1633 (by decide) ?_
        cases hf
        obtain ⟨rfl, rfl⟩ := k
        exact ym_zret (pc := 1634) dL_law_1634 rfl rfl
    rw [if_neg c33_37] at hf
    by_cases c33_38 : (v29 &&& 63) = 38
    · rw [if_pos c33_38] at hf
      refine ym_swIn (pc := 33) (off := 1602) (tgt := 1635) dL_law_33 (by rw [c33_38]; decide) (by rw [c33_38]; decide) (by rw [c33_38]; decide) (by decide) ?_
      refine ym_aload_n (pc := 1635) 1 dL_law_1635 rfl rfl ?_
      refine ym_aload_n (pc := 1636) 0 dL_law_1636 rfl rfl ?_
      refine ym_iload_n (pc := 1637) 3 dL_law_1637 rfl rfl ?_
      refine ym_iconst (pc := 1638) (v := 1) dL_law_1638 (by decide) ?_
      refine ym_iadd (pc := 1639) dL_law_1639 ?_
      obtain ⟨v1640, e1640, hf⟩ := Option.bind_eq_some_iff.mp hf
      refine ym_iald (pc := 1640) dL_law_1640 rfl (ym_ldI_v e1640) ?_
      obtain ⟨o1641, f1641, hf⟩ := Option.bind_eq_some_iff.mp hf
      obtain ⟨q1641, e1641, hf⟩ := Option.bind_eq_some_iff.mp hf
      refine ym_callV (pc := 1641) (G2 := g_X7_trace) (dep2 := 2) (As := [.int v1640]) (st := []) (stk2 := [.int q1641.1]) (r2 := (some (.int q1641.1))) (h1 := q1641.2) dL_law_1641 (ok_X7_trace e1641) (sc_L_law_X7_trace) wd_814 wd_815 wd_816 (ci := 7) (q0 := (RX7, TX7, 10)) rfl (by decide) rfl f1641 rfl rfl (ym_st4 (Nat.le_of_ble_eq_true rfl)) rfl ?_
      refine ym_aload_n (pc := 1644) 2 dL_law_1644 rfl rfl ?_
      refine ym_aload_n (pc := 1645) 0 dL_law_1645 rfl rfl ?_
      refine ym_iload_n (pc := 1646) 3 dL_law_1646 rfl rfl ?_
      refine ym_iconst (pc := 1647) (v := 1) dL_law_1647 (by decide) ?_
      refine ym_iadd (pc := 1648) dL_law_1648 ?_
      obtain ⟨v1649, e1649, hf⟩ := Option.bind_eq_some_iff.mp hf
      refine ym_iald (pc := 1649) dL_law_1649 rfl (ym_ldI_v e1649) ?_
      obtain ⟨o1650, f1650, hf⟩ := Option.bind_eq_some_iff.mp hf
      obtain ⟨q1650, e1650, hf⟩ := Option.bind_eq_some_iff.mp hf
      refine ym_callV (pc := 1650) (G2 := g_X8_trace) (dep2 := 1) (As := [.int v1649]) (st := [.int q1641.1]) (stk2 := [.int q1650.1, .int q1641.1]) (r2 := (some (.int q1650.1))) (h1 := q1650.2) dL_law_1650 (ok_X8_trace e1650) (sc_L_law_X8_trace) wd_1425 wd_1426 wd_1427 (ci := 8) (q0 := (RX8, TX8, 58)) rfl (by decide) rfl f1650 rfl rfl (ym_st4 (Nat.le_of_ble_eq_true rfl)) rfl ?_
      by_cases c1653 : q1641.1 = q1650.1
      · rw [if_pos c1653] at hf
        refine ym_icmp_eq_y (pc := 1653) (tgt := 1685) dL_law_1653 (by decide) c1653 ?_
        exact ym_sub [0, 1, 2, 3] rfl (ob_L_law_1685_18 hKl hf k)
      · rw [if_neg c1653] at hf
        refine ym_icmp_eq_n (pc := 1653) (tgt := 1685) dL_law_1653 (by decide) c1653 ?_
        refine ym_iconst (pc := 1656) (v := 0) dL_law_1656 (by decide) ?_
        cases hf
        obtain ⟨rfl, rfl⟩ := k
        exact ym_zret (pc := 1657) dL_law_1657 rfl rfl
    rw [if_neg c33_38] at hf
    by_cases c33_39 : (v29 &&& 63) = 39
    · rw [if_pos c33_39] at hf
      refine ym_swIn (pc := 33) (off := 1625) (tgt := 1658) dL_law_33 (by rw [c33_39]; decide) (by rw [c33_39]; decide) (by rw [c33_39]; decide) (by decide) ?_
      refine ym_aload_n (pc := 1658) 1 dL_law_1658 rfl rfl ?_
      obtain ⟨o1659, f1659, hf⟩ := Option.bind_eq_some_iff.mp hf
      obtain ⟨q1659, e1659, hf⟩ := Option.bind_eq_some_iff.mp hf
      refine ym_callV (pc := 1659) (G2 := g_X7_batches) (dep2 := 2) (As := []) (st := []) (stk2 := [.int q1659.1]) (r2 := (some (.int q1659.1))) (h1 := q1659.2) dL_law_1659 (ok_X7_batches e1659) (sc_L_law_X7_batches) wd_822 wd_823 wd_824 (ci := 7) (q0 := (RX7, TX7, 10)) rfl (by decide) rfl f1659 rfl rfl (ym_st4 (Nat.le_of_ble_eq_true rfl)) rfl ?_
      refine ym_aload_n (pc := 1662) 2 dL_law_1662 rfl rfl ?_
      obtain ⟨o1663, f1663, hf⟩ := Option.bind_eq_some_iff.mp hf
      obtain ⟨q1663, e1663, hf⟩ := Option.bind_eq_some_iff.mp hf
      refine ym_callV (pc := 1663) (G2 := g_X8_batches) (dep2 := 1) (As := []) (st := [.int q1659.1]) (stk2 := [.int q1663.1, .int q1659.1]) (r2 := (some (.int q1663.1))) (h1 := q1663.2) dL_law_1663 (ok_X8_batches e1663) (sc_L_law_X8_batches) wd_1429 wd_1430 wd_1431 (ci := 8) (q0 := (RX8, TX8, 58)) rfl (by decide) rfl f1663 rfl rfl (ym_st4 (Nat.le_of_ble_eq_true rfl)) rfl ?_
      by_cases c1666 : q1659.1 = q1663.1
      · rw [if_pos c1666] at hf
        refine ym_icmp_eq_y (pc := 1666) (tgt := 1685) dL_law_1666 (by decide) c1666 ?_
        exact ym_sub [0, 1, 2, 3] rfl (ob_L_law_1685_18 hKl hf k)
      · rw [if_neg c1666] at hf
        refine ym_icmp_eq_n (pc := 1666) (tgt := 1685) dL_law_1666 (by decide) c1666 ?_
        refine ym_iconst (pc := 1669) (v := 0) dL_law_1669 (by decide) ?_
        cases hf
        obtain ⟨rfl, rfl⟩ := k
        exact ym_zret (pc := 1670) dL_law_1670 rfl rfl
    rw [if_neg c33_39] at hf
    by_cases c33_40 : (v29 &&& 63) = 40
    · rw [if_pos c33_40] at hf
      refine ym_swIn (pc := 33) (off := 1638) (tgt := 1671) dL_law_33 (by rw [c33_40]; decide) (by rw [c33_40]; decide) (by rw [c33_40]; decide) (by decide) ?_
      refine ym_aload_n (pc := 1671) 1 dL_law_1671 rfl rfl ?_
      obtain ⟨o1672, f1672, hf⟩ := Option.bind_eq_some_iff.mp hf
      obtain ⟨q1672, e1672, hf⟩ := Option.bind_eq_some_iff.mp hf
      refine ym_callV (pc := 1672) (G2 := g_X7_digest) (dep2 := 6) (As := []) (st := []) (stk2 := [.long q1672.1]) (r2 := (some (.long q1672.1))) (h1 := q1672.2) dL_law_1672 (ok_X7_digest e1672) (sc_L_law_X7_digest) wd_826 wd_827 wd_828 (ci := 7) (q0 := (RX7, TX7, 10)) rfl (by decide) rfl f1672 rfl rfl (ym_st4 (Nat.le_of_ble_eq_true rfl)) rfl ?_
      refine ym_aload_n (pc := 1675) 2 dL_law_1675 rfl rfl ?_
      obtain ⟨o1676, f1676, hf⟩ := Option.bind_eq_some_iff.mp hf
      obtain ⟨q1676, e1676, hf⟩ := Option.bind_eq_some_iff.mp hf
      refine ym_callV (pc := 1676) (G2 := g_X8_digest) (dep2 := 3) (As := []) (st := [.long q1672.1]) (stk2 := [.long q1676.1, .long q1672.1]) (r2 := (some (.long q1676.1))) (h1 := q1676.2) dL_law_1676 (ok_X8_digest e1676) (sc_L_law_X8_digest) wd_1433 wd_1434 wd_1435 (ci := 8) (q0 := (RX8, TX8, 58)) rfl (by decide) rfl f1676 rfl rfl (ym_st4 (Nat.le_of_ble_eq_true rfl)) rfl ?_
      by_cases c1679 : q1672.1 = q1676.1
      · rw [if_pos c1679] at hf
        refine ym_lcmp_eq_y (pc := 1679) (tgt := 1685) dL_law_1679 dL_law_1680 (by decide) c1679 ?_
        exact ym_sub [0, 1, 2, 3] rfl (ob_L_law_1685_18 hKl hf k)
      · rw [if_neg c1679] at hf
        refine ym_lcmp_eq_n (pc := 1679) (tgt := 1685) dL_law_1679 dL_law_1680 (by decide) c1679 ?_
        refine ym_iconst (pc := 1683) (v := 0) dL_law_1683 (by decide) ?_
        cases hf
        obtain ⟨rfl, rfl⟩ := k
        exact ym_zret (pc := 1684) dL_law_1684 rfl rfl
    rw [if_neg c33_40] at hf
    refine ym_swOut (pc := 33) (tgt := 1685) dL_law_33 (sw_L_law_33 c33_0 c33_1 c33_2 c33_3 c33_4 c33_5 c33_6 c33_7 c33_8 c33_9 c33_10 c33_11 c33_12 c33_13 c33_14 c33_15 c33_16 c33_17 c33_18 c33_19 c33_20 c33_21 c33_22 c33_23 c33_24 c33_25 c33_26 c33_27 c33_28 c33_29 c33_30 c33_31 c33_32 c33_33 c33_34 c33_35 c33_36 c33_37 c33_38 c33_39 c33_40) (by decide) ?_
    exact ym_sub [0, 1, 2, 3] rfl (ob_L_law_1685_18 hKl hf k)
def lp_L_law_18 (N : Nat) : Nat → Option Nat → Option Nat → Option Nat → Int32 → ym_H → Option (((Unit) ⊕ Int32) × ym_H)
  | 0, _, _, _, _, _ => none
  | n + 1, w0, w1, w2, w3, h => lb_L_law_18 (lp_L_law_18 N n) N w0 w1 w2 w3 h
set_option maxRecDepth 20000 in
set_option maxHeartbeats 4000000 in
theorem ok_lp_L_law_18 {D : ym_D} {b0 : Nat} {N : Nat}  : ∀ (n : Nat) (w0 : Option Nat) (w1 : Option Nat) (w2 : Option Nat) (w3 : Int32) (h h1 : ym_H) (x : ((Unit) ⊕ Int32)), lp_L_law_18 N n w0 w1 w2 w3 h = some (x, h1) → ∀ {r0 : Option Value} {h' : ym_H}, Sum.elim (fun z => ym_Y D b0 g_L_law 40 1691 [] [] h1 r0 h') (fun z => r0 = (some (.int z)) ∧ h' = h1) x → ym_Y D b0 g_L_law 40 18 [(0, va_rf w0), (1, va_rf w1), (2, va_rf w2), (3, .int w3)] [] h r0 h' := by
  intro n
  induction n with
  | zero =>
    intro w0 w1 w2 w3 h h1 x hf
    cases hf
  | succ n ih =>
    intro w0 w1 w2 w3 h h1 x hf r0 h' k
    exact ol_L_law_18 (fun w0 w1 w2 w3 h h1 x z r0 h' k => ih w0 w1 w2 w3 h h1 x z k) hf k
def fn_L_law (N : Nat) (a0 : Option Nat) (h : ym_H) : Option (Int32 × ym_H) :=
  Option.bind (ym_nO h 10 (.inr (7, [.null, .null, .null, .null, .null, .null, .null, .int 0, .int 0, .int 0]))) fun h0 =>
  Option.bind (fn_X7_init N (some h.1) h0) fun q4 =>
  Option.bind (ym_nO q4.2 58 (.inr (8, [.int 0, .null, .null, .null, .int 0, .null, .null, .null, .null, .null, .null, .null, .null, .null, .null, .int 0, .null, .null, .null, .null, .null, .null, .null, .null, .null, .null, .null, .null, .null, .null, .null, .null, .null, .int 0, .null, .null, .int 0, .null, .null, .null, .null, .int 0, .null, .null, .null, .null, .null, .null, .null, .int 0, .null, .int 0, .int 0, .int 0, .null, .int 0, .int 0, .int 0]))) fun h8 =>
  Option.bind (fn_X8_init N (some q4.2.1) h8) fun q12 =>
  Option.bind (lp_L_law_18 N N a0 (some h.1) (some q4.2.1) 0 q12.2) fun q18 =>
  match q18.1 with
  | .inr y18 => some (y18, q18.2)
  | .inl z18 =>
    some (1, q18.2)
set_option maxRecDepth 20000 in
set_option maxHeartbeats 4000000 in
theorem ok_L_law {D : ym_D} {b0 : Nat} {N : Nat} {a0 : Option Nat} {h h' : ym_H} {r : Int32} (hf : fn_L_law N a0 h = some (r, h')) : ym_Y D b0 g_L_law 40 0 [(0, va_rf a0)] [] h (some (.int r)) h' := by
  unfold fn_L_law at hf
  obtain ⟨h0, e0, hf⟩ := Option.bind_eq_some_iff.mp hf
  refine ym_newP (pc := 0) (h1 := h0) (ci := 7) [.null, .null, .null, .null, .null, .null, .null, .int 0, .int 0, .int 0] dL_law_0 rfl iX7 tyX7 tyX7_ok wd_88 wd_89 wd_76 (by decide +kernel) e0 ?_
  refine ym_dup (pc := 3) dL_law_3 (ym_c1 (some h.1)) ?_
  obtain ⟨q4, e4, hf⟩ := Option.bind_eq_some_iff.mp hf
  refine ym_callI (pc := 4) (G2 := g_X7_init) (dep2 := 5) (a := (some h.1)) (As := []) (st := [va_rf (some h.1)]) (stk2 := [va_rf (some h.1)]) (r2 := none) (h1 := q4.2) dL_law_4 (ok_X7_init e4) (sc_L_law_X7_init) rfl rfl wd_90 wd_91 (Option.some_ne_none _) rfl rfl (ym_st4 (Nat.le_of_ble_eq_true rfl)) rfl ?_
  refine ym_astore_n (pc := 7) (lv' := [(1, va_rf (some h.1)), (0, va_rf a0)]) dL_law_7 rfl (by decide) ⟨ym_c1 a0, trivial⟩ rfl ?_
  obtain ⟨h8, e8, hf⟩ := Option.bind_eq_some_iff.mp hf
  refine ym_newP (pc := 8) (h1 := h8) (ci := 8) [.int 0, .null, .null, .null, .int 0, .null, .null, .null, .null, .null, .null, .null, .null, .null, .null, .int 0, .null, .null, .null, .null, .null, .null, .null, .null, .null, .null, .null, .null, .null, .null, .null, .null, .null, .int 0, .null, .null, .int 0, .null, .null, .null, .null, .int 0, .null, .null, .null, .null, .null, .null, .null, .int 0, .null, .int 0, .int 0, .int 0, .null, .int 0, .int 0, .int 0] dL_law_8 rfl iX8 tyX8 tyX8_ok wd_839 wd_840 wd_83 (by decide +kernel) e8 ?_
  refine ym_dup (pc := 11) dL_law_11 (ym_c1 (some q4.2.1)) ?_
  obtain ⟨q12, e12, hf⟩ := Option.bind_eq_some_iff.mp hf
  refine ym_callI (pc := 12) (G2 := g_X8_init) (dep2 := 1) (a := (some q4.2.1)) (As := []) (st := [va_rf (some q4.2.1)]) (stk2 := [va_rf (some q4.2.1)]) (r2 := none) (h1 := q12.2) dL_law_12 (ok_X8_init e12) (sc_L_law_X8_init) rfl rfl wd_841 wd_842 (Option.some_ne_none _) rfl rfl (ym_st4 (Nat.le_of_ble_eq_true rfl)) rfl ?_
  refine ym_astore_n (pc := 15) (lv' := [(2, va_rf (some q4.2.1)), (1, va_rf (some h.1)), (0, va_rf a0)]) dL_law_15 rfl (by decide) ⟨ym_c1 (some h.1), trivial, trivial⟩ rfl ?_
  refine ym_iconst (pc := 16) (v := 0) dL_law_16 (by decide) ?_
  refine ym_istore_n (pc := 17) (lv' := [(3, .int 0), (2, va_rf (some q4.2.1)), (1, va_rf (some h.1)), (0, va_rf a0)]) dL_law_17 rfl (by decide) ⟨ym_c1 (some q4.2.1), trivial, trivial, trivial⟩ rfl ?_
  obtain ⟨⟨x18, g18⟩, e18, hf⟩ := Option.bind_eq_some_iff.mp hf
  refine ym_sub (lv' := [(0, va_rf a0), (1, va_rf (some h.1)), (2, va_rf (some q4.2.1)), (3, .int 0)]) [3, 2, 1, 0] rfl ?_
  refine ok_lp_L_law_18 N _ _ _ _ _ _ _ e18 ?_
  cases x18 with
  | inr y18 =>
    cases hf
    exact ⟨rfl, rfl⟩
  | inl z18 =>
    dsimp only [Sum.elim_inl] at hf ⊢
    refine ym_iconst (pc := 1691) (v := 1) dL_law_1691 (by decide) ?_
    cases hf
    exact ym_zret (pc := 1692) dL_law_1692 rfl rfl
