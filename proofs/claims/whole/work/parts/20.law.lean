abbrev mt_law : MT := (RL, yL_law, cL_law, 4, some .boolean)
theorem dL_law_0 : decode cL_law 0 = .ok (.new 7, 3) := by decide +kernel
theorem dL_law_3 : decode cL_law 3 = .ok (.dup, 1) := by decide +kernel
theorem dL_law_4 : decode cL_law 4 = .ok (.invokespecial 9, 3) := by decide +kernel
theorem dL_law_7 : decode cL_law 7 = .ok (.astore_n 1, 1) := by decide +kernel
theorem dL_law_8 : decode cL_law 8 = .ok (.new 10, 3) := by decide +kernel
theorem dL_law_11 : decode cL_law 11 = .ok (.dup, 1) := by decide +kernel
theorem dL_law_12 : decode cL_law 12 = .ok (.invokespecial 12, 3) := by decide +kernel
theorem dL_law_15 : decode cL_law 15 = .ok (.astore_n 2, 1) := by decide +kernel
theorem dL_law_16 : decode cL_law 16 = .ok (.iconst 0, 1) := by decide +kernel
theorem dL_law_17 : decode cL_law 17 = .ok (.istore_n 3, 1) := by decide +kernel
theorem dL_law_18 : decode cL_law 18 = .ok (.iload_n 3, 1) := by decide +kernel
theorem dL_law_19 : decode cL_law 19 = .ok (.aload_n 0, 1) := by decide +kernel
theorem dL_law_20 : decode cL_law 20 = .ok (.arraylength, 1) := by decide +kernel
theorem dL_law_21 : decode cL_law 21 = .ok (.bipush 6, 2) := by decide +kernel
theorem dL_law_23 : decode cL_law 23 = .ok (.isub, 1) := by decide +kernel
theorem dL_law_24 : decode cL_law 24 = .ok (.if_icmp .gt 1480, 3) := by decide +kernel
theorem dL_law_27 : decode cL_law 27 = .ok (.aload_n 0, 1) := by decide +kernel
theorem dL_law_28 : decode cL_law 28 = .ok (.iload_n 3, 1) := by decide +kernel
theorem dL_law_29 : decode cL_law 29 = .ok (.iaload, 1) := by decide +kernel
theorem dL_law_30 : decode cL_law 30 = .ok (.bipush 63, 2) := by decide +kernel
theorem dL_law_32 : decode cL_law 32 = .ok (.iand, 1) := by decide +kernel
theorem dL_law_33 : decode cL_law 33 = .ok (.tableswitch 1465 0 39 #[175, 218, 251, 294, 327, 370, 403, 426, 459, 492, 555, 578, 631, 654, 677, 720, 743, 776, 819, 852, 885, 928, 951, 984, 1007, 1030, 1073, 1096, 1139, 1162, 1205, 1248, 1311, 1334, 1357, 1370, 1383, 1406, 1419, 1442], 175) := by decide +kernel
theorem dL_law_208 : decode cL_law 208 = .ok (.aload_n 1, 1) := by decide +kernel
theorem dL_law_209 : decode cL_law 209 = .ok (.aload_n 0, 1) := by decide +kernel
theorem dL_law_210 : decode cL_law 210 = .ok (.iload_n 3, 1) := by decide +kernel
theorem dL_law_211 : decode cL_law 211 = .ok (.iconst 1, 1) := by decide +kernel
theorem dL_law_212 : decode cL_law 212 = .ok (.iadd, 1) := by decide +kernel
theorem dL_law_213 : decode cL_law 213 = .ok (.iaload, 1) := by decide +kernel
theorem dL_law_214 : decode cL_law 214 = .ok (.aload_n 0, 1) := by decide +kernel
theorem dL_law_215 : decode cL_law 215 = .ok (.iload_n 3, 1) := by decide +kernel
theorem dL_law_216 : decode cL_law 216 = .ok (.iconst 2, 1) := by decide +kernel
theorem dL_law_217 : decode cL_law 217 = .ok (.iadd, 1) := by decide +kernel
theorem dL_law_218 : decode cL_law 218 = .ok (.iaload, 1) := by decide +kernel
theorem dL_law_219 : decode cL_law 219 = .ok (.aload_n 0, 1) := by decide +kernel
theorem dL_law_220 : decode cL_law 220 = .ok (.iload_n 3, 1) := by decide +kernel
theorem dL_law_221 : decode cL_law 221 = .ok (.iconst 3, 1) := by decide +kernel
theorem dL_law_222 : decode cL_law 222 = .ok (.iadd, 1) := by decide +kernel
theorem dL_law_223 : decode cL_law 223 = .ok (.iaload, 1) := by decide +kernel
theorem dL_law_224 : decode cL_law 224 = .ok (.invokevirtual 13, 3) := by decide +kernel
theorem dL_law_227 : decode cL_law 227 = .ok (.aload_n 2, 1) := by decide +kernel
theorem dL_law_228 : decode cL_law 228 = .ok (.aload_n 0, 1) := by decide +kernel
theorem dL_law_229 : decode cL_law 229 = .ok (.iload_n 3, 1) := by decide +kernel
theorem dL_law_230 : decode cL_law 230 = .ok (.iconst 1, 1) := by decide +kernel
theorem dL_law_231 : decode cL_law 231 = .ok (.iadd, 1) := by decide +kernel
theorem dL_law_232 : decode cL_law 232 = .ok (.iaload, 1) := by decide +kernel
theorem dL_law_233 : decode cL_law 233 = .ok (.aload_n 0, 1) := by decide +kernel
theorem dL_law_234 : decode cL_law 234 = .ok (.iload_n 3, 1) := by decide +kernel
theorem dL_law_235 : decode cL_law 235 = .ok (.iconst 2, 1) := by decide +kernel
theorem dL_law_236 : decode cL_law 236 = .ok (.iadd, 1) := by decide +kernel
theorem dL_law_237 : decode cL_law 237 = .ok (.iaload, 1) := by decide +kernel
theorem dL_law_238 : decode cL_law 238 = .ok (.aload_n 0, 1) := by decide +kernel
theorem dL_law_239 : decode cL_law 239 = .ok (.iload_n 3, 1) := by decide +kernel
theorem dL_law_240 : decode cL_law 240 = .ok (.iconst 3, 1) := by decide +kernel
theorem dL_law_241 : decode cL_law 241 = .ok (.iadd, 1) := by decide +kernel
theorem dL_law_242 : decode cL_law 242 = .ok (.iaload, 1) := by decide +kernel
theorem dL_law_243 : decode cL_law 243 = .ok (.invokevirtual 17, 3) := by decide +kernel
theorem dL_law_246 : decode cL_law 246 = .ok (.if_icmp .eq 1252, 3) := by decide +kernel
theorem dL_law_249 : decode cL_law 249 = .ok (.iconst 0, 1) := by decide +kernel
theorem dL_law_250 : decode cL_law 250 = .ok (.ireturn, 1) := by decide +kernel
theorem dL_law_251 : decode cL_law 251 = .ok (.aload_n 1, 1) := by decide +kernel
theorem dL_law_252 : decode cL_law 252 = .ok (.aload_n 0, 1) := by decide +kernel
theorem dL_law_253 : decode cL_law 253 = .ok (.iload_n 3, 1) := by decide +kernel
theorem dL_law_254 : decode cL_law 254 = .ok (.iconst 1, 1) := by decide +kernel
theorem dL_law_255 : decode cL_law 255 = .ok (.iadd, 1) := by decide +kernel
theorem dL_law_256 : decode cL_law 256 = .ok (.iaload, 1) := by decide +kernel
theorem dL_law_257 : decode cL_law 257 = .ok (.aload_n 0, 1) := by decide +kernel
theorem dL_law_258 : decode cL_law 258 = .ok (.iload_n 3, 1) := by decide +kernel
theorem dL_law_259 : decode cL_law 259 = .ok (.iconst 2, 1) := by decide +kernel
theorem dL_law_260 : decode cL_law 260 = .ok (.iadd, 1) := by decide +kernel
theorem dL_law_261 : decode cL_law 261 = .ok (.iaload, 1) := by decide +kernel
theorem dL_law_262 : decode cL_law 262 = .ok (.invokevirtual 18, 3) := by decide +kernel
theorem dL_law_265 : decode cL_law 265 = .ok (.aload_n 2, 1) := by decide +kernel
theorem dL_law_266 : decode cL_law 266 = .ok (.aload_n 0, 1) := by decide +kernel
theorem dL_law_267 : decode cL_law 267 = .ok (.iload_n 3, 1) := by decide +kernel
theorem dL_law_268 : decode cL_law 268 = .ok (.iconst 1, 1) := by decide +kernel
theorem dL_law_269 : decode cL_law 269 = .ok (.iadd, 1) := by decide +kernel
theorem dL_law_270 : decode cL_law 270 = .ok (.iaload, 1) := by decide +kernel
theorem dL_law_271 : decode cL_law 271 = .ok (.aload_n 0, 1) := by decide +kernel
theorem dL_law_272 : decode cL_law 272 = .ok (.iload_n 3, 1) := by decide +kernel
theorem dL_law_273 : decode cL_law 273 = .ok (.iconst 2, 1) := by decide +kernel
theorem dL_law_274 : decode cL_law 274 = .ok (.iadd, 1) := by decide +kernel
theorem dL_law_275 : decode cL_law 275 = .ok (.iaload, 1) := by decide +kernel
theorem dL_law_276 : decode cL_law 276 = .ok (.invokevirtual 22, 3) := by decide +kernel
theorem dL_law_279 : decode cL_law 279 = .ok (.if_icmp .eq 1219, 3) := by decide +kernel
theorem dL_law_282 : decode cL_law 282 = .ok (.iconst 0, 1) := by decide +kernel
theorem dL_law_283 : decode cL_law 283 = .ok (.ireturn, 1) := by decide +kernel
theorem dL_law_284 : decode cL_law 284 = .ok (.aload_n 1, 1) := by decide +kernel
theorem dL_law_285 : decode cL_law 285 = .ok (.aload_n 0, 1) := by decide +kernel
theorem dL_law_286 : decode cL_law 286 = .ok (.iload_n 3, 1) := by decide +kernel
theorem dL_law_287 : decode cL_law 287 = .ok (.iconst 1, 1) := by decide +kernel
theorem dL_law_288 : decode cL_law 288 = .ok (.iadd, 1) := by decide +kernel
theorem dL_law_289 : decode cL_law 289 = .ok (.iaload, 1) := by decide +kernel
theorem dL_law_290 : decode cL_law 290 = .ok (.aload_n 0, 1) := by decide +kernel
theorem dL_law_291 : decode cL_law 291 = .ok (.iload_n 3, 1) := by decide +kernel
theorem dL_law_292 : decode cL_law 292 = .ok (.iconst 2, 1) := by decide +kernel
theorem dL_law_293 : decode cL_law 293 = .ok (.iadd, 1) := by decide +kernel
theorem dL_law_294 : decode cL_law 294 = .ok (.iaload, 1) := by decide +kernel
theorem dL_law_295 : decode cL_law 295 = .ok (.aload_n 0, 1) := by decide +kernel
theorem dL_law_296 : decode cL_law 296 = .ok (.iload_n 3, 1) := by decide +kernel
theorem dL_law_297 : decode cL_law 297 = .ok (.iconst 3, 1) := by decide +kernel
theorem dL_law_298 : decode cL_law 298 = .ok (.iadd, 1) := by decide +kernel
theorem dL_law_299 : decode cL_law 299 = .ok (.iaload, 1) := by decide +kernel
theorem dL_law_300 : decode cL_law 300 = .ok (.invokevirtual 23, 3) := by decide +kernel
theorem dL_law_303 : decode cL_law 303 = .ok (.aload_n 2, 1) := by decide +kernel
theorem dL_law_304 : decode cL_law 304 = .ok (.aload_n 0, 1) := by decide +kernel
theorem dL_law_305 : decode cL_law 305 = .ok (.iload_n 3, 1) := by decide +kernel
theorem dL_law_306 : decode cL_law 306 = .ok (.iconst 1, 1) := by decide +kernel
theorem dL_law_307 : decode cL_law 307 = .ok (.iadd, 1) := by decide +kernel
theorem dL_law_308 : decode cL_law 308 = .ok (.iaload, 1) := by decide +kernel
theorem dL_law_309 : decode cL_law 309 = .ok (.aload_n 0, 1) := by decide +kernel
theorem dL_law_310 : decode cL_law 310 = .ok (.iload_n 3, 1) := by decide +kernel
theorem dL_law_311 : decode cL_law 311 = .ok (.iconst 2, 1) := by decide +kernel
theorem dL_law_312 : decode cL_law 312 = .ok (.iadd, 1) := by decide +kernel
theorem dL_law_313 : decode cL_law 313 = .ok (.iaload, 1) := by decide +kernel
theorem dL_law_314 : decode cL_law 314 = .ok (.aload_n 0, 1) := by decide +kernel
theorem dL_law_315 : decode cL_law 315 = .ok (.iload_n 3, 1) := by decide +kernel
theorem dL_law_316 : decode cL_law 316 = .ok (.iconst 3, 1) := by decide +kernel
theorem dL_law_317 : decode cL_law 317 = .ok (.iadd, 1) := by decide +kernel
theorem dL_law_318 : decode cL_law 318 = .ok (.iaload, 1) := by decide +kernel
theorem dL_law_319 : decode cL_law 319 = .ok (.invokevirtual 26, 3) := by decide +kernel
theorem dL_law_322 : decode cL_law 322 = .ok (.if_icmp .eq 1176, 3) := by decide +kernel
theorem dL_law_325 : decode cL_law 325 = .ok (.iconst 0, 1) := by decide +kernel
theorem dL_law_326 : decode cL_law 326 = .ok (.ireturn, 1) := by decide +kernel
theorem dL_law_327 : decode cL_law 327 = .ok (.aload_n 1, 1) := by decide +kernel
theorem dL_law_328 : decode cL_law 328 = .ok (.aload_n 0, 1) := by decide +kernel
theorem dL_law_329 : decode cL_law 329 = .ok (.iload_n 3, 1) := by decide +kernel
theorem dL_law_330 : decode cL_law 330 = .ok (.iconst 1, 1) := by decide +kernel
theorem dL_law_331 : decode cL_law 331 = .ok (.iadd, 1) := by decide +kernel
theorem dL_law_332 : decode cL_law 332 = .ok (.iaload, 1) := by decide +kernel
theorem dL_law_333 : decode cL_law 333 = .ok (.aload_n 0, 1) := by decide +kernel
theorem dL_law_334 : decode cL_law 334 = .ok (.iload_n 3, 1) := by decide +kernel
theorem dL_law_335 : decode cL_law 335 = .ok (.iconst 2, 1) := by decide +kernel
theorem dL_law_336 : decode cL_law 336 = .ok (.iadd, 1) := by decide +kernel
theorem dL_law_337 : decode cL_law 337 = .ok (.iaload, 1) := by decide +kernel
theorem dL_law_338 : decode cL_law 338 = .ok (.invokevirtual 27, 3) := by decide +kernel
theorem dL_law_341 : decode cL_law 341 = .ok (.aload_n 2, 1) := by decide +kernel
theorem dL_law_342 : decode cL_law 342 = .ok (.aload_n 0, 1) := by decide +kernel
theorem dL_law_343 : decode cL_law 343 = .ok (.iload_n 3, 1) := by decide +kernel
theorem dL_law_344 : decode cL_law 344 = .ok (.iconst 1, 1) := by decide +kernel
theorem dL_law_345 : decode cL_law 345 = .ok (.iadd, 1) := by decide +kernel
theorem dL_law_346 : decode cL_law 346 = .ok (.iaload, 1) := by decide +kernel
theorem dL_law_347 : decode cL_law 347 = .ok (.aload_n 0, 1) := by decide +kernel
theorem dL_law_348 : decode cL_law 348 = .ok (.iload_n 3, 1) := by decide +kernel
theorem dL_law_349 : decode cL_law 349 = .ok (.iconst 2, 1) := by decide +kernel
theorem dL_law_350 : decode cL_law 350 = .ok (.iadd, 1) := by decide +kernel
theorem dL_law_351 : decode cL_law 351 = .ok (.iaload, 1) := by decide +kernel
theorem dL_law_352 : decode cL_law 352 = .ok (.invokevirtual 30, 3) := by decide +kernel
theorem dL_law_355 : decode cL_law 355 = .ok (.if_icmp .eq 1143, 3) := by decide +kernel
theorem dL_law_358 : decode cL_law 358 = .ok (.iconst 0, 1) := by decide +kernel
theorem dL_law_359 : decode cL_law 359 = .ok (.ireturn, 1) := by decide +kernel
theorem dL_law_360 : decode cL_law 360 = .ok (.aload_n 1, 1) := by decide +kernel
theorem dL_law_361 : decode cL_law 361 = .ok (.aload_n 0, 1) := by decide +kernel
theorem dL_law_362 : decode cL_law 362 = .ok (.iload_n 3, 1) := by decide +kernel
theorem dL_law_363 : decode cL_law 363 = .ok (.iconst 1, 1) := by decide +kernel
theorem dL_law_364 : decode cL_law 364 = .ok (.iadd, 1) := by decide +kernel
theorem dL_law_365 : decode cL_law 365 = .ok (.iaload, 1) := by decide +kernel
theorem dL_law_366 : decode cL_law 366 = .ok (.aload_n 0, 1) := by decide +kernel
theorem dL_law_367 : decode cL_law 367 = .ok (.iload_n 3, 1) := by decide +kernel
theorem dL_law_368 : decode cL_law 368 = .ok (.iconst 2, 1) := by decide +kernel
theorem dL_law_369 : decode cL_law 369 = .ok (.iadd, 1) := by decide +kernel
theorem dL_law_370 : decode cL_law 370 = .ok (.iaload, 1) := by decide +kernel
theorem dL_law_371 : decode cL_law 371 = .ok (.aload_n 0, 1) := by decide +kernel
theorem dL_law_372 : decode cL_law 372 = .ok (.iload_n 3, 1) := by decide +kernel
theorem dL_law_373 : decode cL_law 373 = .ok (.iconst 3, 1) := by decide +kernel
theorem dL_law_374 : decode cL_law 374 = .ok (.iadd, 1) := by decide +kernel
theorem dL_law_375 : decode cL_law 375 = .ok (.iaload, 1) := by decide +kernel
theorem dL_law_376 : decode cL_law 376 = .ok (.invokevirtual 31, 3) := by decide +kernel
theorem dL_law_379 : decode cL_law 379 = .ok (.aload_n 2, 1) := by decide +kernel
theorem dL_law_380 : decode cL_law 380 = .ok (.aload_n 0, 1) := by decide +kernel
theorem dL_law_381 : decode cL_law 381 = .ok (.iload_n 3, 1) := by decide +kernel
theorem dL_law_382 : decode cL_law 382 = .ok (.iconst 1, 1) := by decide +kernel
theorem dL_law_383 : decode cL_law 383 = .ok (.iadd, 1) := by decide +kernel
theorem dL_law_384 : decode cL_law 384 = .ok (.iaload, 1) := by decide +kernel
theorem dL_law_385 : decode cL_law 385 = .ok (.aload_n 0, 1) := by decide +kernel
theorem dL_law_386 : decode cL_law 386 = .ok (.iload_n 3, 1) := by decide +kernel
theorem dL_law_387 : decode cL_law 387 = .ok (.iconst 2, 1) := by decide +kernel
theorem dL_law_388 : decode cL_law 388 = .ok (.iadd, 1) := by decide +kernel
theorem dL_law_389 : decode cL_law 389 = .ok (.iaload, 1) := by decide +kernel
theorem dL_law_390 : decode cL_law 390 = .ok (.aload_n 0, 1) := by decide +kernel
theorem dL_law_391 : decode cL_law 391 = .ok (.iload_n 3, 1) := by decide +kernel
theorem dL_law_392 : decode cL_law 392 = .ok (.iconst 3, 1) := by decide +kernel
theorem dL_law_393 : decode cL_law 393 = .ok (.iadd, 1) := by decide +kernel
theorem dL_law_394 : decode cL_law 394 = .ok (.iaload, 1) := by decide +kernel
theorem dL_law_395 : decode cL_law 395 = .ok (.invokevirtual 34, 3) := by decide +kernel
theorem dL_law_398 : decode cL_law 398 = .ok (.if_icmp .eq 1100, 3) := by decide +kernel
theorem dL_law_401 : decode cL_law 401 = .ok (.iconst 0, 1) := by decide +kernel
theorem dL_law_402 : decode cL_law 402 = .ok (.ireturn, 1) := by decide +kernel
theorem dL_law_403 : decode cL_law 403 = .ok (.aload_n 1, 1) := by decide +kernel
theorem dL_law_404 : decode cL_law 404 = .ok (.aload_n 0, 1) := by decide +kernel
theorem dL_law_405 : decode cL_law 405 = .ok (.iload_n 3, 1) := by decide +kernel
theorem dL_law_406 : decode cL_law 406 = .ok (.iconst 1, 1) := by decide +kernel
theorem dL_law_407 : decode cL_law 407 = .ok (.iadd, 1) := by decide +kernel
theorem dL_law_408 : decode cL_law 408 = .ok (.iaload, 1) := by decide +kernel
theorem dL_law_409 : decode cL_law 409 = .ok (.aload_n 0, 1) := by decide +kernel
theorem dL_law_410 : decode cL_law 410 = .ok (.iload_n 3, 1) := by decide +kernel
theorem dL_law_411 : decode cL_law 411 = .ok (.iconst 2, 1) := by decide +kernel
theorem dL_law_412 : decode cL_law 412 = .ok (.iadd, 1) := by decide +kernel
theorem dL_law_413 : decode cL_law 413 = .ok (.iaload, 1) := by decide +kernel
theorem dL_law_414 : decode cL_law 414 = .ok (.invokevirtual 35, 3) := by decide +kernel
theorem dL_law_417 : decode cL_law 417 = .ok (.aload_n 2, 1) := by decide +kernel
theorem dL_law_418 : decode cL_law 418 = .ok (.aload_n 0, 1) := by decide +kernel
theorem dL_law_419 : decode cL_law 419 = .ok (.iload_n 3, 1) := by decide +kernel
theorem dL_law_420 : decode cL_law 420 = .ok (.iconst 1, 1) := by decide +kernel
theorem dL_law_421 : decode cL_law 421 = .ok (.iadd, 1) := by decide +kernel
theorem dL_law_422 : decode cL_law 422 = .ok (.iaload, 1) := by decide +kernel
theorem dL_law_423 : decode cL_law 423 = .ok (.aload_n 0, 1) := by decide +kernel
theorem dL_law_424 : decode cL_law 424 = .ok (.iload_n 3, 1) := by decide +kernel
theorem dL_law_425 : decode cL_law 425 = .ok (.iconst 2, 1) := by decide +kernel
theorem dL_law_426 : decode cL_law 426 = .ok (.iadd, 1) := by decide +kernel
theorem dL_law_427 : decode cL_law 427 = .ok (.iaload, 1) := by decide +kernel
theorem dL_law_428 : decode cL_law 428 = .ok (.invokevirtual 38, 3) := by decide +kernel
theorem dL_law_431 : decode cL_law 431 = .ok (.if_icmp .eq 1067, 3) := by decide +kernel
theorem dL_law_434 : decode cL_law 434 = .ok (.iconst 0, 1) := by decide +kernel
theorem dL_law_435 : decode cL_law 435 = .ok (.ireturn, 1) := by decide +kernel
theorem dL_law_436 : decode cL_law 436 = .ok (.aload_n 1, 1) := by decide +kernel
theorem dL_law_437 : decode cL_law 437 = .ok (.aload_n 0, 1) := by decide +kernel
theorem dL_law_438 : decode cL_law 438 = .ok (.iload_n 3, 1) := by decide +kernel
theorem dL_law_439 : decode cL_law 439 = .ok (.iconst 1, 1) := by decide +kernel
theorem dL_law_440 : decode cL_law 440 = .ok (.iadd, 1) := by decide +kernel
theorem dL_law_441 : decode cL_law 441 = .ok (.iaload, 1) := by decide +kernel
theorem dL_law_442 : decode cL_law 442 = .ok (.invokevirtual 39, 3) := by decide +kernel
theorem dL_law_445 : decode cL_law 445 = .ok (.aload_n 2, 1) := by decide +kernel
theorem dL_law_446 : decode cL_law 446 = .ok (.aload_n 0, 1) := by decide +kernel
theorem dL_law_447 : decode cL_law 447 = .ok (.iload_n 3, 1) := by decide +kernel
theorem dL_law_448 : decode cL_law 448 = .ok (.iconst 1, 1) := by decide +kernel
theorem dL_law_449 : decode cL_law 449 = .ok (.iadd, 1) := by decide +kernel
theorem dL_law_450 : decode cL_law 450 = .ok (.iaload, 1) := by decide +kernel
theorem dL_law_451 : decode cL_law 451 = .ok (.invokevirtual 43, 3) := by decide +kernel
theorem dL_law_454 : decode cL_law 454 = .ok (.if_icmp .eq 1044, 3) := by decide +kernel
theorem dL_law_457 : decode cL_law 457 = .ok (.iconst 0, 1) := by decide +kernel
theorem dL_law_458 : decode cL_law 458 = .ok (.ireturn, 1) := by decide +kernel
theorem dL_law_459 : decode cL_law 459 = .ok (.aload_n 1, 1) := by decide +kernel
theorem dL_law_460 : decode cL_law 460 = .ok (.aload_n 0, 1) := by decide +kernel
theorem dL_law_461 : decode cL_law 461 = .ok (.iload_n 3, 1) := by decide +kernel
theorem dL_law_462 : decode cL_law 462 = .ok (.iconst 1, 1) := by decide +kernel
theorem dL_law_463 : decode cL_law 463 = .ok (.iadd, 1) := by decide +kernel
theorem dL_law_464 : decode cL_law 464 = .ok (.iaload, 1) := by decide +kernel
theorem dL_law_465 : decode cL_law 465 = .ok (.aload_n 0, 1) := by decide +kernel
theorem dL_law_466 : decode cL_law 466 = .ok (.iload_n 3, 1) := by decide +kernel
theorem dL_law_467 : decode cL_law 467 = .ok (.iconst 2, 1) := by decide +kernel
theorem dL_law_468 : decode cL_law 468 = .ok (.iadd, 1) := by decide +kernel
theorem dL_law_469 : decode cL_law 469 = .ok (.iaload, 1) := by decide +kernel
theorem dL_law_470 : decode cL_law 470 = .ok (.invokevirtual 44, 3) := by decide +kernel
theorem dL_law_473 : decode cL_law 473 = .ok (.aload_n 2, 1) := by decide +kernel
theorem dL_law_474 : decode cL_law 474 = .ok (.aload_n 0, 1) := by decide +kernel
theorem dL_law_475 : decode cL_law 475 = .ok (.iload_n 3, 1) := by decide +kernel
theorem dL_law_476 : decode cL_law 476 = .ok (.iconst 1, 1) := by decide +kernel
theorem dL_law_477 : decode cL_law 477 = .ok (.iadd, 1) := by decide +kernel
theorem dL_law_478 : decode cL_law 478 = .ok (.iaload, 1) := by decide +kernel
theorem dL_law_479 : decode cL_law 479 = .ok (.aload_n 0, 1) := by decide +kernel
theorem dL_law_480 : decode cL_law 480 = .ok (.iload_n 3, 1) := by decide +kernel
theorem dL_law_481 : decode cL_law 481 = .ok (.iconst 2, 1) := by decide +kernel
theorem dL_law_482 : decode cL_law 482 = .ok (.iadd, 1) := by decide +kernel
theorem dL_law_483 : decode cL_law 483 = .ok (.iaload, 1) := by decide +kernel
theorem dL_law_484 : decode cL_law 484 = .ok (.invokevirtual 47, 3) := by decide +kernel
theorem dL_law_487 : decode cL_law 487 = .ok (.if_icmp .eq 1011, 3) := by decide +kernel
theorem dL_law_490 : decode cL_law 490 = .ok (.iconst 0, 1) := by decide +kernel
theorem dL_law_491 : decode cL_law 491 = .ok (.ireturn, 1) := by decide +kernel
theorem dL_law_492 : decode cL_law 492 = .ok (.aload_n 1, 1) := by decide +kernel
theorem dL_law_493 : decode cL_law 493 = .ok (.aload_n 0, 1) := by decide +kernel
theorem dL_law_494 : decode cL_law 494 = .ok (.iload_n 3, 1) := by decide +kernel
theorem dL_law_495 : decode cL_law 495 = .ok (.iconst 1, 1) := by decide +kernel
theorem dL_law_496 : decode cL_law 496 = .ok (.iadd, 1) := by decide +kernel
theorem dL_law_497 : decode cL_law 497 = .ok (.iaload, 1) := by decide +kernel
theorem dL_law_498 : decode cL_law 498 = .ok (.aload_n 0, 1) := by decide +kernel
theorem dL_law_499 : decode cL_law 499 = .ok (.iload_n 3, 1) := by decide +kernel
theorem dL_law_500 : decode cL_law 500 = .ok (.iconst 2, 1) := by decide +kernel
theorem dL_law_501 : decode cL_law 501 = .ok (.iadd, 1) := by decide +kernel
theorem dL_law_502 : decode cL_law 502 = .ok (.iaload, 1) := by decide +kernel
theorem dL_law_503 : decode cL_law 503 = .ok (.invokevirtual 48, 3) := by decide +kernel
theorem dL_law_506 : decode cL_law 506 = .ok (.aload_n 2, 1) := by decide +kernel
theorem dL_law_507 : decode cL_law 507 = .ok (.aload_n 0, 1) := by decide +kernel
theorem dL_law_508 : decode cL_law 508 = .ok (.iload_n 3, 1) := by decide +kernel
theorem dL_law_509 : decode cL_law 509 = .ok (.iconst 1, 1) := by decide +kernel
theorem dL_law_510 : decode cL_law 510 = .ok (.iadd, 1) := by decide +kernel
theorem dL_law_511 : decode cL_law 511 = .ok (.iaload, 1) := by decide +kernel
theorem dL_law_512 : decode cL_law 512 = .ok (.aload_n 0, 1) := by decide +kernel
theorem dL_law_513 : decode cL_law 513 = .ok (.iload_n 3, 1) := by decide +kernel
theorem dL_law_514 : decode cL_law 514 = .ok (.iconst 2, 1) := by decide +kernel
theorem dL_law_515 : decode cL_law 515 = .ok (.iadd, 1) := by decide +kernel
theorem dL_law_516 : decode cL_law 516 = .ok (.iaload, 1) := by decide +kernel
theorem dL_law_517 : decode cL_law 517 = .ok (.invokevirtual 51, 3) := by decide +kernel
theorem dL_law_520 : decode cL_law 520 = .ok (.if_icmp .eq 978, 3) := by decide +kernel
theorem dL_law_523 : decode cL_law 523 = .ok (.iconst 0, 1) := by decide +kernel
theorem dL_law_524 : decode cL_law 524 = .ok (.ireturn, 1) := by decide +kernel
theorem dL_law_525 : decode cL_law 525 = .ok (.aload_n 1, 1) := by decide +kernel
theorem dL_law_526 : decode cL_law 526 = .ok (.aload_n 0, 1) := by decide +kernel
theorem dL_law_527 : decode cL_law 527 = .ok (.iload_n 3, 1) := by decide +kernel
theorem dL_law_528 : decode cL_law 528 = .ok (.iconst 1, 1) := by decide +kernel
theorem dL_law_529 : decode cL_law 529 = .ok (.iadd, 1) := by decide +kernel
theorem dL_law_530 : decode cL_law 530 = .ok (.iaload, 1) := by decide +kernel
theorem dL_law_531 : decode cL_law 531 = .ok (.i2l, 1) := by decide +kernel
theorem dL_law_532 : decode cL_law 532 = .ok (.bipush 32, 2) := by decide +kernel
theorem dL_law_534 : decode cL_law 534 = .ok (.lshl, 1) := by decide +kernel
theorem dL_law_535 : decode cL_law 535 = .ok (.aload_n 0, 1) := by decide +kernel
theorem dL_law_536 : decode cL_law 536 = .ok (.iload_n 3, 1) := by decide +kernel
theorem dL_law_537 : decode cL_law 537 = .ok (.iconst 2, 1) := by decide +kernel
theorem dL_law_538 : decode cL_law 538 = .ok (.iadd, 1) := by decide +kernel
theorem dL_law_539 : decode cL_law 539 = .ok (.iaload, 1) := by decide +kernel
theorem dL_law_540 : decode cL_law 540 = .ok (.i2l, 1) := by decide +kernel
theorem dL_law_541 : decode cL_law 541 = .ok (.ldc2_w 52, 3) := by decide +kernel
theorem dL_law_544 : decode cL_law 544 = .ok (.land, 1) := by decide +kernel
theorem dL_law_545 : decode cL_law 545 = .ok (.lor, 1) := by decide +kernel
theorem dL_law_546 : decode cL_law 546 = .ok (.aload_n 0, 1) := by decide +kernel
theorem dL_law_547 : decode cL_law 547 = .ok (.iload_n 3, 1) := by decide +kernel
theorem dL_law_548 : decode cL_law 548 = .ok (.iconst 3, 1) := by decide +kernel
theorem dL_law_549 : decode cL_law 549 = .ok (.iadd, 1) := by decide +kernel
theorem dL_law_550 : decode cL_law 550 = .ok (.iaload, 1) := by decide +kernel
theorem dL_law_551 : decode cL_law 551 = .ok (.invokevirtual 54, 3) := by decide +kernel
theorem dL_law_554 : decode cL_law 554 = .ok (.aload_n 2, 1) := by decide +kernel
theorem dL_law_555 : decode cL_law 555 = .ok (.aload_n 0, 1) := by decide +kernel
theorem dL_law_556 : decode cL_law 556 = .ok (.iload_n 3, 1) := by decide +kernel
theorem dL_law_557 : decode cL_law 557 = .ok (.iconst 1, 1) := by decide +kernel
theorem dL_law_558 : decode cL_law 558 = .ok (.iadd, 1) := by decide +kernel
theorem dL_law_559 : decode cL_law 559 = .ok (.iaload, 1) := by decide +kernel
theorem dL_law_560 : decode cL_law 560 = .ok (.i2l, 1) := by decide +kernel
theorem dL_law_561 : decode cL_law 561 = .ok (.bipush 32, 2) := by decide +kernel
theorem dL_law_563 : decode cL_law 563 = .ok (.lshl, 1) := by decide +kernel
theorem dL_law_564 : decode cL_law 564 = .ok (.aload_n 0, 1) := by decide +kernel
theorem dL_law_565 : decode cL_law 565 = .ok (.iload_n 3, 1) := by decide +kernel
theorem dL_law_566 : decode cL_law 566 = .ok (.iconst 2, 1) := by decide +kernel
theorem dL_law_567 : decode cL_law 567 = .ok (.iadd, 1) := by decide +kernel
theorem dL_law_568 : decode cL_law 568 = .ok (.iaload, 1) := by decide +kernel
theorem dL_law_569 : decode cL_law 569 = .ok (.i2l, 1) := by decide +kernel
theorem dL_law_570 : decode cL_law 570 = .ok (.ldc2_w 52, 3) := by decide +kernel
theorem dL_law_573 : decode cL_law 573 = .ok (.land, 1) := by decide +kernel
theorem dL_law_574 : decode cL_law 574 = .ok (.lor, 1) := by decide +kernel
theorem dL_law_575 : decode cL_law 575 = .ok (.aload_n 0, 1) := by decide +kernel
theorem dL_law_576 : decode cL_law 576 = .ok (.iload_n 3, 1) := by decide +kernel
theorem dL_law_577 : decode cL_law 577 = .ok (.iconst 3, 1) := by decide +kernel
theorem dL_law_578 : decode cL_law 578 = .ok (.iadd, 1) := by decide +kernel
theorem dL_law_579 : decode cL_law 579 = .ok (.iaload, 1) := by decide +kernel
theorem dL_law_580 : decode cL_law 580 = .ok (.invokevirtual 58, 3) := by decide +kernel
theorem dL_law_583 : decode cL_law 583 = .ok (.if_icmp .eq 915, 3) := by decide +kernel
theorem dL_law_586 : decode cL_law 586 = .ok (.iconst 0, 1) := by decide +kernel
theorem dL_law_587 : decode cL_law 587 = .ok (.ireturn, 1) := by decide +kernel
theorem dL_law_588 : decode cL_law 588 = .ok (.aload_n 1, 1) := by decide +kernel
theorem dL_law_589 : decode cL_law 589 = .ok (.aload_n 0, 1) := by decide +kernel
theorem dL_law_590 : decode cL_law 590 = .ok (.iload_n 3, 1) := by decide +kernel
theorem dL_law_591 : decode cL_law 591 = .ok (.iconst 1, 1) := by decide +kernel
theorem dL_law_592 : decode cL_law 592 = .ok (.iadd, 1) := by decide +kernel
theorem dL_law_593 : decode cL_law 593 = .ok (.iaload, 1) := by decide +kernel
theorem dL_law_594 : decode cL_law 594 = .ok (.invokevirtual 59, 3) := by decide +kernel
theorem dL_law_597 : decode cL_law 597 = .ok (.aload_n 2, 1) := by decide +kernel
theorem dL_law_598 : decode cL_law 598 = .ok (.aload_n 0, 1) := by decide +kernel
theorem dL_law_599 : decode cL_law 599 = .ok (.iload_n 3, 1) := by decide +kernel
theorem dL_law_600 : decode cL_law 600 = .ok (.iconst 1, 1) := by decide +kernel
theorem dL_law_601 : decode cL_law 601 = .ok (.iadd, 1) := by decide +kernel
theorem dL_law_602 : decode cL_law 602 = .ok (.iaload, 1) := by decide +kernel
theorem dL_law_603 : decode cL_law 603 = .ok (.invokevirtual 62, 3) := by decide +kernel
theorem dL_law_606 : decode cL_law 606 = .ok (.if_icmp .eq 892, 3) := by decide +kernel
theorem dL_law_609 : decode cL_law 609 = .ok (.iconst 0, 1) := by decide +kernel
theorem dL_law_610 : decode cL_law 610 = .ok (.ireturn, 1) := by decide +kernel
theorem dL_law_611 : decode cL_law 611 = .ok (.aload_n 1, 1) := by decide +kernel
theorem dL_law_612 : decode cL_law 612 = .ok (.aload_n 0, 1) := by decide +kernel
theorem dL_law_613 : decode cL_law 613 = .ok (.iload_n 3, 1) := by decide +kernel
theorem dL_law_614 : decode cL_law 614 = .ok (.iconst 1, 1) := by decide +kernel
theorem dL_law_615 : decode cL_law 615 = .ok (.iadd, 1) := by decide +kernel
theorem dL_law_616 : decode cL_law 616 = .ok (.iaload, 1) := by decide +kernel
theorem dL_law_617 : decode cL_law 617 = .ok (.aload_n 0, 1) := by decide +kernel
theorem dL_law_618 : decode cL_law 618 = .ok (.iload_n 3, 1) := by decide +kernel
theorem dL_law_619 : decode cL_law 619 = .ok (.iconst 2, 1) := by decide +kernel
theorem dL_law_620 : decode cL_law 620 = .ok (.iadd, 1) := by decide +kernel
theorem dL_law_621 : decode cL_law 621 = .ok (.iaload, 1) := by decide +kernel
theorem dL_law_622 : decode cL_law 622 = .ok (.aload_n 0, 1) := by decide +kernel
theorem dL_law_623 : decode cL_law 623 = .ok (.iload_n 3, 1) := by decide +kernel
theorem dL_law_624 : decode cL_law 624 = .ok (.iconst 3, 1) := by decide +kernel
theorem dL_law_625 : decode cL_law 625 = .ok (.iadd, 1) := by decide +kernel
theorem dL_law_626 : decode cL_law 626 = .ok (.iaload, 1) := by decide +kernel
theorem dL_law_627 : decode cL_law 627 = .ok (.aload_n 0, 1) := by decide +kernel
theorem dL_law_628 : decode cL_law 628 = .ok (.iload_n 3, 1) := by decide +kernel
theorem dL_law_629 : decode cL_law 629 = .ok (.iconst 4, 1) := by decide +kernel
theorem dL_law_630 : decode cL_law 630 = .ok (.iadd, 1) := by decide +kernel
theorem dL_law_631 : decode cL_law 631 = .ok (.iaload, 1) := by decide +kernel
theorem dL_law_632 : decode cL_law 632 = .ok (.invokevirtual 63, 3) := by decide +kernel
theorem dL_law_635 : decode cL_law 635 = .ok (.aload_n 2, 1) := by decide +kernel
theorem dL_law_636 : decode cL_law 636 = .ok (.aload_n 0, 1) := by decide +kernel
theorem dL_law_637 : decode cL_law 637 = .ok (.iload_n 3, 1) := by decide +kernel
theorem dL_law_638 : decode cL_law 638 = .ok (.iconst 1, 1) := by decide +kernel
theorem dL_law_639 : decode cL_law 639 = .ok (.iadd, 1) := by decide +kernel
theorem dL_law_640 : decode cL_law 640 = .ok (.iaload, 1) := by decide +kernel
theorem dL_law_641 : decode cL_law 641 = .ok (.aload_n 0, 1) := by decide +kernel
theorem dL_law_642 : decode cL_law 642 = .ok (.iload_n 3, 1) := by decide +kernel
theorem dL_law_643 : decode cL_law 643 = .ok (.iconst 2, 1) := by decide +kernel
theorem dL_law_644 : decode cL_law 644 = .ok (.iadd, 1) := by decide +kernel
theorem dL_law_645 : decode cL_law 645 = .ok (.iaload, 1) := by decide +kernel
theorem dL_law_646 : decode cL_law 646 = .ok (.aload_n 0, 1) := by decide +kernel
theorem dL_law_647 : decode cL_law 647 = .ok (.iload_n 3, 1) := by decide +kernel
theorem dL_law_648 : decode cL_law 648 = .ok (.iconst 3, 1) := by decide +kernel
theorem dL_law_649 : decode cL_law 649 = .ok (.iadd, 1) := by decide +kernel
theorem dL_law_650 : decode cL_law 650 = .ok (.iaload, 1) := by decide +kernel
theorem dL_law_651 : decode cL_law 651 = .ok (.aload_n 0, 1) := by decide +kernel
theorem dL_law_652 : decode cL_law 652 = .ok (.iload_n 3, 1) := by decide +kernel
theorem dL_law_653 : decode cL_law 653 = .ok (.iconst 4, 1) := by decide +kernel
theorem dL_law_654 : decode cL_law 654 = .ok (.iadd, 1) := by decide +kernel
theorem dL_law_655 : decode cL_law 655 = .ok (.iaload, 1) := by decide +kernel
theorem dL_law_656 : decode cL_law 656 = .ok (.invokevirtual 67, 3) := by decide +kernel
theorem dL_law_659 : decode cL_law 659 = .ok (.if_icmp .eq 839, 3) := by decide +kernel
theorem dL_law_662 : decode cL_law 662 = .ok (.iconst 0, 1) := by decide +kernel
theorem dL_law_663 : decode cL_law 663 = .ok (.ireturn, 1) := by decide +kernel
theorem dL_law_664 : decode cL_law 664 = .ok (.aload_n 1, 1) := by decide +kernel
theorem dL_law_665 : decode cL_law 665 = .ok (.aload_n 0, 1) := by decide +kernel
theorem dL_law_666 : decode cL_law 666 = .ok (.iload_n 3, 1) := by decide +kernel
theorem dL_law_667 : decode cL_law 667 = .ok (.iconst 1, 1) := by decide +kernel
theorem dL_law_668 : decode cL_law 668 = .ok (.iadd, 1) := by decide +kernel
theorem dL_law_669 : decode cL_law 669 = .ok (.iaload, 1) := by decide +kernel
theorem dL_law_670 : decode cL_law 670 = .ok (.invokevirtual 68, 3) := by decide +kernel
theorem dL_law_673 : decode cL_law 673 = .ok (.aload_n 2, 1) := by decide +kernel
theorem dL_law_674 : decode cL_law 674 = .ok (.aload_n 0, 1) := by decide +kernel
theorem dL_law_675 : decode cL_law 675 = .ok (.iload_n 3, 1) := by decide +kernel
theorem dL_law_676 : decode cL_law 676 = .ok (.iconst 1, 1) := by decide +kernel
theorem dL_law_677 : decode cL_law 677 = .ok (.iadd, 1) := by decide +kernel
theorem dL_law_678 : decode cL_law 678 = .ok (.iaload, 1) := by decide +kernel
theorem dL_law_679 : decode cL_law 679 = .ok (.invokevirtual 71, 3) := by decide +kernel
theorem dL_law_682 : decode cL_law 682 = .ok (.if_icmp .eq 816, 3) := by decide +kernel
theorem dL_law_685 : decode cL_law 685 = .ok (.iconst 0, 1) := by decide +kernel
theorem dL_law_686 : decode cL_law 686 = .ok (.ireturn, 1) := by decide +kernel
theorem dL_law_687 : decode cL_law 687 = .ok (.aload_n 1, 1) := by decide +kernel
theorem dL_law_688 : decode cL_law 688 = .ok (.aload_n 0, 1) := by decide +kernel
theorem dL_law_689 : decode cL_law 689 = .ok (.iload_n 3, 1) := by decide +kernel
theorem dL_law_690 : decode cL_law 690 = .ok (.iconst 1, 1) := by decide +kernel
theorem dL_law_691 : decode cL_law 691 = .ok (.iadd, 1) := by decide +kernel
theorem dL_law_692 : decode cL_law 692 = .ok (.iaload, 1) := by decide +kernel
theorem dL_law_693 : decode cL_law 693 = .ok (.invokevirtual 72, 3) := by decide +kernel
theorem dL_law_696 : decode cL_law 696 = .ok (.aload_n 2, 1) := by decide +kernel
theorem dL_law_697 : decode cL_law 697 = .ok (.aload_n 0, 1) := by decide +kernel
theorem dL_law_698 : decode cL_law 698 = .ok (.iload_n 3, 1) := by decide +kernel
theorem dL_law_699 : decode cL_law 699 = .ok (.iconst 1, 1) := by decide +kernel
theorem dL_law_700 : decode cL_law 700 = .ok (.iadd, 1) := by decide +kernel
theorem dL_law_701 : decode cL_law 701 = .ok (.iaload, 1) := by decide +kernel
theorem dL_law_702 : decode cL_law 702 = .ok (.invokevirtual 75, 3) := by decide +kernel
theorem dL_law_705 : decode cL_law 705 = .ok (.if_icmp .eq 793, 3) := by decide +kernel
theorem dL_law_708 : decode cL_law 708 = .ok (.iconst 0, 1) := by decide +kernel
theorem dL_law_709 : decode cL_law 709 = .ok (.ireturn, 1) := by decide +kernel
theorem dL_law_710 : decode cL_law 710 = .ok (.aload_n 1, 1) := by decide +kernel
theorem dL_law_711 : decode cL_law 711 = .ok (.aload_n 0, 1) := by decide +kernel
theorem dL_law_712 : decode cL_law 712 = .ok (.iload_n 3, 1) := by decide +kernel
theorem dL_law_713 : decode cL_law 713 = .ok (.iconst 1, 1) := by decide +kernel
theorem dL_law_714 : decode cL_law 714 = .ok (.iadd, 1) := by decide +kernel
theorem dL_law_715 : decode cL_law 715 = .ok (.iaload, 1) := by decide +kernel
theorem dL_law_716 : decode cL_law 716 = .ok (.aload_n 0, 1) := by decide +kernel
theorem dL_law_717 : decode cL_law 717 = .ok (.iload_n 3, 1) := by decide +kernel
theorem dL_law_718 : decode cL_law 718 = .ok (.iconst 2, 1) := by decide +kernel
theorem dL_law_719 : decode cL_law 719 = .ok (.iadd, 1) := by decide +kernel
theorem dL_law_720 : decode cL_law 720 = .ok (.iaload, 1) := by decide +kernel
theorem dL_law_721 : decode cL_law 721 = .ok (.aload_n 0, 1) := by decide +kernel
theorem dL_law_722 : decode cL_law 722 = .ok (.iload_n 3, 1) := by decide +kernel
theorem dL_law_723 : decode cL_law 723 = .ok (.iconst 3, 1) := by decide +kernel
theorem dL_law_724 : decode cL_law 724 = .ok (.iadd, 1) := by decide +kernel
theorem dL_law_725 : decode cL_law 725 = .ok (.iaload, 1) := by decide +kernel
theorem dL_law_726 : decode cL_law 726 = .ok (.invokevirtual 76, 3) := by decide +kernel
theorem dL_law_729 : decode cL_law 729 = .ok (.aload_n 2, 1) := by decide +kernel
theorem dL_law_730 : decode cL_law 730 = .ok (.aload_n 0, 1) := by decide +kernel
theorem dL_law_731 : decode cL_law 731 = .ok (.iload_n 3, 1) := by decide +kernel
theorem dL_law_732 : decode cL_law 732 = .ok (.iconst 1, 1) := by decide +kernel
theorem dL_law_733 : decode cL_law 733 = .ok (.iadd, 1) := by decide +kernel
theorem dL_law_734 : decode cL_law 734 = .ok (.iaload, 1) := by decide +kernel
theorem dL_law_735 : decode cL_law 735 = .ok (.aload_n 0, 1) := by decide +kernel
theorem dL_law_736 : decode cL_law 736 = .ok (.iload_n 3, 1) := by decide +kernel
theorem dL_law_737 : decode cL_law 737 = .ok (.iconst 2, 1) := by decide +kernel
theorem dL_law_738 : decode cL_law 738 = .ok (.iadd, 1) := by decide +kernel
theorem dL_law_739 : decode cL_law 739 = .ok (.iaload, 1) := by decide +kernel
theorem dL_law_740 : decode cL_law 740 = .ok (.aload_n 0, 1) := by decide +kernel
theorem dL_law_741 : decode cL_law 741 = .ok (.iload_n 3, 1) := by decide +kernel
theorem dL_law_742 : decode cL_law 742 = .ok (.iconst 3, 1) := by decide +kernel
theorem dL_law_743 : decode cL_law 743 = .ok (.iadd, 1) := by decide +kernel
theorem dL_law_744 : decode cL_law 744 = .ok (.iaload, 1) := by decide +kernel
theorem dL_law_745 : decode cL_law 745 = .ok (.invokevirtual 79, 3) := by decide +kernel
theorem dL_law_748 : decode cL_law 748 = .ok (.if_icmp .eq 750, 3) := by decide +kernel
theorem dL_law_751 : decode cL_law 751 = .ok (.iconst 0, 1) := by decide +kernel
theorem dL_law_752 : decode cL_law 752 = .ok (.ireturn, 1) := by decide +kernel
theorem dL_law_753 : decode cL_law 753 = .ok (.aload_n 1, 1) := by decide +kernel
theorem dL_law_754 : decode cL_law 754 = .ok (.aload_n 0, 1) := by decide +kernel
theorem dL_law_755 : decode cL_law 755 = .ok (.iload_n 3, 1) := by decide +kernel
theorem dL_law_756 : decode cL_law 756 = .ok (.iconst 1, 1) := by decide +kernel
theorem dL_law_757 : decode cL_law 757 = .ok (.iadd, 1) := by decide +kernel
theorem dL_law_758 : decode cL_law 758 = .ok (.iaload, 1) := by decide +kernel
theorem dL_law_759 : decode cL_law 759 = .ok (.invokevirtual 80, 3) := by decide +kernel
theorem dL_law_762 : decode cL_law 762 = .ok (.aload_n 2, 1) := by decide +kernel
theorem dL_law_763 : decode cL_law 763 = .ok (.aload_n 0, 1) := by decide +kernel
theorem dL_law_764 : decode cL_law 764 = .ok (.iload_n 3, 1) := by decide +kernel
theorem dL_law_765 : decode cL_law 765 = .ok (.iconst 1, 1) := by decide +kernel
theorem dL_law_766 : decode cL_law 766 = .ok (.iadd, 1) := by decide +kernel
theorem dL_law_767 : decode cL_law 767 = .ok (.iaload, 1) := by decide +kernel
theorem dL_law_768 : decode cL_law 768 = .ok (.invokevirtual 83, 3) := by decide +kernel
theorem dL_law_771 : decode cL_law 771 = .ok (.if_icmp .eq 727, 3) := by decide +kernel
theorem dL_law_774 : decode cL_law 774 = .ok (.iconst 0, 1) := by decide +kernel
theorem dL_law_775 : decode cL_law 775 = .ok (.ireturn, 1) := by decide +kernel
theorem dL_law_776 : decode cL_law 776 = .ok (.aload_n 1, 1) := by decide +kernel
theorem dL_law_777 : decode cL_law 777 = .ok (.aload_n 0, 1) := by decide +kernel
theorem dL_law_778 : decode cL_law 778 = .ok (.iload_n 3, 1) := by decide +kernel
theorem dL_law_779 : decode cL_law 779 = .ok (.iconst 1, 1) := by decide +kernel
theorem dL_law_780 : decode cL_law 780 = .ok (.iadd, 1) := by decide +kernel
theorem dL_law_781 : decode cL_law 781 = .ok (.iaload, 1) := by decide +kernel
theorem dL_law_782 : decode cL_law 782 = .ok (.aload_n 0, 1) := by decide +kernel
theorem dL_law_783 : decode cL_law 783 = .ok (.iload_n 3, 1) := by decide +kernel
theorem dL_law_784 : decode cL_law 784 = .ok (.iconst 2, 1) := by decide +kernel
theorem dL_law_785 : decode cL_law 785 = .ok (.iadd, 1) := by decide +kernel
theorem dL_law_786 : decode cL_law 786 = .ok (.iaload, 1) := by decide +kernel
theorem dL_law_787 : decode cL_law 787 = .ok (.invokevirtual 84, 3) := by decide +kernel
theorem dL_law_790 : decode cL_law 790 = .ok (.aload_n 2, 1) := by decide +kernel
theorem dL_law_791 : decode cL_law 791 = .ok (.aload_n 0, 1) := by decide +kernel
theorem dL_law_792 : decode cL_law 792 = .ok (.iload_n 3, 1) := by decide +kernel
theorem dL_law_793 : decode cL_law 793 = .ok (.iconst 1, 1) := by decide +kernel
theorem dL_law_794 : decode cL_law 794 = .ok (.iadd, 1) := by decide +kernel
theorem dL_law_795 : decode cL_law 795 = .ok (.iaload, 1) := by decide +kernel
theorem dL_law_796 : decode cL_law 796 = .ok (.aload_n 0, 1) := by decide +kernel
theorem dL_law_797 : decode cL_law 797 = .ok (.iload_n 3, 1) := by decide +kernel
theorem dL_law_798 : decode cL_law 798 = .ok (.iconst 2, 1) := by decide +kernel
theorem dL_law_799 : decode cL_law 799 = .ok (.iadd, 1) := by decide +kernel
theorem dL_law_800 : decode cL_law 800 = .ok (.iaload, 1) := by decide +kernel
theorem dL_law_801 : decode cL_law 801 = .ok (.invokevirtual 87, 3) := by decide +kernel
theorem dL_law_804 : decode cL_law 804 = .ok (.if_icmp .eq 694, 3) := by decide +kernel
theorem dL_law_807 : decode cL_law 807 = .ok (.iconst 0, 1) := by decide +kernel
theorem dL_law_808 : decode cL_law 808 = .ok (.ireturn, 1) := by decide +kernel
theorem dL_law_809 : decode cL_law 809 = .ok (.aload_n 1, 1) := by decide +kernel
theorem dL_law_810 : decode cL_law 810 = .ok (.aload_n 0, 1) := by decide +kernel
theorem dL_law_811 : decode cL_law 811 = .ok (.iload_n 3, 1) := by decide +kernel
theorem dL_law_812 : decode cL_law 812 = .ok (.iconst 1, 1) := by decide +kernel
theorem dL_law_813 : decode cL_law 813 = .ok (.iadd, 1) := by decide +kernel
theorem dL_law_814 : decode cL_law 814 = .ok (.iaload, 1) := by decide +kernel
theorem dL_law_815 : decode cL_law 815 = .ok (.aload_n 0, 1) := by decide +kernel
theorem dL_law_816 : decode cL_law 816 = .ok (.iload_n 3, 1) := by decide +kernel
theorem dL_law_817 : decode cL_law 817 = .ok (.iconst 2, 1) := by decide +kernel
theorem dL_law_818 : decode cL_law 818 = .ok (.iadd, 1) := by decide +kernel
theorem dL_law_819 : decode cL_law 819 = .ok (.iaload, 1) := by decide +kernel
theorem dL_law_820 : decode cL_law 820 = .ok (.aload_n 0, 1) := by decide +kernel
theorem dL_law_821 : decode cL_law 821 = .ok (.iload_n 3, 1) := by decide +kernel
theorem dL_law_822 : decode cL_law 822 = .ok (.iconst 3, 1) := by decide +kernel
theorem dL_law_823 : decode cL_law 823 = .ok (.iadd, 1) := by decide +kernel
theorem dL_law_824 : decode cL_law 824 = .ok (.iaload, 1) := by decide +kernel
theorem dL_law_825 : decode cL_law 825 = .ok (.invokevirtual 88, 3) := by decide +kernel
theorem dL_law_828 : decode cL_law 828 = .ok (.aload_n 2, 1) := by decide +kernel
theorem dL_law_829 : decode cL_law 829 = .ok (.aload_n 0, 1) := by decide +kernel
theorem dL_law_830 : decode cL_law 830 = .ok (.iload_n 3, 1) := by decide +kernel
theorem dL_law_831 : decode cL_law 831 = .ok (.iconst 1, 1) := by decide +kernel
theorem dL_law_832 : decode cL_law 832 = .ok (.iadd, 1) := by decide +kernel
theorem dL_law_833 : decode cL_law 833 = .ok (.iaload, 1) := by decide +kernel
theorem dL_law_834 : decode cL_law 834 = .ok (.aload_n 0, 1) := by decide +kernel
theorem dL_law_835 : decode cL_law 835 = .ok (.iload_n 3, 1) := by decide +kernel
theorem dL_law_836 : decode cL_law 836 = .ok (.iconst 2, 1) := by decide +kernel
theorem dL_law_837 : decode cL_law 837 = .ok (.iadd, 1) := by decide +kernel
theorem dL_law_838 : decode cL_law 838 = .ok (.iaload, 1) := by decide +kernel
theorem dL_law_839 : decode cL_law 839 = .ok (.aload_n 0, 1) := by decide +kernel
theorem dL_law_840 : decode cL_law 840 = .ok (.iload_n 3, 1) := by decide +kernel
theorem dL_law_841 : decode cL_law 841 = .ok (.iconst 3, 1) := by decide +kernel
theorem dL_law_842 : decode cL_law 842 = .ok (.iadd, 1) := by decide +kernel
theorem dL_law_843 : decode cL_law 843 = .ok (.iaload, 1) := by decide +kernel
theorem dL_law_844 : decode cL_law 844 = .ok (.invokevirtual 91, 3) := by decide +kernel
theorem dL_law_847 : decode cL_law 847 = .ok (.if_icmp .eq 651, 3) := by decide +kernel
theorem dL_law_850 : decode cL_law 850 = .ok (.iconst 0, 1) := by decide +kernel
theorem dL_law_851 : decode cL_law 851 = .ok (.ireturn, 1) := by decide +kernel
theorem dL_law_852 : decode cL_law 852 = .ok (.aload_n 1, 1) := by decide +kernel
theorem dL_law_853 : decode cL_law 853 = .ok (.aload_n 0, 1) := by decide +kernel
theorem dL_law_854 : decode cL_law 854 = .ok (.iload_n 3, 1) := by decide +kernel
theorem dL_law_855 : decode cL_law 855 = .ok (.iconst 1, 1) := by decide +kernel
theorem dL_law_856 : decode cL_law 856 = .ok (.iadd, 1) := by decide +kernel
theorem dL_law_857 : decode cL_law 857 = .ok (.iaload, 1) := by decide +kernel
theorem dL_law_858 : decode cL_law 858 = .ok (.aload_n 0, 1) := by decide +kernel
theorem dL_law_859 : decode cL_law 859 = .ok (.iload_n 3, 1) := by decide +kernel
theorem dL_law_860 : decode cL_law 860 = .ok (.iconst 2, 1) := by decide +kernel
theorem dL_law_861 : decode cL_law 861 = .ok (.iadd, 1) := by decide +kernel
theorem dL_law_862 : decode cL_law 862 = .ok (.iaload, 1) := by decide +kernel
theorem dL_law_863 : decode cL_law 863 = .ok (.invokevirtual 92, 3) := by decide +kernel
theorem dL_law_866 : decode cL_law 866 = .ok (.aload_n 2, 1) := by decide +kernel
theorem dL_law_867 : decode cL_law 867 = .ok (.aload_n 0, 1) := by decide +kernel
theorem dL_law_868 : decode cL_law 868 = .ok (.iload_n 3, 1) := by decide +kernel
theorem dL_law_869 : decode cL_law 869 = .ok (.iconst 1, 1) := by decide +kernel
theorem dL_law_870 : decode cL_law 870 = .ok (.iadd, 1) := by decide +kernel
theorem dL_law_871 : decode cL_law 871 = .ok (.iaload, 1) := by decide +kernel
theorem dL_law_872 : decode cL_law 872 = .ok (.aload_n 0, 1) := by decide +kernel
theorem dL_law_873 : decode cL_law 873 = .ok (.iload_n 3, 1) := by decide +kernel
theorem dL_law_874 : decode cL_law 874 = .ok (.iconst 2, 1) := by decide +kernel
theorem dL_law_875 : decode cL_law 875 = .ok (.iadd, 1) := by decide +kernel
theorem dL_law_876 : decode cL_law 876 = .ok (.iaload, 1) := by decide +kernel
theorem dL_law_877 : decode cL_law 877 = .ok (.invokevirtual 95, 3) := by decide +kernel
theorem dL_law_880 : decode cL_law 880 = .ok (.if_icmp .eq 618, 3) := by decide +kernel
theorem dL_law_883 : decode cL_law 883 = .ok (.iconst 0, 1) := by decide +kernel
theorem dL_law_884 : decode cL_law 884 = .ok (.ireturn, 1) := by decide +kernel
theorem dL_law_885 : decode cL_law 885 = .ok (.aload_n 1, 1) := by decide +kernel
theorem dL_law_886 : decode cL_law 886 = .ok (.aload_n 0, 1) := by decide +kernel
theorem dL_law_887 : decode cL_law 887 = .ok (.iload_n 3, 1) := by decide +kernel
theorem dL_law_888 : decode cL_law 888 = .ok (.iconst 1, 1) := by decide +kernel
theorem dL_law_889 : decode cL_law 889 = .ok (.iadd, 1) := by decide +kernel
theorem dL_law_890 : decode cL_law 890 = .ok (.iaload, 1) := by decide +kernel
theorem dL_law_891 : decode cL_law 891 = .ok (.aload_n 0, 1) := by decide +kernel
theorem dL_law_892 : decode cL_law 892 = .ok (.iload_n 3, 1) := by decide +kernel
theorem dL_law_893 : decode cL_law 893 = .ok (.iconst 2, 1) := by decide +kernel
theorem dL_law_894 : decode cL_law 894 = .ok (.iadd, 1) := by decide +kernel
theorem dL_law_895 : decode cL_law 895 = .ok (.iaload, 1) := by decide +kernel
theorem dL_law_896 : decode cL_law 896 = .ok (.invokevirtual 96, 3) := by decide +kernel
theorem dL_law_899 : decode cL_law 899 = .ok (.aload_n 2, 1) := by decide +kernel
theorem dL_law_900 : decode cL_law 900 = .ok (.aload_n 0, 1) := by decide +kernel
theorem dL_law_901 : decode cL_law 901 = .ok (.iload_n 3, 1) := by decide +kernel
theorem dL_law_902 : decode cL_law 902 = .ok (.iconst 1, 1) := by decide +kernel
theorem dL_law_903 : decode cL_law 903 = .ok (.iadd, 1) := by decide +kernel
theorem dL_law_904 : decode cL_law 904 = .ok (.iaload, 1) := by decide +kernel
theorem dL_law_905 : decode cL_law 905 = .ok (.aload_n 0, 1) := by decide +kernel
theorem dL_law_906 : decode cL_law 906 = .ok (.iload_n 3, 1) := by decide +kernel
theorem dL_law_907 : decode cL_law 907 = .ok (.iconst 2, 1) := by decide +kernel
theorem dL_law_908 : decode cL_law 908 = .ok (.iadd, 1) := by decide +kernel
theorem dL_law_909 : decode cL_law 909 = .ok (.iaload, 1) := by decide +kernel
theorem dL_law_910 : decode cL_law 910 = .ok (.invokevirtual 99, 3) := by decide +kernel
theorem dL_law_913 : decode cL_law 913 = .ok (.if_icmp .eq 585, 3) := by decide +kernel
theorem dL_law_916 : decode cL_law 916 = .ok (.iconst 0, 1) := by decide +kernel
theorem dL_law_917 : decode cL_law 917 = .ok (.ireturn, 1) := by decide +kernel
theorem dL_law_918 : decode cL_law 918 = .ok (.aload_n 1, 1) := by decide +kernel
theorem dL_law_919 : decode cL_law 919 = .ok (.aload_n 0, 1) := by decide +kernel
theorem dL_law_920 : decode cL_law 920 = .ok (.iload_n 3, 1) := by decide +kernel
theorem dL_law_921 : decode cL_law 921 = .ok (.iconst 1, 1) := by decide +kernel
theorem dL_law_922 : decode cL_law 922 = .ok (.iadd, 1) := by decide +kernel
theorem dL_law_923 : decode cL_law 923 = .ok (.iaload, 1) := by decide +kernel
theorem dL_law_924 : decode cL_law 924 = .ok (.aload_n 0, 1) := by decide +kernel
theorem dL_law_925 : decode cL_law 925 = .ok (.iload_n 3, 1) := by decide +kernel
theorem dL_law_926 : decode cL_law 926 = .ok (.iconst 2, 1) := by decide +kernel
theorem dL_law_927 : decode cL_law 927 = .ok (.iadd, 1) := by decide +kernel
theorem dL_law_928 : decode cL_law 928 = .ok (.iaload, 1) := by decide +kernel
theorem dL_law_929 : decode cL_law 929 = .ok (.aload_n 0, 1) := by decide +kernel
theorem dL_law_930 : decode cL_law 930 = .ok (.iload_n 3, 1) := by decide +kernel
theorem dL_law_931 : decode cL_law 931 = .ok (.iconst 3, 1) := by decide +kernel
theorem dL_law_932 : decode cL_law 932 = .ok (.iadd, 1) := by decide +kernel
theorem dL_law_933 : decode cL_law 933 = .ok (.iaload, 1) := by decide +kernel
theorem dL_law_934 : decode cL_law 934 = .ok (.invokevirtual 100, 3) := by decide +kernel
theorem dL_law_937 : decode cL_law 937 = .ok (.aload_n 2, 1) := by decide +kernel
theorem dL_law_938 : decode cL_law 938 = .ok (.aload_n 0, 1) := by decide +kernel
theorem dL_law_939 : decode cL_law 939 = .ok (.iload_n 3, 1) := by decide +kernel
theorem dL_law_940 : decode cL_law 940 = .ok (.iconst 1, 1) := by decide +kernel
theorem dL_law_941 : decode cL_law 941 = .ok (.iadd, 1) := by decide +kernel
theorem dL_law_942 : decode cL_law 942 = .ok (.iaload, 1) := by decide +kernel
theorem dL_law_943 : decode cL_law 943 = .ok (.aload_n 0, 1) := by decide +kernel
theorem dL_law_944 : decode cL_law 944 = .ok (.iload_n 3, 1) := by decide +kernel
theorem dL_law_945 : decode cL_law 945 = .ok (.iconst 2, 1) := by decide +kernel
theorem dL_law_946 : decode cL_law 946 = .ok (.iadd, 1) := by decide +kernel
theorem dL_law_947 : decode cL_law 947 = .ok (.iaload, 1) := by decide +kernel
theorem dL_law_948 : decode cL_law 948 = .ok (.aload_n 0, 1) := by decide +kernel
theorem dL_law_949 : decode cL_law 949 = .ok (.iload_n 3, 1) := by decide +kernel
theorem dL_law_950 : decode cL_law 950 = .ok (.iconst 3, 1) := by decide +kernel
theorem dL_law_951 : decode cL_law 951 = .ok (.iadd, 1) := by decide +kernel
theorem dL_law_952 : decode cL_law 952 = .ok (.iaload, 1) := by decide +kernel
theorem dL_law_953 : decode cL_law 953 = .ok (.invokevirtual 103, 3) := by decide +kernel
theorem dL_law_956 : decode cL_law 956 = .ok (.if_icmp .eq 542, 3) := by decide +kernel
theorem dL_law_959 : decode cL_law 959 = .ok (.iconst 0, 1) := by decide +kernel
theorem dL_law_960 : decode cL_law 960 = .ok (.ireturn, 1) := by decide +kernel
theorem dL_law_961 : decode cL_law 961 = .ok (.aload_n 1, 1) := by decide +kernel
theorem dL_law_962 : decode cL_law 962 = .ok (.aload_n 0, 1) := by decide +kernel
theorem dL_law_963 : decode cL_law 963 = .ok (.iload_n 3, 1) := by decide +kernel
theorem dL_law_964 : decode cL_law 964 = .ok (.iconst 1, 1) := by decide +kernel
theorem dL_law_965 : decode cL_law 965 = .ok (.iadd, 1) := by decide +kernel
theorem dL_law_966 : decode cL_law 966 = .ok (.iaload, 1) := by decide +kernel
theorem dL_law_967 : decode cL_law 967 = .ok (.invokevirtual 104, 3) := by decide +kernel
theorem dL_law_970 : decode cL_law 970 = .ok (.aload_n 2, 1) := by decide +kernel
theorem dL_law_971 : decode cL_law 971 = .ok (.aload_n 0, 1) := by decide +kernel
theorem dL_law_972 : decode cL_law 972 = .ok (.iload_n 3, 1) := by decide +kernel
theorem dL_law_973 : decode cL_law 973 = .ok (.iconst 1, 1) := by decide +kernel
theorem dL_law_974 : decode cL_law 974 = .ok (.iadd, 1) := by decide +kernel
theorem dL_law_975 : decode cL_law 975 = .ok (.iaload, 1) := by decide +kernel
theorem dL_law_976 : decode cL_law 976 = .ok (.invokevirtual 107, 3) := by decide +kernel
theorem dL_law_979 : decode cL_law 979 = .ok (.if_icmp .eq 519, 3) := by decide +kernel
theorem dL_law_982 : decode cL_law 982 = .ok (.iconst 0, 1) := by decide +kernel
theorem dL_law_983 : decode cL_law 983 = .ok (.ireturn, 1) := by decide +kernel
theorem dL_law_984 : decode cL_law 984 = .ok (.aload_n 1, 1) := by decide +kernel
theorem dL_law_985 : decode cL_law 985 = .ok (.aload_n 0, 1) := by decide +kernel
theorem dL_law_986 : decode cL_law 986 = .ok (.iload_n 3, 1) := by decide +kernel
theorem dL_law_987 : decode cL_law 987 = .ok (.iconst 1, 1) := by decide +kernel
theorem dL_law_988 : decode cL_law 988 = .ok (.iadd, 1) := by decide +kernel
theorem dL_law_989 : decode cL_law 989 = .ok (.iaload, 1) := by decide +kernel
theorem dL_law_990 : decode cL_law 990 = .ok (.aload_n 0, 1) := by decide +kernel
theorem dL_law_991 : decode cL_law 991 = .ok (.iload_n 3, 1) := by decide +kernel
theorem dL_law_992 : decode cL_law 992 = .ok (.iconst 2, 1) := by decide +kernel
theorem dL_law_993 : decode cL_law 993 = .ok (.iadd, 1) := by decide +kernel
theorem dL_law_994 : decode cL_law 994 = .ok (.iaload, 1) := by decide +kernel
theorem dL_law_995 : decode cL_law 995 = .ok (.invokevirtual 108, 3) := by decide +kernel
theorem dL_law_998 : decode cL_law 998 = .ok (.aload_n 2, 1) := by decide +kernel
theorem dL_law_999 : decode cL_law 999 = .ok (.aload_n 0, 1) := by decide +kernel
theorem dL_law_1000 : decode cL_law 1000 = .ok (.iload_n 3, 1) := by decide +kernel
theorem dL_law_1001 : decode cL_law 1001 = .ok (.iconst 1, 1) := by decide +kernel
theorem dL_law_1002 : decode cL_law 1002 = .ok (.iadd, 1) := by decide +kernel
theorem dL_law_1003 : decode cL_law 1003 = .ok (.iaload, 1) := by decide +kernel
theorem dL_law_1004 : decode cL_law 1004 = .ok (.aload_n 0, 1) := by decide +kernel
theorem dL_law_1005 : decode cL_law 1005 = .ok (.iload_n 3, 1) := by decide +kernel
theorem dL_law_1006 : decode cL_law 1006 = .ok (.iconst 2, 1) := by decide +kernel
theorem dL_law_1007 : decode cL_law 1007 = .ok (.iadd, 1) := by decide +kernel
theorem dL_law_1008 : decode cL_law 1008 = .ok (.iaload, 1) := by decide +kernel
theorem dL_law_1009 : decode cL_law 1009 = .ok (.invokevirtual 111, 3) := by decide +kernel
theorem dL_law_1012 : decode cL_law 1012 = .ok (.if_icmp .eq 486, 3) := by decide +kernel
theorem dL_law_1015 : decode cL_law 1015 = .ok (.iconst 0, 1) := by decide +kernel
theorem dL_law_1016 : decode cL_law 1016 = .ok (.ireturn, 1) := by decide +kernel
theorem dL_law_1017 : decode cL_law 1017 = .ok (.aload_n 1, 1) := by decide +kernel
theorem dL_law_1018 : decode cL_law 1018 = .ok (.aload_n 0, 1) := by decide +kernel
theorem dL_law_1019 : decode cL_law 1019 = .ok (.iload_n 3, 1) := by decide +kernel
theorem dL_law_1020 : decode cL_law 1020 = .ok (.iconst 1, 1) := by decide +kernel
theorem dL_law_1021 : decode cL_law 1021 = .ok (.iadd, 1) := by decide +kernel
theorem dL_law_1022 : decode cL_law 1022 = .ok (.iaload, 1) := by decide +kernel
theorem dL_law_1023 : decode cL_law 1023 = .ok (.invokevirtual 112, 3) := by decide +kernel
theorem dL_law_1026 : decode cL_law 1026 = .ok (.aload_n 2, 1) := by decide +kernel
theorem dL_law_1027 : decode cL_law 1027 = .ok (.aload_n 0, 1) := by decide +kernel
theorem dL_law_1028 : decode cL_law 1028 = .ok (.iload_n 3, 1) := by decide +kernel
theorem dL_law_1029 : decode cL_law 1029 = .ok (.iconst 1, 1) := by decide +kernel
theorem dL_law_1030 : decode cL_law 1030 = .ok (.iadd, 1) := by decide +kernel
theorem dL_law_1031 : decode cL_law 1031 = .ok (.iaload, 1) := by decide +kernel
theorem dL_law_1032 : decode cL_law 1032 = .ok (.invokevirtual 115, 3) := by decide +kernel
theorem dL_law_1035 : decode cL_law 1035 = .ok (.if_icmp .eq 463, 3) := by decide +kernel
theorem dL_law_1038 : decode cL_law 1038 = .ok (.iconst 0, 1) := by decide +kernel
theorem dL_law_1039 : decode cL_law 1039 = .ok (.ireturn, 1) := by decide +kernel
theorem dL_law_1040 : decode cL_law 1040 = .ok (.aload_n 1, 1) := by decide +kernel
theorem dL_law_1041 : decode cL_law 1041 = .ok (.aload_n 0, 1) := by decide +kernel
theorem dL_law_1042 : decode cL_law 1042 = .ok (.iload_n 3, 1) := by decide +kernel
theorem dL_law_1043 : decode cL_law 1043 = .ok (.iconst 1, 1) := by decide +kernel
theorem dL_law_1044 : decode cL_law 1044 = .ok (.iadd, 1) := by decide +kernel
theorem dL_law_1045 : decode cL_law 1045 = .ok (.iaload, 1) := by decide +kernel
theorem dL_law_1046 : decode cL_law 1046 = .ok (.invokevirtual 116, 3) := by decide +kernel
theorem dL_law_1049 : decode cL_law 1049 = .ok (.aload_n 2, 1) := by decide +kernel
theorem dL_law_1050 : decode cL_law 1050 = .ok (.aload_n 0, 1) := by decide +kernel
theorem dL_law_1051 : decode cL_law 1051 = .ok (.iload_n 3, 1) := by decide +kernel
theorem dL_law_1052 : decode cL_law 1052 = .ok (.iconst 1, 1) := by decide +kernel
theorem dL_law_1053 : decode cL_law 1053 = .ok (.iadd, 1) := by decide +kernel
theorem dL_law_1054 : decode cL_law 1054 = .ok (.iaload, 1) := by decide +kernel
theorem dL_law_1055 : decode cL_law 1055 = .ok (.invokevirtual 119, 3) := by decide +kernel
theorem dL_law_1058 : decode cL_law 1058 = .ok (.if_icmp .eq 440, 3) := by decide +kernel
theorem dL_law_1061 : decode cL_law 1061 = .ok (.iconst 0, 1) := by decide +kernel
theorem dL_law_1062 : decode cL_law 1062 = .ok (.ireturn, 1) := by decide +kernel
theorem dL_law_1063 : decode cL_law 1063 = .ok (.aload_n 1, 1) := by decide +kernel
theorem dL_law_1064 : decode cL_law 1064 = .ok (.aload_n 0, 1) := by decide +kernel
theorem dL_law_1065 : decode cL_law 1065 = .ok (.iload_n 3, 1) := by decide +kernel
theorem dL_law_1066 : decode cL_law 1066 = .ok (.iconst 1, 1) := by decide +kernel
theorem dL_law_1067 : decode cL_law 1067 = .ok (.iadd, 1) := by decide +kernel
theorem dL_law_1068 : decode cL_law 1068 = .ok (.iaload, 1) := by decide +kernel
theorem dL_law_1069 : decode cL_law 1069 = .ok (.aload_n 0, 1) := by decide +kernel
theorem dL_law_1070 : decode cL_law 1070 = .ok (.iload_n 3, 1) := by decide +kernel
theorem dL_law_1071 : decode cL_law 1071 = .ok (.iconst 2, 1) := by decide +kernel
theorem dL_law_1072 : decode cL_law 1072 = .ok (.iadd, 1) := by decide +kernel
theorem dL_law_1073 : decode cL_law 1073 = .ok (.iaload, 1) := by decide +kernel
theorem dL_law_1074 : decode cL_law 1074 = .ok (.aload_n 0, 1) := by decide +kernel
theorem dL_law_1075 : decode cL_law 1075 = .ok (.iload_n 3, 1) := by decide +kernel
theorem dL_law_1076 : decode cL_law 1076 = .ok (.iconst 3, 1) := by decide +kernel
theorem dL_law_1077 : decode cL_law 1077 = .ok (.iadd, 1) := by decide +kernel
theorem dL_law_1078 : decode cL_law 1078 = .ok (.iaload, 1) := by decide +kernel
theorem dL_law_1079 : decode cL_law 1079 = .ok (.invokevirtual 120, 3) := by decide +kernel
theorem dL_law_1082 : decode cL_law 1082 = .ok (.aload_n 2, 1) := by decide +kernel
theorem dL_law_1083 : decode cL_law 1083 = .ok (.aload_n 0, 1) := by decide +kernel
theorem dL_law_1084 : decode cL_law 1084 = .ok (.iload_n 3, 1) := by decide +kernel
theorem dL_law_1085 : decode cL_law 1085 = .ok (.iconst 1, 1) := by decide +kernel
theorem dL_law_1086 : decode cL_law 1086 = .ok (.iadd, 1) := by decide +kernel
theorem dL_law_1087 : decode cL_law 1087 = .ok (.iaload, 1) := by decide +kernel
theorem dL_law_1088 : decode cL_law 1088 = .ok (.aload_n 0, 1) := by decide +kernel
theorem dL_law_1089 : decode cL_law 1089 = .ok (.iload_n 3, 1) := by decide +kernel
theorem dL_law_1090 : decode cL_law 1090 = .ok (.iconst 2, 1) := by decide +kernel
theorem dL_law_1091 : decode cL_law 1091 = .ok (.iadd, 1) := by decide +kernel
theorem dL_law_1092 : decode cL_law 1092 = .ok (.iaload, 1) := by decide +kernel
theorem dL_law_1093 : decode cL_law 1093 = .ok (.aload_n 0, 1) := by decide +kernel
theorem dL_law_1094 : decode cL_law 1094 = .ok (.iload_n 3, 1) := by decide +kernel
theorem dL_law_1095 : decode cL_law 1095 = .ok (.iconst 3, 1) := by decide +kernel
theorem dL_law_1096 : decode cL_law 1096 = .ok (.iadd, 1) := by decide +kernel
theorem dL_law_1097 : decode cL_law 1097 = .ok (.iaload, 1) := by decide +kernel
theorem dL_law_1098 : decode cL_law 1098 = .ok (.invokevirtual 123, 3) := by decide +kernel
theorem dL_law_1101 : decode cL_law 1101 = .ok (.if_icmp .eq 397, 3) := by decide +kernel
theorem dL_law_1104 : decode cL_law 1104 = .ok (.iconst 0, 1) := by decide +kernel
theorem dL_law_1105 : decode cL_law 1105 = .ok (.ireturn, 1) := by decide +kernel
theorem dL_law_1106 : decode cL_law 1106 = .ok (.aload_n 1, 1) := by decide +kernel
theorem dL_law_1107 : decode cL_law 1107 = .ok (.aload_n 0, 1) := by decide +kernel
theorem dL_law_1108 : decode cL_law 1108 = .ok (.iload_n 3, 1) := by decide +kernel
theorem dL_law_1109 : decode cL_law 1109 = .ok (.iconst 1, 1) := by decide +kernel
theorem dL_law_1110 : decode cL_law 1110 = .ok (.iadd, 1) := by decide +kernel
theorem dL_law_1111 : decode cL_law 1111 = .ok (.iaload, 1) := by decide +kernel
theorem dL_law_1112 : decode cL_law 1112 = .ok (.invokevirtual 124, 3) := by decide +kernel
theorem dL_law_1115 : decode cL_law 1115 = .ok (.aload_n 2, 1) := by decide +kernel
theorem dL_law_1116 : decode cL_law 1116 = .ok (.aload_n 0, 1) := by decide +kernel
theorem dL_law_1117 : decode cL_law 1117 = .ok (.iload_n 3, 1) := by decide +kernel
theorem dL_law_1118 : decode cL_law 1118 = .ok (.iconst 1, 1) := by decide +kernel
theorem dL_law_1119 : decode cL_law 1119 = .ok (.iadd, 1) := by decide +kernel
theorem dL_law_1120 : decode cL_law 1120 = .ok (.iaload, 1) := by decide +kernel
theorem dL_law_1121 : decode cL_law 1121 = .ok (.invokevirtual 127, 3) := by decide +kernel
theorem dL_law_1124 : decode cL_law 1124 = .ok (.if_icmp .eq 374, 3) := by decide +kernel
theorem dL_law_1127 : decode cL_law 1127 = .ok (.iconst 0, 1) := by decide +kernel
theorem dL_law_1128 : decode cL_law 1128 = .ok (.ireturn, 1) := by decide +kernel
theorem dL_law_1129 : decode cL_law 1129 = .ok (.aload_n 1, 1) := by decide +kernel
theorem dL_law_1130 : decode cL_law 1130 = .ok (.aload_n 0, 1) := by decide +kernel
theorem dL_law_1131 : decode cL_law 1131 = .ok (.iload_n 3, 1) := by decide +kernel
theorem dL_law_1132 : decode cL_law 1132 = .ok (.iconst 1, 1) := by decide +kernel
theorem dL_law_1133 : decode cL_law 1133 = .ok (.iadd, 1) := by decide +kernel
theorem dL_law_1134 : decode cL_law 1134 = .ok (.iaload, 1) := by decide +kernel
theorem dL_law_1135 : decode cL_law 1135 = .ok (.aload_n 0, 1) := by decide +kernel
theorem dL_law_1136 : decode cL_law 1136 = .ok (.iload_n 3, 1) := by decide +kernel
theorem dL_law_1137 : decode cL_law 1137 = .ok (.iconst 2, 1) := by decide +kernel
theorem dL_law_1138 : decode cL_law 1138 = .ok (.iadd, 1) := by decide +kernel
theorem dL_law_1139 : decode cL_law 1139 = .ok (.iaload, 1) := by decide +kernel
theorem dL_law_1140 : decode cL_law 1140 = .ok (.aload_n 0, 1) := by decide +kernel
theorem dL_law_1141 : decode cL_law 1141 = .ok (.iload_n 3, 1) := by decide +kernel
theorem dL_law_1142 : decode cL_law 1142 = .ok (.iconst 3, 1) := by decide +kernel
theorem dL_law_1143 : decode cL_law 1143 = .ok (.iadd, 1) := by decide +kernel
theorem dL_law_1144 : decode cL_law 1144 = .ok (.iaload, 1) := by decide +kernel
theorem dL_law_1145 : decode cL_law 1145 = .ok (.invokevirtual 128, 3) := by decide +kernel
theorem dL_law_1148 : decode cL_law 1148 = .ok (.aload_n 2, 1) := by decide +kernel
theorem dL_law_1149 : decode cL_law 1149 = .ok (.aload_n 0, 1) := by decide +kernel
theorem dL_law_1150 : decode cL_law 1150 = .ok (.iload_n 3, 1) := by decide +kernel
theorem dL_law_1151 : decode cL_law 1151 = .ok (.iconst 1, 1) := by decide +kernel
theorem dL_law_1152 : decode cL_law 1152 = .ok (.iadd, 1) := by decide +kernel
theorem dL_law_1153 : decode cL_law 1153 = .ok (.iaload, 1) := by decide +kernel
theorem dL_law_1154 : decode cL_law 1154 = .ok (.aload_n 0, 1) := by decide +kernel
theorem dL_law_1155 : decode cL_law 1155 = .ok (.iload_n 3, 1) := by decide +kernel
theorem dL_law_1156 : decode cL_law 1156 = .ok (.iconst 2, 1) := by decide +kernel
theorem dL_law_1157 : decode cL_law 1157 = .ok (.iadd, 1) := by decide +kernel
theorem dL_law_1158 : decode cL_law 1158 = .ok (.iaload, 1) := by decide +kernel
theorem dL_law_1159 : decode cL_law 1159 = .ok (.aload_n 0, 1) := by decide +kernel
theorem dL_law_1160 : decode cL_law 1160 = .ok (.iload_n 3, 1) := by decide +kernel
theorem dL_law_1161 : decode cL_law 1161 = .ok (.iconst 3, 1) := by decide +kernel
theorem dL_law_1162 : decode cL_law 1162 = .ok (.iadd, 1) := by decide +kernel
theorem dL_law_1163 : decode cL_law 1163 = .ok (.iaload, 1) := by decide +kernel
theorem dL_law_1164 : decode cL_law 1164 = .ok (.invokevirtual 131, 3) := by decide +kernel
theorem dL_law_1167 : decode cL_law 1167 = .ok (.if_icmp .eq 331, 3) := by decide +kernel
theorem dL_law_1170 : decode cL_law 1170 = .ok (.iconst 0, 1) := by decide +kernel
theorem dL_law_1171 : decode cL_law 1171 = .ok (.ireturn, 1) := by decide +kernel
theorem dL_law_1172 : decode cL_law 1172 = .ok (.aload_n 1, 1) := by decide +kernel
theorem dL_law_1173 : decode cL_law 1173 = .ok (.aload_n 0, 1) := by decide +kernel
theorem dL_law_1174 : decode cL_law 1174 = .ok (.iload_n 3, 1) := by decide +kernel
theorem dL_law_1175 : decode cL_law 1175 = .ok (.iconst 1, 1) := by decide +kernel
theorem dL_law_1176 : decode cL_law 1176 = .ok (.iadd, 1) := by decide +kernel
theorem dL_law_1177 : decode cL_law 1177 = .ok (.iaload, 1) := by decide +kernel
theorem dL_law_1178 : decode cL_law 1178 = .ok (.invokevirtual 132, 3) := by decide +kernel
theorem dL_law_1181 : decode cL_law 1181 = .ok (.aload_n 2, 1) := by decide +kernel
theorem dL_law_1182 : decode cL_law 1182 = .ok (.aload_n 0, 1) := by decide +kernel
theorem dL_law_1183 : decode cL_law 1183 = .ok (.iload_n 3, 1) := by decide +kernel
theorem dL_law_1184 : decode cL_law 1184 = .ok (.iconst 1, 1) := by decide +kernel
theorem dL_law_1185 : decode cL_law 1185 = .ok (.iadd, 1) := by decide +kernel
theorem dL_law_1186 : decode cL_law 1186 = .ok (.iaload, 1) := by decide +kernel
theorem dL_law_1187 : decode cL_law 1187 = .ok (.invokevirtual 135, 3) := by decide +kernel
theorem dL_law_1190 : decode cL_law 1190 = .ok (.if_icmp .eq 308, 3) := by decide +kernel
theorem dL_law_1193 : decode cL_law 1193 = .ok (.iconst 0, 1) := by decide +kernel
theorem dL_law_1194 : decode cL_law 1194 = .ok (.ireturn, 1) := by decide +kernel
theorem dL_law_1195 : decode cL_law 1195 = .ok (.aload_n 1, 1) := by decide +kernel
theorem dL_law_1196 : decode cL_law 1196 = .ok (.aload_n 0, 1) := by decide +kernel
theorem dL_law_1197 : decode cL_law 1197 = .ok (.iload_n 3, 1) := by decide +kernel
theorem dL_law_1198 : decode cL_law 1198 = .ok (.iconst 1, 1) := by decide +kernel
theorem dL_law_1199 : decode cL_law 1199 = .ok (.iadd, 1) := by decide +kernel
theorem dL_law_1200 : decode cL_law 1200 = .ok (.iaload, 1) := by decide +kernel
theorem dL_law_1201 : decode cL_law 1201 = .ok (.aload_n 0, 1) := by decide +kernel
theorem dL_law_1202 : decode cL_law 1202 = .ok (.iload_n 3, 1) := by decide +kernel
theorem dL_law_1203 : decode cL_law 1203 = .ok (.iconst 2, 1) := by decide +kernel
theorem dL_law_1204 : decode cL_law 1204 = .ok (.iadd, 1) := by decide +kernel
theorem dL_law_1205 : decode cL_law 1205 = .ok (.iaload, 1) := by decide +kernel
theorem dL_law_1206 : decode cL_law 1206 = .ok (.aload_n 0, 1) := by decide +kernel
theorem dL_law_1207 : decode cL_law 1207 = .ok (.iload_n 3, 1) := by decide +kernel
theorem dL_law_1208 : decode cL_law 1208 = .ok (.iconst 3, 1) := by decide +kernel
theorem dL_law_1209 : decode cL_law 1209 = .ok (.iadd, 1) := by decide +kernel
theorem dL_law_1210 : decode cL_law 1210 = .ok (.iaload, 1) := by decide +kernel
theorem dL_law_1211 : decode cL_law 1211 = .ok (.invokevirtual 136, 3) := by decide +kernel
theorem dL_law_1214 : decode cL_law 1214 = .ok (.aload_n 2, 1) := by decide +kernel
theorem dL_law_1215 : decode cL_law 1215 = .ok (.aload_n 0, 1) := by decide +kernel
theorem dL_law_1216 : decode cL_law 1216 = .ok (.iload_n 3, 1) := by decide +kernel
theorem dL_law_1217 : decode cL_law 1217 = .ok (.iconst 1, 1) := by decide +kernel
theorem dL_law_1218 : decode cL_law 1218 = .ok (.iadd, 1) := by decide +kernel
theorem dL_law_1219 : decode cL_law 1219 = .ok (.iaload, 1) := by decide +kernel
theorem dL_law_1220 : decode cL_law 1220 = .ok (.aload_n 0, 1) := by decide +kernel
theorem dL_law_1221 : decode cL_law 1221 = .ok (.iload_n 3, 1) := by decide +kernel
theorem dL_law_1222 : decode cL_law 1222 = .ok (.iconst 2, 1) := by decide +kernel
theorem dL_law_1223 : decode cL_law 1223 = .ok (.iadd, 1) := by decide +kernel
theorem dL_law_1224 : decode cL_law 1224 = .ok (.iaload, 1) := by decide +kernel
theorem dL_law_1225 : decode cL_law 1225 = .ok (.aload_n 0, 1) := by decide +kernel
theorem dL_law_1226 : decode cL_law 1226 = .ok (.iload_n 3, 1) := by decide +kernel
theorem dL_law_1227 : decode cL_law 1227 = .ok (.iconst 3, 1) := by decide +kernel
theorem dL_law_1228 : decode cL_law 1228 = .ok (.iadd, 1) := by decide +kernel
theorem dL_law_1229 : decode cL_law 1229 = .ok (.iaload, 1) := by decide +kernel
theorem dL_law_1230 : decode cL_law 1230 = .ok (.invokevirtual 139, 3) := by decide +kernel
theorem dL_law_1233 : decode cL_law 1233 = .ok (.if_icmp .eq 265, 3) := by decide +kernel
theorem dL_law_1236 : decode cL_law 1236 = .ok (.iconst 0, 1) := by decide +kernel
theorem dL_law_1237 : decode cL_law 1237 = .ok (.ireturn, 1) := by decide +kernel
theorem dL_law_1238 : decode cL_law 1238 = .ok (.aload_n 1, 1) := by decide +kernel
theorem dL_law_1239 : decode cL_law 1239 = .ok (.aload_n 0, 1) := by decide +kernel
theorem dL_law_1240 : decode cL_law 1240 = .ok (.iload_n 3, 1) := by decide +kernel
theorem dL_law_1241 : decode cL_law 1241 = .ok (.iconst 1, 1) := by decide +kernel
theorem dL_law_1242 : decode cL_law 1242 = .ok (.iadd, 1) := by decide +kernel
theorem dL_law_1243 : decode cL_law 1243 = .ok (.iaload, 1) := by decide +kernel
theorem dL_law_1244 : decode cL_law 1244 = .ok (.aload_n 0, 1) := by decide +kernel
theorem dL_law_1245 : decode cL_law 1245 = .ok (.iload_n 3, 1) := by decide +kernel
theorem dL_law_1246 : decode cL_law 1246 = .ok (.iconst 2, 1) := by decide +kernel
theorem dL_law_1247 : decode cL_law 1247 = .ok (.iadd, 1) := by decide +kernel
theorem dL_law_1248 : decode cL_law 1248 = .ok (.iaload, 1) := by decide +kernel
theorem dL_law_1249 : decode cL_law 1249 = .ok (.aload_n 0, 1) := by decide +kernel
theorem dL_law_1250 : decode cL_law 1250 = .ok (.iload_n 3, 1) := by decide +kernel
theorem dL_law_1251 : decode cL_law 1251 = .ok (.iconst 3, 1) := by decide +kernel
theorem dL_law_1252 : decode cL_law 1252 = .ok (.iadd, 1) := by decide +kernel
theorem dL_law_1253 : decode cL_law 1253 = .ok (.iaload, 1) := by decide +kernel
theorem dL_law_1254 : decode cL_law 1254 = .ok (.invokevirtual 140, 3) := by decide +kernel
theorem dL_law_1257 : decode cL_law 1257 = .ok (.aload_n 2, 1) := by decide +kernel
theorem dL_law_1258 : decode cL_law 1258 = .ok (.aload_n 0, 1) := by decide +kernel
theorem dL_law_1259 : decode cL_law 1259 = .ok (.iload_n 3, 1) := by decide +kernel
theorem dL_law_1260 : decode cL_law 1260 = .ok (.iconst 1, 1) := by decide +kernel
theorem dL_law_1261 : decode cL_law 1261 = .ok (.iadd, 1) := by decide +kernel
theorem dL_law_1262 : decode cL_law 1262 = .ok (.iaload, 1) := by decide +kernel
theorem dL_law_1263 : decode cL_law 1263 = .ok (.aload_n 0, 1) := by decide +kernel
theorem dL_law_1264 : decode cL_law 1264 = .ok (.iload_n 3, 1) := by decide +kernel
theorem dL_law_1265 : decode cL_law 1265 = .ok (.iconst 2, 1) := by decide +kernel
theorem dL_law_1266 : decode cL_law 1266 = .ok (.iadd, 1) := by decide +kernel
theorem dL_law_1267 : decode cL_law 1267 = .ok (.iaload, 1) := by decide +kernel
theorem dL_law_1268 : decode cL_law 1268 = .ok (.aload_n 0, 1) := by decide +kernel
theorem dL_law_1269 : decode cL_law 1269 = .ok (.iload_n 3, 1) := by decide +kernel
theorem dL_law_1270 : decode cL_law 1270 = .ok (.iconst 3, 1) := by decide +kernel
theorem dL_law_1271 : decode cL_law 1271 = .ok (.iadd, 1) := by decide +kernel
theorem dL_law_1272 : decode cL_law 1272 = .ok (.iaload, 1) := by decide +kernel
theorem dL_law_1273 : decode cL_law 1273 = .ok (.invokevirtual 143, 3) := by decide +kernel
theorem dL_law_1276 : decode cL_law 1276 = .ok (.if_icmp .eq 222, 3) := by decide +kernel
theorem dL_law_1279 : decode cL_law 1279 = .ok (.iconst 0, 1) := by decide +kernel
theorem dL_law_1280 : decode cL_law 1280 = .ok (.ireturn, 1) := by decide +kernel
theorem dL_law_1281 : decode cL_law 1281 = .ok (.aload_n 1, 1) := by decide +kernel
theorem dL_law_1282 : decode cL_law 1282 = .ok (.aload_n 0, 1) := by decide +kernel
theorem dL_law_1283 : decode cL_law 1283 = .ok (.iload_n 3, 1) := by decide +kernel
theorem dL_law_1284 : decode cL_law 1284 = .ok (.iconst 1, 1) := by decide +kernel
theorem dL_law_1285 : decode cL_law 1285 = .ok (.iadd, 1) := by decide +kernel
theorem dL_law_1286 : decode cL_law 1286 = .ok (.iaload, 1) := by decide +kernel
theorem dL_law_1287 : decode cL_law 1287 = .ok (.aload_n 0, 1) := by decide +kernel
theorem dL_law_1288 : decode cL_law 1288 = .ok (.iload_n 3, 1) := by decide +kernel
theorem dL_law_1289 : decode cL_law 1289 = .ok (.iconst 2, 1) := by decide +kernel
theorem dL_law_1290 : decode cL_law 1290 = .ok (.iadd, 1) := by decide +kernel
theorem dL_law_1291 : decode cL_law 1291 = .ok (.iaload, 1) := by decide +kernel
theorem dL_law_1292 : decode cL_law 1292 = .ok (.aload_n 0, 1) := by decide +kernel
theorem dL_law_1293 : decode cL_law 1293 = .ok (.iload_n 3, 1) := by decide +kernel
theorem dL_law_1294 : decode cL_law 1294 = .ok (.iconst 3, 1) := by decide +kernel
theorem dL_law_1295 : decode cL_law 1295 = .ok (.iadd, 1) := by decide +kernel
theorem dL_law_1296 : decode cL_law 1296 = .ok (.iaload, 1) := by decide +kernel
theorem dL_law_1297 : decode cL_law 1297 = .ok (.aload_n 0, 1) := by decide +kernel
theorem dL_law_1298 : decode cL_law 1298 = .ok (.iload_n 3, 1) := by decide +kernel
theorem dL_law_1299 : decode cL_law 1299 = .ok (.iconst 4, 1) := by decide +kernel
theorem dL_law_1300 : decode cL_law 1300 = .ok (.iadd, 1) := by decide +kernel
theorem dL_law_1301 : decode cL_law 1301 = .ok (.iaload, 1) := by decide +kernel
theorem dL_law_1302 : decode cL_law 1302 = .ok (.aload_n 0, 1) := by decide +kernel
theorem dL_law_1303 : decode cL_law 1303 = .ok (.iload_n 3, 1) := by decide +kernel
theorem dL_law_1304 : decode cL_law 1304 = .ok (.iconst 5, 1) := by decide +kernel
theorem dL_law_1305 : decode cL_law 1305 = .ok (.iadd, 1) := by decide +kernel
theorem dL_law_1306 : decode cL_law 1306 = .ok (.iaload, 1) := by decide +kernel
theorem dL_law_1307 : decode cL_law 1307 = .ok (.invokevirtual 144, 3) := by decide +kernel
theorem dL_law_1310 : decode cL_law 1310 = .ok (.aload_n 2, 1) := by decide +kernel
theorem dL_law_1311 : decode cL_law 1311 = .ok (.aload_n 0, 1) := by decide +kernel
theorem dL_law_1312 : decode cL_law 1312 = .ok (.iload_n 3, 1) := by decide +kernel
theorem dL_law_1313 : decode cL_law 1313 = .ok (.iconst 1, 1) := by decide +kernel
theorem dL_law_1314 : decode cL_law 1314 = .ok (.iadd, 1) := by decide +kernel
theorem dL_law_1315 : decode cL_law 1315 = .ok (.iaload, 1) := by decide +kernel
theorem dL_law_1316 : decode cL_law 1316 = .ok (.aload_n 0, 1) := by decide +kernel
theorem dL_law_1317 : decode cL_law 1317 = .ok (.iload_n 3, 1) := by decide +kernel
theorem dL_law_1318 : decode cL_law 1318 = .ok (.iconst 2, 1) := by decide +kernel
theorem dL_law_1319 : decode cL_law 1319 = .ok (.iadd, 1) := by decide +kernel
theorem dL_law_1320 : decode cL_law 1320 = .ok (.iaload, 1) := by decide +kernel
theorem dL_law_1321 : decode cL_law 1321 = .ok (.aload_n 0, 1) := by decide +kernel
theorem dL_law_1322 : decode cL_law 1322 = .ok (.iload_n 3, 1) := by decide +kernel
theorem dL_law_1323 : decode cL_law 1323 = .ok (.iconst 3, 1) := by decide +kernel
theorem dL_law_1324 : decode cL_law 1324 = .ok (.iadd, 1) := by decide +kernel
theorem dL_law_1325 : decode cL_law 1325 = .ok (.iaload, 1) := by decide +kernel
theorem dL_law_1326 : decode cL_law 1326 = .ok (.aload_n 0, 1) := by decide +kernel
theorem dL_law_1327 : decode cL_law 1327 = .ok (.iload_n 3, 1) := by decide +kernel
theorem dL_law_1328 : decode cL_law 1328 = .ok (.iconst 4, 1) := by decide +kernel
theorem dL_law_1329 : decode cL_law 1329 = .ok (.iadd, 1) := by decide +kernel
theorem dL_law_1330 : decode cL_law 1330 = .ok (.iaload, 1) := by decide +kernel
theorem dL_law_1331 : decode cL_law 1331 = .ok (.aload_n 0, 1) := by decide +kernel
theorem dL_law_1332 : decode cL_law 1332 = .ok (.iload_n 3, 1) := by decide +kernel
theorem dL_law_1333 : decode cL_law 1333 = .ok (.iconst 5, 1) := by decide +kernel
theorem dL_law_1334 : decode cL_law 1334 = .ok (.iadd, 1) := by decide +kernel
theorem dL_law_1335 : decode cL_law 1335 = .ok (.iaload, 1) := by decide +kernel
theorem dL_law_1336 : decode cL_law 1336 = .ok (.invokevirtual 148, 3) := by decide +kernel
theorem dL_law_1339 : decode cL_law 1339 = .ok (.if_icmp .eq 159, 3) := by decide +kernel
theorem dL_law_1342 : decode cL_law 1342 = .ok (.iconst 0, 1) := by decide +kernel
theorem dL_law_1343 : decode cL_law 1343 = .ok (.ireturn, 1) := by decide +kernel
theorem dL_law_1344 : decode cL_law 1344 = .ok (.aload_n 1, 1) := by decide +kernel
theorem dL_law_1345 : decode cL_law 1345 = .ok (.aload_n 0, 1) := by decide +kernel
theorem dL_law_1346 : decode cL_law 1346 = .ok (.iload_n 3, 1) := by decide +kernel
theorem dL_law_1347 : decode cL_law 1347 = .ok (.iconst 1, 1) := by decide +kernel
theorem dL_law_1348 : decode cL_law 1348 = .ok (.iadd, 1) := by decide +kernel
theorem dL_law_1349 : decode cL_law 1349 = .ok (.iaload, 1) := by decide +kernel
theorem dL_law_1350 : decode cL_law 1350 = .ok (.invokevirtual 149, 3) := by decide +kernel
theorem dL_law_1353 : decode cL_law 1353 = .ok (.aload_n 2, 1) := by decide +kernel
theorem dL_law_1354 : decode cL_law 1354 = .ok (.aload_n 0, 1) := by decide +kernel
theorem dL_law_1355 : decode cL_law 1355 = .ok (.iload_n 3, 1) := by decide +kernel
theorem dL_law_1356 : decode cL_law 1356 = .ok (.iconst 1, 1) := by decide +kernel
theorem dL_law_1357 : decode cL_law 1357 = .ok (.iadd, 1) := by decide +kernel
theorem dL_law_1358 : decode cL_law 1358 = .ok (.iaload, 1) := by decide +kernel
theorem dL_law_1359 : decode cL_law 1359 = .ok (.invokevirtual 152, 3) := by decide +kernel
theorem dL_law_1362 : decode cL_law 1362 = .ok (.if_icmp .eq 136, 3) := by decide +kernel
theorem dL_law_1365 : decode cL_law 1365 = .ok (.iconst 0, 1) := by decide +kernel
theorem dL_law_1366 : decode cL_law 1366 = .ok (.ireturn, 1) := by decide +kernel
theorem dL_law_1367 : decode cL_law 1367 = .ok (.aload_n 1, 1) := by decide +kernel
theorem dL_law_1368 : decode cL_law 1368 = .ok (.aload_n 0, 1) := by decide +kernel
theorem dL_law_1369 : decode cL_law 1369 = .ok (.iload_n 3, 1) := by decide +kernel
theorem dL_law_1370 : decode cL_law 1370 = .ok (.iconst 1, 1) := by decide +kernel
theorem dL_law_1371 : decode cL_law 1371 = .ok (.iadd, 1) := by decide +kernel
theorem dL_law_1372 : decode cL_law 1372 = .ok (.iaload, 1) := by decide +kernel
theorem dL_law_1373 : decode cL_law 1373 = .ok (.invokevirtual 153, 3) := by decide +kernel
theorem dL_law_1376 : decode cL_law 1376 = .ok (.aload_n 2, 1) := by decide +kernel
theorem dL_law_1377 : decode cL_law 1377 = .ok (.aload_n 0, 1) := by decide +kernel
theorem dL_law_1378 : decode cL_law 1378 = .ok (.iload_n 3, 1) := by decide +kernel
theorem dL_law_1379 : decode cL_law 1379 = .ok (.iconst 1, 1) := by decide +kernel
theorem dL_law_1380 : decode cL_law 1380 = .ok (.iadd, 1) := by decide +kernel
theorem dL_law_1381 : decode cL_law 1381 = .ok (.iaload, 1) := by decide +kernel
theorem dL_law_1382 : decode cL_law 1382 = .ok (.invokevirtual 156, 3) := by decide +kernel
theorem dL_law_1385 : decode cL_law 1385 = .ok (.if_icmp .eq 113, 3) := by decide +kernel
theorem dL_law_1388 : decode cL_law 1388 = .ok (.iconst 0, 1) := by decide +kernel
theorem dL_law_1389 : decode cL_law 1389 = .ok (.ireturn, 1) := by decide +kernel
theorem dL_law_1390 : decode cL_law 1390 = .ok (.aload_n 1, 1) := by decide +kernel
theorem dL_law_1391 : decode cL_law 1391 = .ok (.invokevirtual 157, 3) := by decide +kernel
theorem dL_law_1394 : decode cL_law 1394 = .ok (.aload_n 2, 1) := by decide +kernel
theorem dL_law_1395 : decode cL_law 1395 = .ok (.invokevirtual 161, 3) := by decide +kernel
theorem dL_law_1398 : decode cL_law 1398 = .ok (.if_icmp .eq 100, 3) := by decide +kernel
theorem dL_law_1401 : decode cL_law 1401 = .ok (.iconst 0, 1) := by decide +kernel
theorem dL_law_1402 : decode cL_law 1402 = .ok (.ireturn, 1) := by decide +kernel
theorem dL_law_1403 : decode cL_law 1403 = .ok (.aload_n 1, 1) := by decide +kernel
theorem dL_law_1404 : decode cL_law 1404 = .ok (.invokevirtual 162, 3) := by decide +kernel
theorem dL_law_1407 : decode cL_law 1407 = .ok (.aload_n 2, 1) := by decide +kernel
theorem dL_law_1408 : decode cL_law 1408 = .ok (.invokevirtual 165, 3) := by decide +kernel
theorem dL_law_1411 : decode cL_law 1411 = .ok (.if_icmp .eq 87, 3) := by decide +kernel
theorem dL_law_1414 : decode cL_law 1414 = .ok (.iconst 0, 1) := by decide +kernel
theorem dL_law_1415 : decode cL_law 1415 = .ok (.ireturn, 1) := by decide +kernel
theorem dL_law_1416 : decode cL_law 1416 = .ok (.aload_n 1, 1) := by decide +kernel
theorem dL_law_1417 : decode cL_law 1417 = .ok (.aload_n 0, 1) := by decide +kernel
theorem dL_law_1418 : decode cL_law 1418 = .ok (.iload_n 3, 1) := by decide +kernel
theorem dL_law_1419 : decode cL_law 1419 = .ok (.iconst 1, 1) := by decide +kernel
theorem dL_law_1420 : decode cL_law 1420 = .ok (.iadd, 1) := by decide +kernel
theorem dL_law_1421 : decode cL_law 1421 = .ok (.iaload, 1) := by decide +kernel
theorem dL_law_1422 : decode cL_law 1422 = .ok (.invokevirtual 166, 3) := by decide +kernel
theorem dL_law_1425 : decode cL_law 1425 = .ok (.aload_n 2, 1) := by decide +kernel
theorem dL_law_1426 : decode cL_law 1426 = .ok (.aload_n 0, 1) := by decide +kernel
theorem dL_law_1427 : decode cL_law 1427 = .ok (.iload_n 3, 1) := by decide +kernel
theorem dL_law_1428 : decode cL_law 1428 = .ok (.iconst 1, 1) := by decide +kernel
theorem dL_law_1429 : decode cL_law 1429 = .ok (.iadd, 1) := by decide +kernel
theorem dL_law_1430 : decode cL_law 1430 = .ok (.iaload, 1) := by decide +kernel
theorem dL_law_1431 : decode cL_law 1431 = .ok (.invokevirtual 169, 3) := by decide +kernel
theorem dL_law_1434 : decode cL_law 1434 = .ok (.if_icmp .eq 64, 3) := by decide +kernel
theorem dL_law_1437 : decode cL_law 1437 = .ok (.iconst 0, 1) := by decide +kernel
theorem dL_law_1438 : decode cL_law 1438 = .ok (.ireturn, 1) := by decide +kernel
theorem dL_law_1439 : decode cL_law 1439 = .ok (.aload_n 1, 1) := by decide +kernel
theorem dL_law_1440 : decode cL_law 1440 = .ok (.invokevirtual 170, 3) := by decide +kernel
theorem dL_law_1443 : decode cL_law 1443 = .ok (.aload_n 2, 1) := by decide +kernel
theorem dL_law_1444 : decode cL_law 1444 = .ok (.invokevirtual 173, 3) := by decide +kernel
theorem dL_law_1447 : decode cL_law 1447 = .ok (.if_icmp .eq 51, 3) := by decide +kernel
theorem dL_law_1450 : decode cL_law 1450 = .ok (.iconst 0, 1) := by decide +kernel
theorem dL_law_1451 : decode cL_law 1451 = .ok (.ireturn, 1) := by decide +kernel
theorem dL_law_1452 : decode cL_law 1452 = .ok (.aload_n 1, 1) := by decide +kernel
theorem dL_law_1453 : decode cL_law 1453 = .ok (.aload_n 0, 1) := by decide +kernel
theorem dL_law_1454 : decode cL_law 1454 = .ok (.iload_n 3, 1) := by decide +kernel
theorem dL_law_1455 : decode cL_law 1455 = .ok (.iconst 1, 1) := by decide +kernel
theorem dL_law_1456 : decode cL_law 1456 = .ok (.iadd, 1) := by decide +kernel
theorem dL_law_1457 : decode cL_law 1457 = .ok (.iaload, 1) := by decide +kernel
theorem dL_law_1458 : decode cL_law 1458 = .ok (.invokevirtual 174, 3) := by decide +kernel
theorem dL_law_1461 : decode cL_law 1461 = .ok (.aload_n 2, 1) := by decide +kernel
theorem dL_law_1462 : decode cL_law 1462 = .ok (.aload_n 0, 1) := by decide +kernel
theorem dL_law_1463 : decode cL_law 1463 = .ok (.iload_n 3, 1) := by decide +kernel
theorem dL_law_1464 : decode cL_law 1464 = .ok (.iconst 1, 1) := by decide +kernel
theorem dL_law_1465 : decode cL_law 1465 = .ok (.iadd, 1) := by decide +kernel
theorem dL_law_1466 : decode cL_law 1466 = .ok (.iaload, 1) := by decide +kernel
theorem dL_law_1467 : decode cL_law 1467 = .ok (.invokevirtual 177, 3) := by decide +kernel
theorem dL_law_1470 : decode cL_law 1470 = .ok (.if_icmp .eq 28, 3) := by decide +kernel
theorem dL_law_1473 : decode cL_law 1473 = .ok (.iconst 0, 1) := by decide +kernel
theorem dL_law_1474 : decode cL_law 1474 = .ok (.ireturn, 1) := by decide +kernel
theorem dL_law_1475 : decode cL_law 1475 = .ok (.aload_n 1, 1) := by decide +kernel
theorem dL_law_1476 : decode cL_law 1476 = .ok (.aload_n 0, 1) := by decide +kernel
theorem dL_law_1477 : decode cL_law 1477 = .ok (.iload_n 3, 1) := by decide +kernel
theorem dL_law_1478 : decode cL_law 1478 = .ok (.iconst 1, 1) := by decide +kernel
theorem dL_law_1479 : decode cL_law 1479 = .ok (.iadd, 1) := by decide +kernel
theorem dL_law_1480 : decode cL_law 1480 = .ok (.iaload, 1) := by decide +kernel
theorem dL_law_1481 : decode cL_law 1481 = .ok (.invokevirtual 178, 3) := by decide +kernel
theorem dL_law_1484 : decode cL_law 1484 = .ok (.aload_n 2, 1) := by decide +kernel
theorem dL_law_1485 : decode cL_law 1485 = .ok (.aload_n 0, 1) := by decide +kernel
theorem dL_law_1486 : decode cL_law 1486 = .ok (.iload_n 3, 1) := by decide +kernel
theorem dL_law_1487 : decode cL_law 1487 = .ok (.iconst 1, 1) := by decide +kernel
theorem dL_law_1488 : decode cL_law 1488 = .ok (.iadd, 1) := by decide +kernel
theorem dL_law_1489 : decode cL_law 1489 = .ok (.iaload, 1) := by decide +kernel
theorem dL_law_1490 : decode cL_law 1490 = .ok (.invokevirtual 181, 3) := by decide +kernel
theorem dL_law_1493 : decode cL_law 1493 = .ok (.if_icmp .eq 5, 3) := by decide +kernel
theorem dL_law_1496 : decode cL_law 1496 = .ok (.iconst 0, 1) := by decide +kernel
theorem dL_law_1497 : decode cL_law 1497 = .ok (.ireturn, 1) := by decide +kernel
theorem dL_law_1498 : decode cL_law 1498 = .ok (.iinc 3 6, 3) := by decide +kernel
theorem dL_law_1501 : decode cL_law 1501 = .ok (.goto (-1483), 3) := by decide +kernel
theorem dL_law_1504 : decode cL_law 1504 = .ok (.iconst 1, 1) := by decide +kernel
theorem dL_law_1505 : decode cL_law 1505 = .ok (.ireturn, 1) := by decide +kernel
set_option maxRecDepth 100000 in
theorem ml_L_13 : Cond.methodLink RL 13 yX7_house ∈ TB := tbm 254 (by decide +kernel) rfl
set_option maxRecDepth 100000 in
theorem ml_L_17 : Cond.methodLink RL 17 yX8_house ∈ TB := tbm 850 (by decide +kernel) rfl
set_option maxRecDepth 100000 in
theorem ml_L_18 : Cond.methodLink RL 18 yX7_ofHouse ∈ TB := tbm 269 (by decide +kernel) rfl
set_option maxRecDepth 100000 in
theorem ml_L_22 : Cond.methodLink RL 22 yX8_ofHouse ∈ TB := tbm 859 (by decide +kernel) rfl
set_option maxRecDepth 100000 in
theorem ml_L_23 : Cond.methodLink RL 23 yX7_pot ∈ TB := tbm 277 (by decide +kernel) rfl
set_option maxRecDepth 100000 in
theorem ml_L_26 : Cond.methodLink RL 26 yX8_pot ∈ TB := tbm 876 (by decide +kernel) rfl
set_option maxRecDepth 100000 in
theorem ml_L_27 : Cond.methodLink RL 27 yX7_ofPot ∈ TB := tbm 288 (by decide +kernel) rfl
set_option maxRecDepth 100000 in
theorem ml_L_30 : Cond.methodLink RL 30 yX8_ofPot ∈ TB := tbm 885 (by decide +kernel) rfl
set_option maxRecDepth 100000 in
theorem ml_L_31 : Cond.methodLink RL 31 yX7_change ∈ TB := tbm 304 (by decide +kernel) rfl
set_option maxRecDepth 100000 in
theorem ml_L_34 : Cond.methodLink RL 34 yX8_change ∈ TB := tbm 901 (by decide +kernel) rfl
set_option maxRecDepth 100000 in
theorem ml_L_35 : Cond.methodLink RL 35 yX7_shift ∈ TB := tbm 308 (by decide +kernel) rfl
set_option maxRecDepth 100000 in
theorem ml_L_38 : Cond.methodLink RL 38 yX8_shift ∈ TB := tbm 906 (by decide +kernel) rfl
set_option maxRecDepth 100000 in
theorem ml_L_39 : Cond.methodLink RL 39 yX7_stick ∈ TB := tbm 316 (by decide +kernel) rfl
set_option maxRecDepth 100000 in
theorem ml_L_43 : Cond.methodLink RL 43 yX8_stick ∈ TB := tbm 914 (by decide +kernel) rfl
set_option maxRecDepth 100000 in
theorem ml_L_44 : Cond.methodLink RL 44 yX7_become ∈ TB := tbm 328 (by decide +kernel) rfl
set_option maxRecDepth 100000 in
theorem ml_L_47 : Cond.methodLink RL 47 yX8_become ∈ TB := tbm 918 (by decide +kernel) rfl
set_option maxRecDepth 100000 in
theorem ml_L_48 : Cond.methodLink RL 48 yX7_as ∈ TB := tbm 332 (by decide +kernel) rfl
set_option maxRecDepth 100000 in
theorem ml_L_51 : Cond.methodLink RL 51 yX8_as ∈ TB := tbm 922 (by decide +kernel) rfl
set_option maxRecDepth 100000 in
theorem ml_L_54 : Cond.methodLink RL 54 yX7_feed ∈ TB := tbm 342 (by decide +kernel) rfl
set_option maxRecDepth 100000 in
theorem ml_L_58 : Cond.methodLink RL 58 yX8_feed ∈ TB := tbm 760 (by decide +kernel) rfl
set_option maxRecDepth 100000 in
theorem ml_L_59 : Cond.methodLink RL 59 yX7_text ∈ TB := tbm 346 (by decide +kernel) rfl
set_option maxRecDepth 100000 in
theorem ml_L_62 : Cond.methodLink RL 62 yX8_text ∈ TB := tbm 774 (by decide +kernel) rfl
set_option maxRecDepth 100000 in
theorem ml_L_63 : Cond.methodLink RL 63 yX7_law ∈ TB := tbm 406 (by decide +kernel) rfl
set_option maxRecDepth 100000 in
theorem ml_L_67 : Cond.methodLink RL 67 yX8_law ∈ TB := tbm 832 (by decide +kernel) rfl
set_option maxRecDepth 100000 in
theorem ml_L_68 : Cond.methodLink RL 68 yX7_years ∈ TB := tbm 431 (by decide +kernel) rfl
set_option maxRecDepth 100000 in
theorem ml_L_71 : Cond.methodLink RL 71 yX8_years ∈ TB := tbm 930 (by decide +kernel) rfl
set_option maxRecDepth 100000 in
theorem ml_L_72 : Cond.methodLink RL 72 yX7_loose ∈ TB := tbm 468 (by decide +kernel) rfl
set_option maxRecDepth 100000 in
theorem ml_L_75 : Cond.methodLink RL 75 yX8_loose ∈ TB := tbm 955 (by decide +kernel) rfl
set_option maxRecDepth 100000 in
theorem ml_L_76 : Cond.methodLink RL 76 yX7_then ∈ TB := tbm 477 (by decide +kernel) rfl
set_option maxRecDepth 100000 in
theorem ml_L_79 : Cond.methodLink RL 79 yX8_then ∈ TB := tbm 965 (by decide +kernel) rfl
set_option maxRecDepth 100000 in
theorem ml_L_80 : Cond.methodLink RL 80 yX7_when ∈ TB := tbm 499 (by decide +kernel) rfl
set_option maxRecDepth 100000 in
theorem ml_L_83 : Cond.methodLink RL 83 yX8_when ∈ TB := tbm 977 (by decide +kernel) rfl
set_option maxRecDepth 100000 in
theorem ml_L_84 : Cond.methodLink RL 84 yX7_shelf ∈ TB := tbm 503 (by decide +kernel) rfl
set_option maxRecDepth 100000 in
theorem ml_L_87 : Cond.methodLink RL 87 yX8_shelf ∈ TB := tbm 981 (by decide +kernel) rfl
set_option maxRecDepth 100000 in
theorem ml_L_88 : Cond.methodLink RL 88 yX7_place ∈ TB := tbm 511 (by decide +kernel) rfl
set_option maxRecDepth 100000 in
theorem ml_L_91 : Cond.methodLink RL 91 yX8_place ∈ TB := tbm 985 (by decide +kernel) rfl
set_option maxRecDepth 100000 in
theorem ml_L_92 : Cond.methodLink RL 92 yX7_use ∈ TB := tbm 519 (by decide +kernel) rfl
set_option maxRecDepth 100000 in
theorem ml_L_95 : Cond.methodLink RL 95 yX8_use ∈ TB := tbm 989 (by decide +kernel) rfl
set_option maxRecDepth 100000 in
theorem ml_L_96 : Cond.methodLink RL 96 yX7_needed ∈ TB := tbm 523 (by decide +kernel) rfl
set_option maxRecDepth 100000 in
theorem ml_L_99 : Cond.methodLink RL 99 yX8_needed ∈ TB := tbm 993 (by decide +kernel) rfl
set_option maxRecDepth 100000 in
theorem ml_L_100 : Cond.methodLink RL 100 yX7_whose ∈ TB := tbm 536 (by decide +kernel) rfl
set_option maxRecDepth 100000 in
theorem ml_L_103 : Cond.methodLink RL 103 yX8_whose ∈ TB := tbm 1001 (by decide +kernel) rfl
set_option maxRecDepth 100000 in
theorem ml_L_104 : Cond.methodLink RL 104 yX7_carry ∈ TB := tbm 551 (by decide +kernel) rfl
set_option maxRecDepth 100000 in
theorem ml_L_107 : Cond.methodLink RL 107 yX8_carry ∈ TB := tbm 1009 (by decide +kernel) rfl
set_option maxRecDepth 100000 in
theorem ml_L_108 : Cond.methodLink RL 108 yX7_richest ∈ TB := tbm 556 (by decide +kernel) rfl
set_option maxRecDepth 100000 in
theorem ml_L_111 : Cond.methodLink RL 111 yX8_richest ∈ TB := tbm 1013 (by decide +kernel) rfl
set_option maxRecDepth 100000 in
theorem ml_L_112 : Cond.methodLink RL 112 yX7_breaks ∈ TB := tbm 564 (by decide +kernel) rfl
set_option maxRecDepth 100000 in
theorem ml_L_115 : Cond.methodLink RL 115 yX8_breaks ∈ TB := tbm 1017 (by decide +kernel) rfl
set_option maxRecDepth 100000 in
theorem ml_L_116 : Cond.methodLink RL 116 yX7_dealer ∈ TB := tbm 568 (by decide +kernel) rfl
set_option maxRecDepth 100000 in
theorem ml_L_119 : Cond.methodLink RL 119 yX8_dealer ∈ TB := tbm 1021 (by decide +kernel) rfl
set_option maxRecDepth 100000 in
theorem ml_L_120 : Cond.methodLink RL 120 yX7_odds ∈ TB := tbm 576 (by decide +kernel) rfl
set_option maxRecDepth 100000 in
theorem ml_L_123 : Cond.methodLink RL 123 yX8_odds ∈ TB := tbm 1026 (by decide +kernel) rfl
set_option maxRecDepth 100000 in
theorem ml_L_124 : Cond.methodLink RL 124 yX7_seed ∈ TB := tbm 584 (by decide +kernel) rfl
set_option maxRecDepth 100000 in
theorem ml_L_127 : Cond.methodLink RL 127 yX8_seed ∈ TB := tbm 1033 (by decide +kernel) rfl
set_option maxRecDepth 100000 in
theorem ml_L_128 : Cond.methodLink RL 128 yX7_voice ∈ TB := tbm 588 (by decide +kernel) rfl
set_option maxRecDepth 100000 in
theorem ml_L_131 : Cond.methodLink RL 131 yX8_voice ∈ TB := tbm 1037 (by decide +kernel) rfl
set_option maxRecDepth 100000 in
theorem ml_L_132 : Cond.methodLink RL 132 yX7_trace ∈ TB := tbm 616 (by decide +kernel) rfl
set_option maxRecDepth 100000 in
theorem ml_L_135 : Cond.methodLink RL 135 yX8_trace ∈ TB := tbm 1061 (by decide +kernel) rfl
set_option maxRecDepth 100000 in
theorem ml_L_136 : Cond.methodLink RL 136 yX7_sheet ∈ TB := tbm 620 (by decide +kernel) rfl
set_option maxRecDepth 100000 in
theorem ml_L_139 : Cond.methodLink RL 139 yX8_sheet ∈ TB := tbm 1065 (by decide +kernel) rfl
set_option maxRecDepth 100000 in
theorem ml_L_140 : Cond.methodLink RL 140 yX7_put ∈ TB := tbm 629 (by decide +kernel) rfl
set_option maxRecDepth 100000 in
theorem ml_L_143 : Cond.methodLink RL 143 yX8_put ∈ TB := tbm 1069 (by decide +kernel) rfl
set_option maxRecDepth 100000 in
theorem ml_L_144 : Cond.methodLink RL 144 yX7_move ∈ TB := tbm 637 (by decide +kernel) rfl
set_option maxRecDepth 100000 in
theorem ml_L_148 : Cond.methodLink RL 148 yX8_move ∈ TB := tbm 1073 (by decide +kernel) rfl
set_option maxRecDepth 100000 in
theorem ml_L_149 : Cond.methodLink RL 149 yX7_uses ∈ TB := tbm 646 (by decide +kernel) rfl
set_option maxRecDepth 100000 in
theorem ml_L_152 : Cond.methodLink RL 152 yX8_uses ∈ TB := tbm 1077 (by decide +kernel) rfl
set_option maxRecDepth 100000 in
theorem ml_L_153 : Cond.methodLink RL 153 yX7_judge ∈ TB := tbm 650 (by decide +kernel) rfl
set_option maxRecDepth 100000 in
theorem ml_L_156 : Cond.methodLink RL 156 yX8_judge ∈ TB := tbm 1081 (by decide +kernel) rfl
set_option maxRecDepth 100000 in
theorem ml_L_157 : Cond.methodLink RL 157 yX7_image ∈ TB := tbm 654 (by decide +kernel) rfl
set_option maxRecDepth 100000 in
theorem ml_L_161 : Cond.methodLink RL 161 yX8_image ∈ TB := tbm 1085 (by decide +kernel) rfl
set_option maxRecDepth 100000 in
theorem ml_L_162 : Cond.methodLink RL 162 yX7_restore ∈ TB := tbm 663 (by decide +kernel) rfl
set_option maxRecDepth 100000 in
theorem ml_L_165 : Cond.methodLink RL 165 yX8_restore ∈ TB := tbm 1089 (by decide +kernel) rfl
set_option maxRecDepth 100000 in
theorem ml_L_166 : Cond.methodLink RL 166 yX7_tell ∈ TB := tbm 667 (by decide +kernel) rfl
set_option maxRecDepth 100000 in
theorem ml_L_169 : Cond.methodLink RL 169 yX8_tell ∈ TB := tbm 1093 (by decide +kernel) rfl
set_option maxRecDepth 100000 in
theorem ml_L_170 : Cond.methodLink RL 170 yX7_check ∈ TB := tbm 671 (by decide +kernel) rfl
set_option maxRecDepth 100000 in
theorem ml_L_173 : Cond.methodLink RL 173 yX8_check ∈ TB := tbm 1097 (by decide +kernel) rfl
set_option maxRecDepth 100000 in
theorem ml_L_174 : Cond.methodLink RL 174 yX7_count ∈ TB := tbm 675 (by decide +kernel) rfl
set_option maxRecDepth 100000 in
theorem ml_L_177 : Cond.methodLink RL 177 yX8_count ∈ TB := tbm 1101 (by decide +kernel) rfl
set_option maxRecDepth 100000 in
theorem ml_L_178 : Cond.methodLink RL 178 yX7_told ∈ TB := tbm 683 (by decide +kernel) rfl
set_option maxRecDepth 100000 in
theorem ml_L_181 : Cond.methodLink RL 181 yX8_told ∈ TB := tbm 1105 (by decide +kernel) rfl
set_option maxRecDepth 100000 in
theorem ko_L_52 : Cond.constantLong RL 52 (4294967295) ∈ TB := tbm 1110 (by decide +kernel) rfl
/-- the script: L ints xs, in a cell of its own that nobody writes -/
def SX (n : Nat) (xs : Nat → Int32) : CtxX := fun s A H0 ad => va_X (ad 99 0) n xs s H0 ∧ ad 99 0 < H0.size ∧ ¬ A (ad 99 0)
section SCR
variable {n : Nat} {xs : Nat → Int32} {t : MT} {d : Nat} {r : Option AV} {M' : MM} {pc : Nat} {L : List (Nat × AV)} {st : List AV} {M : MM}
theorem G_sld {x v : Int32} (hin : vp_in x n) (hv : xs x.toNatClampNeg = v) (hdg : decode t.2.2.1 pc = .ok (.iaload, 1)) (k : GX (SX n xs) t d r M' (pc + 1) L (.inl v :: st) M) : GX (SX n xs) t d r M' pc L (.inl x :: .inr (.inr (99, 0)) :: st) M := by
  intro p l e R s m args below meth c cells slots A H0 ad cA D Q Cx Xh F H locs ls hl hP hS
  subst hv
  exact va_sld Cx.1 Cx.2.1 Xh.1 Xh.2.1 Xh.2.2 hS hin hdg (k p l e R s m args below meth c cells slots A H0 ad cA D Q Cx Xh F H locs ls hl hP hS)
theorem G_slen (hdg : decode t.2.2.1 pc = .ok (.arraylength, 1)) (k : GX (SX n xs) t d r M' (pc + 1) L (.inl (Int32.ofNat n) :: st) M) : GX (SX n xs) t d r M' pc L (.inr (.inr (99, 0)) :: st) M := by
  intro p l e R s m args below meth c cells slots A H0 ad cA D Q Cx Xh F H locs ls hl hP hS
  exact va_slen Cx.1 Cx.2.1 Xh.1 Xh.2.1 Xh.2.2 hS hdg (k p l e R s m args below meth c cells slots A H0 ad cA D Q Cx Xh F H locs ls hl hP hS)
end SCR
set_option maxRecDepth 100000 in
set_option maxHeartbeats 4000000 in
theorem lawc_0 {n : Nat} {xs : Nat → Int32} {r : Option AV} {M' : MM} {v3 : Int32} (b1 : vp_in (v3 + 1) n) {a1 : Int32} (e1 : xs (v3 + 1).toNatClampNeg = a1) (b2 : vp_in (v3 + 2) n) {a2 : Int32} (e2 : xs (v3 + 2).toNatClampNeg = a2) (b3 : vp_in (v3 + 3) n) {a3 : Int32} (e3 : xs (v3 + 3).toNatClampNeg = a3) {C R C' R' : Mem} {res : Int32} (h1 : X7_house a1 a2 a3 C = some (res, C')) (h2 : X8_house a1 a2 a3 R = some (res, R')) (K : GX (SX n xs) mt_law 1000 r M' 1498 [(0, .inr (.inr (99, 0))), (1, .inr (.inr (7, 0))), (2, .inr (.inr (19, 0))), (3, .inl v3)] [] (C', R')) : GX (SX n xs) mt_law 1000 r M' 208 [(0, .inr (.inr (99, 0))), (1, .inr (.inr (7, 0))), (2, .inr (.inr (19, 0))), (3, .inl v3)] [] (C, R) := by
  refine G_aload_n dL_law_208 rfl ?_
  refine G_aload_n dL_law_209 rfl ?_
  refine G_iload_n dL_law_210 rfl ?_
  refine G_iconst (v := 1) dL_law_211 (by decide) ?_
  refine G_iadd dL_law_212 ?_
  refine G_sld b1 e1 dL_law_213 ?_
  refine G_aload_n dL_law_214 rfl ?_
  refine G_iload_n dL_law_215 rfl ?_
  refine G_iconst (v := 2) dL_law_216 (by decide) ?_
  refine G_iadd dL_law_217 ?_
  refine G_sld b2 e2 dL_law_218 ?_
  refine G_aload_n dL_law_219 rfl ?_
  refine G_iload_n dL_law_220 rfl ?_
  refine G_iconst (v := 3) dL_law_221 (by decide) ?_
  refine G_iadd dL_law_222 ?_
  refine G_sld b3 e3 dL_law_223 ?_
  refine G_callVv (T := TX7) (N := 10) (f := 7) (i := 0) (X7_house_ok h1) ok_X7_house ml_L_13 (by decide) rfl (by decide) (by decide) (by decide) rfl rfl (Nat.le_of_ble_eq_true rfl) dL_law_224 ?_
  refine G_aload_n dL_law_227 rfl ?_
  refine G_aload_n dL_law_228 rfl ?_
  refine G_iload_n dL_law_229 rfl ?_
  refine G_iconst (v := 1) dL_law_230 (by decide) ?_
  refine G_iadd dL_law_231 ?_
  refine G_sld b1 e1 dL_law_232 ?_
  refine G_aload_n dL_law_233 rfl ?_
  refine G_iload_n dL_law_234 rfl ?_
  refine G_iconst (v := 2) dL_law_235 (by decide) ?_
  refine G_iadd dL_law_236 ?_
  refine G_sld b2 e2 dL_law_237 ?_
  refine G_aload_n dL_law_238 rfl ?_
  refine G_iload_n dL_law_239 rfl ?_
  refine G_iconst (v := 3) dL_law_240 (by decide) ?_
  refine G_iadd dL_law_241 ?_
  refine G_sld b3 e3 dL_law_242 ?_
  refine G_callVv (T := TX8) (N := 22) (f := 19) (i := 0) (X8_house_ok h2) ok_X8_house ml_L_17 (by decide) rfl (by decide) (by decide) (by decide) rfl rfl (Nat.le_of_ble_eq_true rfl) dL_law_243 ?_
  refine G_icmp_eq (tgt := 1498) dL_law_246 (by decide) (fun _ => ?_) (fun hc => absurd rfl hc)
  exact K
set_option maxRecDepth 100000 in
set_option maxHeartbeats 4000000 in
theorem lawc_1 {n : Nat} {xs : Nat → Int32} {r : Option AV} {M' : MM} {v3 : Int32} (b1 : vp_in (v3 + 1) n) {a1 : Int32} (e1 : xs (v3 + 1).toNatClampNeg = a1) (b2 : vp_in (v3 + 2) n) {a2 : Int32} (e2 : xs (v3 + 2).toNatClampNeg = a2) {C R C' R' : Mem} {res : Int32} (h1 : X7_ofHouse a1 a2 C = some (res, C')) (h2 : X8_ofHouse a1 a2 R = some (res, R')) (K : GX (SX n xs) mt_law 1000 r M' 1498 [(0, .inr (.inr (99, 0))), (1, .inr (.inr (7, 0))), (2, .inr (.inr (19, 0))), (3, .inl v3)] [] (C', R')) : GX (SX n xs) mt_law 1000 r M' 251 [(0, .inr (.inr (99, 0))), (1, .inr (.inr (7, 0))), (2, .inr (.inr (19, 0))), (3, .inl v3)] [] (C, R) := by
  refine G_aload_n dL_law_251 rfl ?_
  refine G_aload_n dL_law_252 rfl ?_
  refine G_iload_n dL_law_253 rfl ?_
  refine G_iconst (v := 1) dL_law_254 (by decide) ?_
  refine G_iadd dL_law_255 ?_
  refine G_sld b1 e1 dL_law_256 ?_
  refine G_aload_n dL_law_257 rfl ?_
  refine G_iload_n dL_law_258 rfl ?_
  refine G_iconst (v := 2) dL_law_259 (by decide) ?_
  refine G_iadd dL_law_260 ?_
  refine G_sld b2 e2 dL_law_261 ?_
  refine G_callVv (T := TX7) (N := 10) (f := 7) (i := 0) (X7_ofHouse_ok h1) ok_X7_ofHouse ml_L_18 (by decide) rfl (by decide) (by decide) (by decide) rfl rfl (Nat.le_of_ble_eq_true rfl) dL_law_262 ?_
  refine G_aload_n dL_law_265 rfl ?_
  refine G_aload_n dL_law_266 rfl ?_
  refine G_iload_n dL_law_267 rfl ?_
  refine G_iconst (v := 1) dL_law_268 (by decide) ?_
  refine G_iadd dL_law_269 ?_
  refine G_sld b1 e1 dL_law_270 ?_
  refine G_aload_n dL_law_271 rfl ?_
  refine G_iload_n dL_law_272 rfl ?_
  refine G_iconst (v := 2) dL_law_273 (by decide) ?_
  refine G_iadd dL_law_274 ?_
  refine G_sld b2 e2 dL_law_275 ?_
  refine G_callVv (T := TX8) (N := 22) (f := 19) (i := 0) (X8_ofHouse_ok h2) ok_X8_ofHouse ml_L_22 (by decide) rfl (by decide) (by decide) (by decide) rfl rfl (Nat.le_of_ble_eq_true rfl) dL_law_276 ?_
  refine G_icmp_eq (tgt := 1498) dL_law_279 (by decide) (fun _ => ?_) (fun hc => absurd rfl hc)
  exact K
set_option maxRecDepth 100000 in
set_option maxHeartbeats 4000000 in
theorem lawc_2 {n : Nat} {xs : Nat → Int32} {r : Option AV} {M' : MM} {v3 : Int32} (b1 : vp_in (v3 + 1) n) {a1 : Int32} (e1 : xs (v3 + 1).toNatClampNeg = a1) (b2 : vp_in (v3 + 2) n) {a2 : Int32} (e2 : xs (v3 + 2).toNatClampNeg = a2) (b3 : vp_in (v3 + 3) n) {a3 : Int32} (e3 : xs (v3 + 3).toNatClampNeg = a3) {C R C' R' : Mem} {res : Int32} (h1 : X7_pot a1 a2 a3 C = some (res, C')) (h2 : X8_pot a1 a2 a3 R = some (res, R')) (K : GX (SX n xs) mt_law 1000 r M' 1498 [(0, .inr (.inr (99, 0))), (1, .inr (.inr (7, 0))), (2, .inr (.inr (19, 0))), (3, .inl v3)] [] (C', R')) : GX (SX n xs) mt_law 1000 r M' 284 [(0, .inr (.inr (99, 0))), (1, .inr (.inr (7, 0))), (2, .inr (.inr (19, 0))), (3, .inl v3)] [] (C, R) := by
  refine G_aload_n dL_law_284 rfl ?_
  refine G_aload_n dL_law_285 rfl ?_
  refine G_iload_n dL_law_286 rfl ?_
  refine G_iconst (v := 1) dL_law_287 (by decide) ?_
  refine G_iadd dL_law_288 ?_
  refine G_sld b1 e1 dL_law_289 ?_
  refine G_aload_n dL_law_290 rfl ?_
  refine G_iload_n dL_law_291 rfl ?_
  refine G_iconst (v := 2) dL_law_292 (by decide) ?_
  refine G_iadd dL_law_293 ?_
  refine G_sld b2 e2 dL_law_294 ?_
  refine G_aload_n dL_law_295 rfl ?_
  refine G_iload_n dL_law_296 rfl ?_
  refine G_iconst (v := 3) dL_law_297 (by decide) ?_
  refine G_iadd dL_law_298 ?_
  refine G_sld b3 e3 dL_law_299 ?_
  refine G_callVv (T := TX7) (N := 10) (f := 7) (i := 0) (X7_pot_ok h1) ok_X7_pot ml_L_23 (by decide) rfl (by decide) (by decide) (by decide) rfl rfl (Nat.le_of_ble_eq_true rfl) dL_law_300 ?_
  refine G_aload_n dL_law_303 rfl ?_
  refine G_aload_n dL_law_304 rfl ?_
  refine G_iload_n dL_law_305 rfl ?_
  refine G_iconst (v := 1) dL_law_306 (by decide) ?_
  refine G_iadd dL_law_307 ?_
  refine G_sld b1 e1 dL_law_308 ?_
  refine G_aload_n dL_law_309 rfl ?_
  refine G_iload_n dL_law_310 rfl ?_
  refine G_iconst (v := 2) dL_law_311 (by decide) ?_
  refine G_iadd dL_law_312 ?_
  refine G_sld b2 e2 dL_law_313 ?_
  refine G_aload_n dL_law_314 rfl ?_
  refine G_iload_n dL_law_315 rfl ?_
  refine G_iconst (v := 3) dL_law_316 (by decide) ?_
  refine G_iadd dL_law_317 ?_
  refine G_sld b3 e3 dL_law_318 ?_
  refine G_callVv (T := TX8) (N := 22) (f := 19) (i := 0) (X8_pot_ok h2) ok_X8_pot ml_L_26 (by decide) rfl (by decide) (by decide) (by decide) rfl rfl (Nat.le_of_ble_eq_true rfl) dL_law_319 ?_
  refine G_icmp_eq (tgt := 1498) dL_law_322 (by decide) (fun _ => ?_) (fun hc => absurd rfl hc)
  exact K
set_option maxRecDepth 100000 in
set_option maxHeartbeats 4000000 in
theorem lawc_3 {n : Nat} {xs : Nat → Int32} {r : Option AV} {M' : MM} {v3 : Int32} (b1 : vp_in (v3 + 1) n) {a1 : Int32} (e1 : xs (v3 + 1).toNatClampNeg = a1) (b2 : vp_in (v3 + 2) n) {a2 : Int32} (e2 : xs (v3 + 2).toNatClampNeg = a2) {C R C' R' : Mem} {res : Int32} (h1 : X7_ofPot a1 a2 C = some (res, C')) (h2 : X8_ofPot a1 a2 R = some (res, R')) (K : GX (SX n xs) mt_law 1000 r M' 1498 [(0, .inr (.inr (99, 0))), (1, .inr (.inr (7, 0))), (2, .inr (.inr (19, 0))), (3, .inl v3)] [] (C', R')) : GX (SX n xs) mt_law 1000 r M' 327 [(0, .inr (.inr (99, 0))), (1, .inr (.inr (7, 0))), (2, .inr (.inr (19, 0))), (3, .inl v3)] [] (C, R) := by
  refine G_aload_n dL_law_327 rfl ?_
  refine G_aload_n dL_law_328 rfl ?_
  refine G_iload_n dL_law_329 rfl ?_
  refine G_iconst (v := 1) dL_law_330 (by decide) ?_
  refine G_iadd dL_law_331 ?_
  refine G_sld b1 e1 dL_law_332 ?_
  refine G_aload_n dL_law_333 rfl ?_
  refine G_iload_n dL_law_334 rfl ?_
  refine G_iconst (v := 2) dL_law_335 (by decide) ?_
  refine G_iadd dL_law_336 ?_
  refine G_sld b2 e2 dL_law_337 ?_
  refine G_callVv (T := TX7) (N := 10) (f := 7) (i := 0) (X7_ofPot_ok h1) ok_X7_ofPot ml_L_27 (by decide) rfl (by decide) (by decide) (by decide) rfl rfl (Nat.le_of_ble_eq_true rfl) dL_law_338 ?_
  refine G_aload_n dL_law_341 rfl ?_
  refine G_aload_n dL_law_342 rfl ?_
  refine G_iload_n dL_law_343 rfl ?_
  refine G_iconst (v := 1) dL_law_344 (by decide) ?_
  refine G_iadd dL_law_345 ?_
  refine G_sld b1 e1 dL_law_346 ?_
  refine G_aload_n dL_law_347 rfl ?_
  refine G_iload_n dL_law_348 rfl ?_
  refine G_iconst (v := 2) dL_law_349 (by decide) ?_
  refine G_iadd dL_law_350 ?_
  refine G_sld b2 e2 dL_law_351 ?_
  refine G_callVv (T := TX8) (N := 22) (f := 19) (i := 0) (X8_ofPot_ok h2) ok_X8_ofPot ml_L_30 (by decide) rfl (by decide) (by decide) (by decide) rfl rfl (Nat.le_of_ble_eq_true rfl) dL_law_352 ?_
  refine G_icmp_eq (tgt := 1498) dL_law_355 (by decide) (fun _ => ?_) (fun hc => absurd rfl hc)
  exact K
set_option maxRecDepth 100000 in
set_option maxHeartbeats 4000000 in
theorem lawc_4 {n : Nat} {xs : Nat → Int32} {r : Option AV} {M' : MM} {v3 : Int32} (b1 : vp_in (v3 + 1) n) {a1 : Int32} (e1 : xs (v3 + 1).toNatClampNeg = a1) (b2 : vp_in (v3 + 2) n) {a2 : Int32} (e2 : xs (v3 + 2).toNatClampNeg = a2) (b3 : vp_in (v3 + 3) n) {a3 : Int32} (e3 : xs (v3 + 3).toNatClampNeg = a3) {C R C' R' : Mem} {res : Int32} (h1 : X7_change a1 a2 a3 C = some (res, C')) (h2 : X8_change a1 a2 a3 R = some (res, R')) (K : GX (SX n xs) mt_law 1000 r M' 1498 [(0, .inr (.inr (99, 0))), (1, .inr (.inr (7, 0))), (2, .inr (.inr (19, 0))), (3, .inl v3)] [] (C', R')) : GX (SX n xs) mt_law 1000 r M' 360 [(0, .inr (.inr (99, 0))), (1, .inr (.inr (7, 0))), (2, .inr (.inr (19, 0))), (3, .inl v3)] [] (C, R) := by
  refine G_aload_n dL_law_360 rfl ?_
  refine G_aload_n dL_law_361 rfl ?_
  refine G_iload_n dL_law_362 rfl ?_
  refine G_iconst (v := 1) dL_law_363 (by decide) ?_
  refine G_iadd dL_law_364 ?_
  refine G_sld b1 e1 dL_law_365 ?_
  refine G_aload_n dL_law_366 rfl ?_
  refine G_iload_n dL_law_367 rfl ?_
  refine G_iconst (v := 2) dL_law_368 (by decide) ?_
  refine G_iadd dL_law_369 ?_
  refine G_sld b2 e2 dL_law_370 ?_
  refine G_aload_n dL_law_371 rfl ?_
  refine G_iload_n dL_law_372 rfl ?_
  refine G_iconst (v := 3) dL_law_373 (by decide) ?_
  refine G_iadd dL_law_374 ?_
  refine G_sld b3 e3 dL_law_375 ?_
  refine G_callVv (T := TX7) (N := 10) (f := 7) (i := 0) (X7_change_ok h1) ok_X7_change ml_L_31 (by decide) rfl (by decide) (by decide) (by decide) rfl rfl (Nat.le_of_ble_eq_true rfl) dL_law_376 ?_
  refine G_aload_n dL_law_379 rfl ?_
  refine G_aload_n dL_law_380 rfl ?_
  refine G_iload_n dL_law_381 rfl ?_
  refine G_iconst (v := 1) dL_law_382 (by decide) ?_
  refine G_iadd dL_law_383 ?_
  refine G_sld b1 e1 dL_law_384 ?_
  refine G_aload_n dL_law_385 rfl ?_
  refine G_iload_n dL_law_386 rfl ?_
  refine G_iconst (v := 2) dL_law_387 (by decide) ?_
  refine G_iadd dL_law_388 ?_
  refine G_sld b2 e2 dL_law_389 ?_
  refine G_aload_n dL_law_390 rfl ?_
  refine G_iload_n dL_law_391 rfl ?_
  refine G_iconst (v := 3) dL_law_392 (by decide) ?_
  refine G_iadd dL_law_393 ?_
  refine G_sld b3 e3 dL_law_394 ?_
  refine G_callVv (T := TX8) (N := 22) (f := 19) (i := 0) (X8_change_ok h2) ok_X8_change ml_L_34 (by decide) rfl (by decide) (by decide) (by decide) rfl rfl (Nat.le_of_ble_eq_true rfl) dL_law_395 ?_
  refine G_icmp_eq (tgt := 1498) dL_law_398 (by decide) (fun _ => ?_) (fun hc => absurd rfl hc)
  exact K
set_option maxRecDepth 100000 in
set_option maxHeartbeats 4000000 in
theorem lawc_5 {n : Nat} {xs : Nat → Int32} {r : Option AV} {M' : MM} {v3 : Int32} (b1 : vp_in (v3 + 1) n) {a1 : Int32} (e1 : xs (v3 + 1).toNatClampNeg = a1) (b2 : vp_in (v3 + 2) n) {a2 : Int32} (e2 : xs (v3 + 2).toNatClampNeg = a2) {C R C' R' : Mem} {res : Int32} (h1 : X7_shift a1 a2 C = some (res, C')) (h2 : X8_shift a1 a2 R = some (res, R')) (K : GX (SX n xs) mt_law 1000 r M' 1498 [(0, .inr (.inr (99, 0))), (1, .inr (.inr (7, 0))), (2, .inr (.inr (19, 0))), (3, .inl v3)] [] (C', R')) : GX (SX n xs) mt_law 1000 r M' 403 [(0, .inr (.inr (99, 0))), (1, .inr (.inr (7, 0))), (2, .inr (.inr (19, 0))), (3, .inl v3)] [] (C, R) := by
  refine G_aload_n dL_law_403 rfl ?_
  refine G_aload_n dL_law_404 rfl ?_
  refine G_iload_n dL_law_405 rfl ?_
  refine G_iconst (v := 1) dL_law_406 (by decide) ?_
  refine G_iadd dL_law_407 ?_
  refine G_sld b1 e1 dL_law_408 ?_
  refine G_aload_n dL_law_409 rfl ?_
  refine G_iload_n dL_law_410 rfl ?_
  refine G_iconst (v := 2) dL_law_411 (by decide) ?_
  refine G_iadd dL_law_412 ?_
  refine G_sld b2 e2 dL_law_413 ?_
  refine G_callVv (T := TX7) (N := 10) (f := 7) (i := 0) (X7_shift_ok h1) ok_X7_shift ml_L_35 (by decide) rfl (by decide) (by decide) (by decide) rfl rfl (Nat.le_of_ble_eq_true rfl) dL_law_414 ?_
  refine G_aload_n dL_law_417 rfl ?_
  refine G_aload_n dL_law_418 rfl ?_
  refine G_iload_n dL_law_419 rfl ?_
  refine G_iconst (v := 1) dL_law_420 (by decide) ?_
  refine G_iadd dL_law_421 ?_
  refine G_sld b1 e1 dL_law_422 ?_
  refine G_aload_n dL_law_423 rfl ?_
  refine G_iload_n dL_law_424 rfl ?_
  refine G_iconst (v := 2) dL_law_425 (by decide) ?_
  refine G_iadd dL_law_426 ?_
  refine G_sld b2 e2 dL_law_427 ?_
  refine G_callVv (T := TX8) (N := 22) (f := 19) (i := 0) (X8_shift_ok h2) ok_X8_shift ml_L_38 (by decide) rfl (by decide) (by decide) (by decide) rfl rfl (Nat.le_of_ble_eq_true rfl) dL_law_428 ?_
  refine G_icmp_eq (tgt := 1498) dL_law_431 (by decide) (fun _ => ?_) (fun hc => absurd rfl hc)
  exact K
set_option maxRecDepth 100000 in
set_option maxHeartbeats 4000000 in
theorem lawc_6 {n : Nat} {xs : Nat → Int32} {r : Option AV} {M' : MM} {v3 : Int32} (b1 : vp_in (v3 + 1) n) {a1 : Int32} (e1 : xs (v3 + 1).toNatClampNeg = a1) {C R C' R' : Mem} {res : Int32} (h1 : X7_stick a1 C = some (res, C')) (h2 : X8_stick a1 R = some (res, R')) (K : GX (SX n xs) mt_law 1000 r M' 1498 [(0, .inr (.inr (99, 0))), (1, .inr (.inr (7, 0))), (2, .inr (.inr (19, 0))), (3, .inl v3)] [] (C', R')) : GX (SX n xs) mt_law 1000 r M' 436 [(0, .inr (.inr (99, 0))), (1, .inr (.inr (7, 0))), (2, .inr (.inr (19, 0))), (3, .inl v3)] [] (C, R) := by
  refine G_aload_n dL_law_436 rfl ?_
  refine G_aload_n dL_law_437 rfl ?_
  refine G_iload_n dL_law_438 rfl ?_
  refine G_iconst (v := 1) dL_law_439 (by decide) ?_
  refine G_iadd dL_law_440 ?_
  refine G_sld b1 e1 dL_law_441 ?_
  refine G_callVv (T := TX7) (N := 10) (f := 7) (i := 0) (X7_stick_ok h1) ok_X7_stick ml_L_39 (by decide) rfl (by decide) (by decide) (by decide) rfl rfl (Nat.le_of_ble_eq_true rfl) dL_law_442 ?_
  refine G_aload_n dL_law_445 rfl ?_
  refine G_aload_n dL_law_446 rfl ?_
  refine G_iload_n dL_law_447 rfl ?_
  refine G_iconst (v := 1) dL_law_448 (by decide) ?_
  refine G_iadd dL_law_449 ?_
  refine G_sld b1 e1 dL_law_450 ?_
  refine G_callVv (T := TX8) (N := 22) (f := 19) (i := 0) (X8_stick_ok h2) ok_X8_stick ml_L_43 (by decide) rfl (by decide) (by decide) (by decide) rfl rfl (Nat.le_of_ble_eq_true rfl) dL_law_451 ?_
  refine G_icmp_eq (tgt := 1498) dL_law_454 (by decide) (fun _ => ?_) (fun hc => absurd rfl hc)
  exact K
set_option maxRecDepth 100000 in
set_option maxHeartbeats 4000000 in
theorem lawc_7 {n : Nat} {xs : Nat → Int32} {r : Option AV} {M' : MM} {v3 : Int32} (b1 : vp_in (v3 + 1) n) {a1 : Int32} (e1 : xs (v3 + 1).toNatClampNeg = a1) (b2 : vp_in (v3 + 2) n) {a2 : Int32} (e2 : xs (v3 + 2).toNatClampNeg = a2) {C R C' R' : Mem} {res : Int32} (h1 : X7_become a1 a2 C = some (res, C')) (h2 : X8_become a1 a2 R = some (res, R')) (K : GX (SX n xs) mt_law 1000 r M' 1498 [(0, .inr (.inr (99, 0))), (1, .inr (.inr (7, 0))), (2, .inr (.inr (19, 0))), (3, .inl v3)] [] (C', R')) : GX (SX n xs) mt_law 1000 r M' 459 [(0, .inr (.inr (99, 0))), (1, .inr (.inr (7, 0))), (2, .inr (.inr (19, 0))), (3, .inl v3)] [] (C, R) := by
  refine G_aload_n dL_law_459 rfl ?_
  refine G_aload_n dL_law_460 rfl ?_
  refine G_iload_n dL_law_461 rfl ?_
  refine G_iconst (v := 1) dL_law_462 (by decide) ?_
  refine G_iadd dL_law_463 ?_
  refine G_sld b1 e1 dL_law_464 ?_
  refine G_aload_n dL_law_465 rfl ?_
  refine G_iload_n dL_law_466 rfl ?_
  refine G_iconst (v := 2) dL_law_467 (by decide) ?_
  refine G_iadd dL_law_468 ?_
  refine G_sld b2 e2 dL_law_469 ?_
  refine G_callVv (T := TX7) (N := 10) (f := 7) (i := 0) (X7_become_ok h1) ok_X7_become ml_L_44 (by decide) rfl (by decide) (by decide) (by decide) rfl rfl (Nat.le_of_ble_eq_true rfl) dL_law_470 ?_
  refine G_aload_n dL_law_473 rfl ?_
  refine G_aload_n dL_law_474 rfl ?_
  refine G_iload_n dL_law_475 rfl ?_
  refine G_iconst (v := 1) dL_law_476 (by decide) ?_
  refine G_iadd dL_law_477 ?_
  refine G_sld b1 e1 dL_law_478 ?_
  refine G_aload_n dL_law_479 rfl ?_
  refine G_iload_n dL_law_480 rfl ?_
  refine G_iconst (v := 2) dL_law_481 (by decide) ?_
  refine G_iadd dL_law_482 ?_
  refine G_sld b2 e2 dL_law_483 ?_
  refine G_callVv (T := TX8) (N := 22) (f := 19) (i := 0) (X8_become_ok h2) ok_X8_become ml_L_47 (by decide) rfl (by decide) (by decide) (by decide) rfl rfl (Nat.le_of_ble_eq_true rfl) dL_law_484 ?_
  refine G_icmp_eq (tgt := 1498) dL_law_487 (by decide) (fun _ => ?_) (fun hc => absurd rfl hc)
  exact K
set_option maxRecDepth 100000 in
set_option maxHeartbeats 4000000 in
theorem lawc_8 {n : Nat} {xs : Nat → Int32} {r : Option AV} {M' : MM} {v3 : Int32} (b1 : vp_in (v3 + 1) n) {a1 : Int32} (e1 : xs (v3 + 1).toNatClampNeg = a1) (b2 : vp_in (v3 + 2) n) {a2 : Int32} (e2 : xs (v3 + 2).toNatClampNeg = a2) {C R C' R' : Mem} {res : Int32} (h1 : X7_as a1 a2 C = some (res, C')) (h2 : X8_as a1 a2 R = some (res, R')) (K : GX (SX n xs) mt_law 1000 r M' 1498 [(0, .inr (.inr (99, 0))), (1, .inr (.inr (7, 0))), (2, .inr (.inr (19, 0))), (3, .inl v3)] [] (C', R')) : GX (SX n xs) mt_law 1000 r M' 492 [(0, .inr (.inr (99, 0))), (1, .inr (.inr (7, 0))), (2, .inr (.inr (19, 0))), (3, .inl v3)] [] (C, R) := by
  refine G_aload_n dL_law_492 rfl ?_
  refine G_aload_n dL_law_493 rfl ?_
  refine G_iload_n dL_law_494 rfl ?_
  refine G_iconst (v := 1) dL_law_495 (by decide) ?_
  refine G_iadd dL_law_496 ?_
  refine G_sld b1 e1 dL_law_497 ?_
  refine G_aload_n dL_law_498 rfl ?_
  refine G_iload_n dL_law_499 rfl ?_
  refine G_iconst (v := 2) dL_law_500 (by decide) ?_
  refine G_iadd dL_law_501 ?_
  refine G_sld b2 e2 dL_law_502 ?_
  refine G_callVv (T := TX7) (N := 10) (f := 7) (i := 0) (X7_as_ok h1) ok_X7_as ml_L_48 (by decide) rfl (by decide) (by decide) (by decide) rfl rfl (Nat.le_of_ble_eq_true rfl) dL_law_503 ?_
  refine G_aload_n dL_law_506 rfl ?_
  refine G_aload_n dL_law_507 rfl ?_
  refine G_iload_n dL_law_508 rfl ?_
  refine G_iconst (v := 1) dL_law_509 (by decide) ?_
  refine G_iadd dL_law_510 ?_
  refine G_sld b1 e1 dL_law_511 ?_
  refine G_aload_n dL_law_512 rfl ?_
  refine G_iload_n dL_law_513 rfl ?_
  refine G_iconst (v := 2) dL_law_514 (by decide) ?_
  refine G_iadd dL_law_515 ?_
  refine G_sld b2 e2 dL_law_516 ?_
  refine G_callVv (T := TX8) (N := 22) (f := 19) (i := 0) (X8_as_ok h2) ok_X8_as ml_L_51 (by decide) rfl (by decide) (by decide) (by decide) rfl rfl (Nat.le_of_ble_eq_true rfl) dL_law_517 ?_
  refine G_icmp_eq (tgt := 1498) dL_law_520 (by decide) (fun _ => ?_) (fun hc => absurd rfl hc)
  exact K
set_option maxRecDepth 100000 in
set_option maxHeartbeats 4000000 in
theorem lawc_9 {n : Nat} {xs : Nat → Int32} {r : Option AV} {M' : MM} {v3 : Int32} (b1 : vp_in (v3 + 1) n) {a1 : Int32} (e1 : xs (v3 + 1).toNatClampNeg = a1) (b2 : vp_in (v3 + 2) n) {a2 : Int32} (e2 : xs (v3 + 2).toNatClampNeg = a2) (b3 : vp_in (v3 + 3) n) {a3 : Int32} (e3 : xs (v3 + 3).toNatClampNeg = a3) {C R C' R' : Mem} {res : Int32} (h1 : X7_feed (((a1.toInt64) <<< ((32 : Int32).toInt64 &&& 63)) ||| ((a2.toInt64) &&& (4294967295 : Int64))) a3 C = some (res, C')) (h2 : X8_feed (((a1.toInt64) <<< ((32 : Int32).toInt64 &&& 63)) ||| ((a2.toInt64) &&& (4294967295 : Int64))) a3 R = some (res, R')) (K : GX (SX n xs) mt_law 1000 r M' 1498 [(0, .inr (.inr (99, 0))), (1, .inr (.inr (7, 0))), (2, .inr (.inr (19, 0))), (3, .inl v3)] [] (C', R')) : GX (SX n xs) mt_law 1000 r M' 525 [(0, .inr (.inr (99, 0))), (1, .inr (.inr (7, 0))), (2, .inr (.inr (19, 0))), (3, .inl v3)] [] (C, R) := by
  refine G_aload_n dL_law_525 rfl ?_
  refine G_aload_n dL_law_526 rfl ?_
  refine G_iload_n dL_law_527 rfl ?_
  refine G_iconst (v := 1) dL_law_528 (by decide) ?_
  refine G_iadd dL_law_529 ?_
  refine G_sld b1 e1 dL_law_530 ?_
  refine G_i2l dL_law_531 ?_
  refine G_bipush (v := 32) dL_law_532 (by decide) ?_
  refine G_lshl dL_law_534 ?_
  refine G_aload_n dL_law_535 rfl ?_
  refine G_iload_n dL_law_536 rfl ?_
  refine G_iconst (v := 2) dL_law_537 (by decide) ?_
  refine G_iadd dL_law_538 ?_
  refine G_sld b2 e2 dL_law_539 ?_
  refine G_i2l dL_law_540 ?_
  refine G_ldc2 ko_L_52 dL_law_541 ?_
  refine G_land dL_law_544 ?_
  refine G_lor dL_law_545 ?_
  refine G_aload_n dL_law_546 rfl ?_
  refine G_iload_n dL_law_547 rfl ?_
  refine G_iconst (v := 3) dL_law_548 (by decide) ?_
  refine G_iadd dL_law_549 ?_
  refine G_sld b3 e3 dL_law_550 ?_
  refine G_callVv (T := TX7) (N := 10) (f := 7) (i := 0) (X7_feed_ok h1) ok_X7_feed ml_L_54 (by decide) rfl (by decide) (by decide) (by decide) rfl rfl (Nat.le_of_ble_eq_true rfl) dL_law_551 ?_
  refine G_aload_n dL_law_554 rfl ?_
  refine G_aload_n dL_law_555 rfl ?_
  refine G_iload_n dL_law_556 rfl ?_
  refine G_iconst (v := 1) dL_law_557 (by decide) ?_
  refine G_iadd dL_law_558 ?_
  refine G_sld b1 e1 dL_law_559 ?_
  refine G_i2l dL_law_560 ?_
  refine G_bipush (v := 32) dL_law_561 (by decide) ?_
  refine G_lshl dL_law_563 ?_
  refine G_aload_n dL_law_564 rfl ?_
  refine G_iload_n dL_law_565 rfl ?_
  refine G_iconst (v := 2) dL_law_566 (by decide) ?_
  refine G_iadd dL_law_567 ?_
  refine G_sld b2 e2 dL_law_568 ?_
  refine G_i2l dL_law_569 ?_
  refine G_ldc2 ko_L_52 dL_law_570 ?_
  refine G_land dL_law_573 ?_
  refine G_lor dL_law_574 ?_
  refine G_aload_n dL_law_575 rfl ?_
  refine G_iload_n dL_law_576 rfl ?_
  refine G_iconst (v := 3) dL_law_577 (by decide) ?_
  refine G_iadd dL_law_578 ?_
  refine G_sld b3 e3 dL_law_579 ?_
  refine G_callVv (T := TX8) (N := 22) (f := 19) (i := 0) (X8_feed_ok h2) ok_X8_feed ml_L_58 (by decide) rfl (by decide) (by decide) (by decide) rfl rfl (Nat.le_of_ble_eq_true rfl) dL_law_580 ?_
  refine G_icmp_eq (tgt := 1498) dL_law_583 (by decide) (fun _ => ?_) (fun hc => absurd rfl hc)
  exact K
set_option maxRecDepth 100000 in
set_option maxHeartbeats 4000000 in
theorem lawc_10 {n : Nat} {xs : Nat → Int32} {r : Option AV} {M' : MM} {v3 : Int32} (b1 : vp_in (v3 + 1) n) {a1 : Int32} (e1 : xs (v3 + 1).toNatClampNeg = a1) {C R C' R' : Mem} {res : Int32} (h1 : X7_text a1 C = some (res, C')) (h2 : X8_text a1 R = some (res, R')) (K : GX (SX n xs) mt_law 1000 r M' 1498 [(0, .inr (.inr (99, 0))), (1, .inr (.inr (7, 0))), (2, .inr (.inr (19, 0))), (3, .inl v3)] [] (C', R')) : GX (SX n xs) mt_law 1000 r M' 588 [(0, .inr (.inr (99, 0))), (1, .inr (.inr (7, 0))), (2, .inr (.inr (19, 0))), (3, .inl v3)] [] (C, R) := by
  refine G_aload_n dL_law_588 rfl ?_
  refine G_aload_n dL_law_589 rfl ?_
  refine G_iload_n dL_law_590 rfl ?_
  refine G_iconst (v := 1) dL_law_591 (by decide) ?_
  refine G_iadd dL_law_592 ?_
  refine G_sld b1 e1 dL_law_593 ?_
  refine G_callVv (T := TX7) (N := 10) (f := 7) (i := 0) (X7_text_ok h1) ok_X7_text ml_L_59 (by decide) rfl (by decide) (by decide) (by decide) rfl rfl (Nat.le_of_ble_eq_true rfl) dL_law_594 ?_
  refine G_aload_n dL_law_597 rfl ?_
  refine G_aload_n dL_law_598 rfl ?_
  refine G_iload_n dL_law_599 rfl ?_
  refine G_iconst (v := 1) dL_law_600 (by decide) ?_
  refine G_iadd dL_law_601 ?_
  refine G_sld b1 e1 dL_law_602 ?_
  refine G_callVv (T := TX8) (N := 22) (f := 19) (i := 0) (X8_text_ok h2) ok_X8_text ml_L_62 (by decide) rfl (by decide) (by decide) (by decide) rfl rfl (Nat.le_of_ble_eq_true rfl) dL_law_603 ?_
  refine G_icmp_eq (tgt := 1498) dL_law_606 (by decide) (fun _ => ?_) (fun hc => absurd rfl hc)
  exact K
set_option maxRecDepth 100000 in
set_option maxHeartbeats 4000000 in
theorem lawc_11 {n : Nat} {xs : Nat → Int32} {r : Option AV} {M' : MM} {v3 : Int32} (b1 : vp_in (v3 + 1) n) {a1 : Int32} (e1 : xs (v3 + 1).toNatClampNeg = a1) (b2 : vp_in (v3 + 2) n) {a2 : Int32} (e2 : xs (v3 + 2).toNatClampNeg = a2) (b3 : vp_in (v3 + 3) n) {a3 : Int32} (e3 : xs (v3 + 3).toNatClampNeg = a3) (b4 : vp_in (v3 + 4) n) {a4 : Int32} (e4 : xs (v3 + 4).toNatClampNeg = a4) {C R C' R' : Mem} {res : Int32} (h1 : X7_law a1 a2 a3 a4 C = some (res, C')) (h2 : X8_law a1 a2 a3 a4 R = some (res, R')) (K : GX (SX n xs) mt_law 1000 r M' 1498 [(0, .inr (.inr (99, 0))), (1, .inr (.inr (7, 0))), (2, .inr (.inr (19, 0))), (3, .inl v3)] [] (C', R')) : GX (SX n xs) mt_law 1000 r M' 611 [(0, .inr (.inr (99, 0))), (1, .inr (.inr (7, 0))), (2, .inr (.inr (19, 0))), (3, .inl v3)] [] (C, R) := by
  refine G_aload_n dL_law_611 rfl ?_
  refine G_aload_n dL_law_612 rfl ?_
  refine G_iload_n dL_law_613 rfl ?_
  refine G_iconst (v := 1) dL_law_614 (by decide) ?_
  refine G_iadd dL_law_615 ?_
  refine G_sld b1 e1 dL_law_616 ?_
  refine G_aload_n dL_law_617 rfl ?_
  refine G_iload_n dL_law_618 rfl ?_
  refine G_iconst (v := 2) dL_law_619 (by decide) ?_
  refine G_iadd dL_law_620 ?_
  refine G_sld b2 e2 dL_law_621 ?_
  refine G_aload_n dL_law_622 rfl ?_
  refine G_iload_n dL_law_623 rfl ?_
  refine G_iconst (v := 3) dL_law_624 (by decide) ?_
  refine G_iadd dL_law_625 ?_
  refine G_sld b3 e3 dL_law_626 ?_
  refine G_aload_n dL_law_627 rfl ?_
  refine G_iload_n dL_law_628 rfl ?_
  refine G_iconst (v := 4) dL_law_629 (by decide) ?_
  refine G_iadd dL_law_630 ?_
  refine G_sld b4 e4 dL_law_631 ?_
  refine G_callVv (T := TX7) (N := 10) (f := 7) (i := 0) (X7_law_ok h1) ok_X7_law ml_L_63 (by decide) rfl (by decide) (by decide) (by decide) rfl rfl (Nat.le_of_ble_eq_true rfl) dL_law_632 ?_
  refine G_aload_n dL_law_635 rfl ?_
  refine G_aload_n dL_law_636 rfl ?_
  refine G_iload_n dL_law_637 rfl ?_
  refine G_iconst (v := 1) dL_law_638 (by decide) ?_
  refine G_iadd dL_law_639 ?_
  refine G_sld b1 e1 dL_law_640 ?_
  refine G_aload_n dL_law_641 rfl ?_
  refine G_iload_n dL_law_642 rfl ?_
  refine G_iconst (v := 2) dL_law_643 (by decide) ?_
  refine G_iadd dL_law_644 ?_
  refine G_sld b2 e2 dL_law_645 ?_
  refine G_aload_n dL_law_646 rfl ?_
  refine G_iload_n dL_law_647 rfl ?_
  refine G_iconst (v := 3) dL_law_648 (by decide) ?_
  refine G_iadd dL_law_649 ?_
  refine G_sld b3 e3 dL_law_650 ?_
  refine G_aload_n dL_law_651 rfl ?_
  refine G_iload_n dL_law_652 rfl ?_
  refine G_iconst (v := 4) dL_law_653 (by decide) ?_
  refine G_iadd dL_law_654 ?_
  refine G_sld b4 e4 dL_law_655 ?_
  refine G_callVv (T := TX8) (N := 22) (f := 19) (i := 0) (X8_law_ok h2) ok_X8_law ml_L_67 (by decide) rfl (by decide) (by decide) (by decide) rfl rfl (Nat.le_of_ble_eq_true rfl) dL_law_656 ?_
  refine G_icmp_eq (tgt := 1498) dL_law_659 (by decide) (fun _ => ?_) (fun hc => absurd rfl hc)
  exact K
set_option maxRecDepth 100000 in
set_option maxHeartbeats 4000000 in
theorem lawc_12 {n : Nat} {xs : Nat → Int32} {r : Option AV} {M' : MM} {v3 : Int32} (b1 : vp_in (v3 + 1) n) {a1 : Int32} (e1 : xs (v3 + 1).toNatClampNeg = a1) {C R C' R' : Mem} {res : Int32} (h1 : X7_years a1 C = some (res, C')) (h2 : X8_years a1 R = some (res, R')) (K : GX (SX n xs) mt_law 1000 r M' 1498 [(0, .inr (.inr (99, 0))), (1, .inr (.inr (7, 0))), (2, .inr (.inr (19, 0))), (3, .inl v3)] [] (C', R')) : GX (SX n xs) mt_law 1000 r M' 664 [(0, .inr (.inr (99, 0))), (1, .inr (.inr (7, 0))), (2, .inr (.inr (19, 0))), (3, .inl v3)] [] (C, R) := by
  refine G_aload_n dL_law_664 rfl ?_
  refine G_aload_n dL_law_665 rfl ?_
  refine G_iload_n dL_law_666 rfl ?_
  refine G_iconst (v := 1) dL_law_667 (by decide) ?_
  refine G_iadd dL_law_668 ?_
  refine G_sld b1 e1 dL_law_669 ?_
  refine G_callVv (T := TX7) (N := 10) (f := 7) (i := 0) (X7_years_ok h1) ok_X7_years ml_L_68 (by decide) rfl (by decide) (by decide) (by decide) rfl rfl (Nat.le_of_ble_eq_true rfl) dL_law_670 ?_
  refine G_aload_n dL_law_673 rfl ?_
  refine G_aload_n dL_law_674 rfl ?_
  refine G_iload_n dL_law_675 rfl ?_
  refine G_iconst (v := 1) dL_law_676 (by decide) ?_
  refine G_iadd dL_law_677 ?_
  refine G_sld b1 e1 dL_law_678 ?_
  refine G_callVv (T := TX8) (N := 22) (f := 19) (i := 0) (X8_years_ok h2) ok_X8_years ml_L_71 (by decide) rfl (by decide) (by decide) (by decide) rfl rfl (Nat.le_of_ble_eq_true rfl) dL_law_679 ?_
  refine G_icmp_eq (tgt := 1498) dL_law_682 (by decide) (fun _ => ?_) (fun hc => absurd rfl hc)
  exact K
set_option maxRecDepth 100000 in
set_option maxHeartbeats 4000000 in
theorem lawc_13 {n : Nat} {xs : Nat → Int32} {r : Option AV} {M' : MM} {v3 : Int32} (b1 : vp_in (v3 + 1) n) {a1 : Int32} (e1 : xs (v3 + 1).toNatClampNeg = a1) {C R C' R' : Mem} {res : Int32} (h1 : X7_loose a1 C = some (res, C')) (h2 : X8_loose a1 R = some (res, R')) (K : GX (SX n xs) mt_law 1000 r M' 1498 [(0, .inr (.inr (99, 0))), (1, .inr (.inr (7, 0))), (2, .inr (.inr (19, 0))), (3, .inl v3)] [] (C', R')) : GX (SX n xs) mt_law 1000 r M' 687 [(0, .inr (.inr (99, 0))), (1, .inr (.inr (7, 0))), (2, .inr (.inr (19, 0))), (3, .inl v3)] [] (C, R) := by
  refine G_aload_n dL_law_687 rfl ?_
  refine G_aload_n dL_law_688 rfl ?_
  refine G_iload_n dL_law_689 rfl ?_
  refine G_iconst (v := 1) dL_law_690 (by decide) ?_
  refine G_iadd dL_law_691 ?_
  refine G_sld b1 e1 dL_law_692 ?_
  refine G_callVv (T := TX7) (N := 10) (f := 7) (i := 0) (X7_loose_ok h1) ok_X7_loose ml_L_72 (by decide) rfl (by decide) (by decide) (by decide) rfl rfl (Nat.le_of_ble_eq_true rfl) dL_law_693 ?_
  refine G_aload_n dL_law_696 rfl ?_
  refine G_aload_n dL_law_697 rfl ?_
  refine G_iload_n dL_law_698 rfl ?_
  refine G_iconst (v := 1) dL_law_699 (by decide) ?_
  refine G_iadd dL_law_700 ?_
  refine G_sld b1 e1 dL_law_701 ?_
  refine G_callVv (T := TX8) (N := 22) (f := 19) (i := 0) (X8_loose_ok h2) ok_X8_loose ml_L_75 (by decide) rfl (by decide) (by decide) (by decide) rfl rfl (Nat.le_of_ble_eq_true rfl) dL_law_702 ?_
  refine G_icmp_eq (tgt := 1498) dL_law_705 (by decide) (fun _ => ?_) (fun hc => absurd rfl hc)
  exact K
set_option maxRecDepth 100000 in
set_option maxHeartbeats 4000000 in
theorem lawc_14 {n : Nat} {xs : Nat → Int32} {r : Option AV} {M' : MM} {v3 : Int32} (b1 : vp_in (v3 + 1) n) {a1 : Int32} (e1 : xs (v3 + 1).toNatClampNeg = a1) (b2 : vp_in (v3 + 2) n) {a2 : Int32} (e2 : xs (v3 + 2).toNatClampNeg = a2) (b3 : vp_in (v3 + 3) n) {a3 : Int32} (e3 : xs (v3 + 3).toNatClampNeg = a3) {C R C' R' : Mem} {res : Int32} (h1 : X7_then a1 a2 a3 C = some (res, C')) (h2 : X8_then a1 a2 a3 R = some (res, R')) (K : GX (SX n xs) mt_law 1000 r M' 1498 [(0, .inr (.inr (99, 0))), (1, .inr (.inr (7, 0))), (2, .inr (.inr (19, 0))), (3, .inl v3)] [] (C', R')) : GX (SX n xs) mt_law 1000 r M' 710 [(0, .inr (.inr (99, 0))), (1, .inr (.inr (7, 0))), (2, .inr (.inr (19, 0))), (3, .inl v3)] [] (C, R) := by
  refine G_aload_n dL_law_710 rfl ?_
  refine G_aload_n dL_law_711 rfl ?_
  refine G_iload_n dL_law_712 rfl ?_
  refine G_iconst (v := 1) dL_law_713 (by decide) ?_
  refine G_iadd dL_law_714 ?_
  refine G_sld b1 e1 dL_law_715 ?_
  refine G_aload_n dL_law_716 rfl ?_
  refine G_iload_n dL_law_717 rfl ?_
  refine G_iconst (v := 2) dL_law_718 (by decide) ?_
  refine G_iadd dL_law_719 ?_
  refine G_sld b2 e2 dL_law_720 ?_
  refine G_aload_n dL_law_721 rfl ?_
  refine G_iload_n dL_law_722 rfl ?_
  refine G_iconst (v := 3) dL_law_723 (by decide) ?_
  refine G_iadd dL_law_724 ?_
  refine G_sld b3 e3 dL_law_725 ?_
  refine G_callVv (T := TX7) (N := 10) (f := 7) (i := 0) (X7_then_ok h1) ok_X7_then ml_L_76 (by decide) rfl (by decide) (by decide) (by decide) rfl rfl (Nat.le_of_ble_eq_true rfl) dL_law_726 ?_
  refine G_aload_n dL_law_729 rfl ?_
  refine G_aload_n dL_law_730 rfl ?_
  refine G_iload_n dL_law_731 rfl ?_
  refine G_iconst (v := 1) dL_law_732 (by decide) ?_
  refine G_iadd dL_law_733 ?_
  refine G_sld b1 e1 dL_law_734 ?_
  refine G_aload_n dL_law_735 rfl ?_
  refine G_iload_n dL_law_736 rfl ?_
  refine G_iconst (v := 2) dL_law_737 (by decide) ?_
  refine G_iadd dL_law_738 ?_
  refine G_sld b2 e2 dL_law_739 ?_
  refine G_aload_n dL_law_740 rfl ?_
  refine G_iload_n dL_law_741 rfl ?_
  refine G_iconst (v := 3) dL_law_742 (by decide) ?_
  refine G_iadd dL_law_743 ?_
  refine G_sld b3 e3 dL_law_744 ?_
  refine G_callVv (T := TX8) (N := 22) (f := 19) (i := 0) (X8_then_ok h2) ok_X8_then ml_L_79 (by decide) rfl (by decide) (by decide) (by decide) rfl rfl (Nat.le_of_ble_eq_true rfl) dL_law_745 ?_
  refine G_icmp_eq (tgt := 1498) dL_law_748 (by decide) (fun _ => ?_) (fun hc => absurd rfl hc)
  exact K
set_option maxRecDepth 100000 in
set_option maxHeartbeats 4000000 in
theorem lawc_15 {n : Nat} {xs : Nat → Int32} {r : Option AV} {M' : MM} {v3 : Int32} (b1 : vp_in (v3 + 1) n) {a1 : Int32} (e1 : xs (v3 + 1).toNatClampNeg = a1) {C R C' R' : Mem} {res : Int32} (h1 : X7_when a1 C = some (res, C')) (h2 : X8_when a1 R = some (res, R')) (K : GX (SX n xs) mt_law 1000 r M' 1498 [(0, .inr (.inr (99, 0))), (1, .inr (.inr (7, 0))), (2, .inr (.inr (19, 0))), (3, .inl v3)] [] (C', R')) : GX (SX n xs) mt_law 1000 r M' 753 [(0, .inr (.inr (99, 0))), (1, .inr (.inr (7, 0))), (2, .inr (.inr (19, 0))), (3, .inl v3)] [] (C, R) := by
  refine G_aload_n dL_law_753 rfl ?_
  refine G_aload_n dL_law_754 rfl ?_
  refine G_iload_n dL_law_755 rfl ?_
  refine G_iconst (v := 1) dL_law_756 (by decide) ?_
  refine G_iadd dL_law_757 ?_
  refine G_sld b1 e1 dL_law_758 ?_
  refine G_callVv (T := TX7) (N := 10) (f := 7) (i := 0) (X7_when_ok h1) ok_X7_when ml_L_80 (by decide) rfl (by decide) (by decide) (by decide) rfl rfl (Nat.le_of_ble_eq_true rfl) dL_law_759 ?_
  refine G_aload_n dL_law_762 rfl ?_
  refine G_aload_n dL_law_763 rfl ?_
  refine G_iload_n dL_law_764 rfl ?_
  refine G_iconst (v := 1) dL_law_765 (by decide) ?_
  refine G_iadd dL_law_766 ?_
  refine G_sld b1 e1 dL_law_767 ?_
  refine G_callVv (T := TX8) (N := 22) (f := 19) (i := 0) (X8_when_ok h2) ok_X8_when ml_L_83 (by decide) rfl (by decide) (by decide) (by decide) rfl rfl (Nat.le_of_ble_eq_true rfl) dL_law_768 ?_
  refine G_icmp_eq (tgt := 1498) dL_law_771 (by decide) (fun _ => ?_) (fun hc => absurd rfl hc)
  exact K
set_option maxRecDepth 100000 in
set_option maxHeartbeats 4000000 in
theorem lawc_16 {n : Nat} {xs : Nat → Int32} {r : Option AV} {M' : MM} {v3 : Int32} (b1 : vp_in (v3 + 1) n) {a1 : Int32} (e1 : xs (v3 + 1).toNatClampNeg = a1) (b2 : vp_in (v3 + 2) n) {a2 : Int32} (e2 : xs (v3 + 2).toNatClampNeg = a2) {C R C' R' : Mem} {res : Int32} (h1 : X7_shelf a1 a2 C = some (res, C')) (h2 : X8_shelf a1 a2 R = some (res, R')) (K : GX (SX n xs) mt_law 1000 r M' 1498 [(0, .inr (.inr (99, 0))), (1, .inr (.inr (7, 0))), (2, .inr (.inr (19, 0))), (3, .inl v3)] [] (C', R')) : GX (SX n xs) mt_law 1000 r M' 776 [(0, .inr (.inr (99, 0))), (1, .inr (.inr (7, 0))), (2, .inr (.inr (19, 0))), (3, .inl v3)] [] (C, R) := by
  refine G_aload_n dL_law_776 rfl ?_
  refine G_aload_n dL_law_777 rfl ?_
  refine G_iload_n dL_law_778 rfl ?_
  refine G_iconst (v := 1) dL_law_779 (by decide) ?_
  refine G_iadd dL_law_780 ?_
  refine G_sld b1 e1 dL_law_781 ?_
  refine G_aload_n dL_law_782 rfl ?_
  refine G_iload_n dL_law_783 rfl ?_
  refine G_iconst (v := 2) dL_law_784 (by decide) ?_
  refine G_iadd dL_law_785 ?_
  refine G_sld b2 e2 dL_law_786 ?_
  refine G_callVv (T := TX7) (N := 10) (f := 7) (i := 0) (X7_shelf_ok h1) ok_X7_shelf ml_L_84 (by decide) rfl (by decide) (by decide) (by decide) rfl rfl (Nat.le_of_ble_eq_true rfl) dL_law_787 ?_
  refine G_aload_n dL_law_790 rfl ?_
  refine G_aload_n dL_law_791 rfl ?_
  refine G_iload_n dL_law_792 rfl ?_
  refine G_iconst (v := 1) dL_law_793 (by decide) ?_
  refine G_iadd dL_law_794 ?_
  refine G_sld b1 e1 dL_law_795 ?_
  refine G_aload_n dL_law_796 rfl ?_
  refine G_iload_n dL_law_797 rfl ?_
  refine G_iconst (v := 2) dL_law_798 (by decide) ?_
  refine G_iadd dL_law_799 ?_
  refine G_sld b2 e2 dL_law_800 ?_
  refine G_callVv (T := TX8) (N := 22) (f := 19) (i := 0) (X8_shelf_ok h2) ok_X8_shelf ml_L_87 (by decide) rfl (by decide) (by decide) (by decide) rfl rfl (Nat.le_of_ble_eq_true rfl) dL_law_801 ?_
  refine G_icmp_eq (tgt := 1498) dL_law_804 (by decide) (fun _ => ?_) (fun hc => absurd rfl hc)
  exact K
set_option maxRecDepth 100000 in
set_option maxHeartbeats 4000000 in
theorem lawc_17 {n : Nat} {xs : Nat → Int32} {r : Option AV} {M' : MM} {v3 : Int32} (b1 : vp_in (v3 + 1) n) {a1 : Int32} (e1 : xs (v3 + 1).toNatClampNeg = a1) (b2 : vp_in (v3 + 2) n) {a2 : Int32} (e2 : xs (v3 + 2).toNatClampNeg = a2) (b3 : vp_in (v3 + 3) n) {a3 : Int32} (e3 : xs (v3 + 3).toNatClampNeg = a3) {C R C' R' : Mem} {res : Int32} (h1 : X7_place a1 a2 a3 C = some (res, C')) (h2 : X8_place a1 a2 a3 R = some (res, R')) (K : GX (SX n xs) mt_law 1000 r M' 1498 [(0, .inr (.inr (99, 0))), (1, .inr (.inr (7, 0))), (2, .inr (.inr (19, 0))), (3, .inl v3)] [] (C', R')) : GX (SX n xs) mt_law 1000 r M' 809 [(0, .inr (.inr (99, 0))), (1, .inr (.inr (7, 0))), (2, .inr (.inr (19, 0))), (3, .inl v3)] [] (C, R) := by
  refine G_aload_n dL_law_809 rfl ?_
  refine G_aload_n dL_law_810 rfl ?_
  refine G_iload_n dL_law_811 rfl ?_
  refine G_iconst (v := 1) dL_law_812 (by decide) ?_
  refine G_iadd dL_law_813 ?_
  refine G_sld b1 e1 dL_law_814 ?_
  refine G_aload_n dL_law_815 rfl ?_
  refine G_iload_n dL_law_816 rfl ?_
  refine G_iconst (v := 2) dL_law_817 (by decide) ?_
  refine G_iadd dL_law_818 ?_
  refine G_sld b2 e2 dL_law_819 ?_
  refine G_aload_n dL_law_820 rfl ?_
  refine G_iload_n dL_law_821 rfl ?_
  refine G_iconst (v := 3) dL_law_822 (by decide) ?_
  refine G_iadd dL_law_823 ?_
  refine G_sld b3 e3 dL_law_824 ?_
  refine G_callVv (T := TX7) (N := 10) (f := 7) (i := 0) (X7_place_ok h1) ok_X7_place ml_L_88 (by decide) rfl (by decide) (by decide) (by decide) rfl rfl (Nat.le_of_ble_eq_true rfl) dL_law_825 ?_
  refine G_aload_n dL_law_828 rfl ?_
  refine G_aload_n dL_law_829 rfl ?_
  refine G_iload_n dL_law_830 rfl ?_
  refine G_iconst (v := 1) dL_law_831 (by decide) ?_
  refine G_iadd dL_law_832 ?_
  refine G_sld b1 e1 dL_law_833 ?_
  refine G_aload_n dL_law_834 rfl ?_
  refine G_iload_n dL_law_835 rfl ?_
  refine G_iconst (v := 2) dL_law_836 (by decide) ?_
  refine G_iadd dL_law_837 ?_
  refine G_sld b2 e2 dL_law_838 ?_
  refine G_aload_n dL_law_839 rfl ?_
  refine G_iload_n dL_law_840 rfl ?_
  refine G_iconst (v := 3) dL_law_841 (by decide) ?_
  refine G_iadd dL_law_842 ?_
  refine G_sld b3 e3 dL_law_843 ?_
  refine G_callVv (T := TX8) (N := 22) (f := 19) (i := 0) (X8_place_ok h2) ok_X8_place ml_L_91 (by decide) rfl (by decide) (by decide) (by decide) rfl rfl (Nat.le_of_ble_eq_true rfl) dL_law_844 ?_
  refine G_icmp_eq (tgt := 1498) dL_law_847 (by decide) (fun _ => ?_) (fun hc => absurd rfl hc)
  exact K
set_option maxRecDepth 100000 in
set_option maxHeartbeats 4000000 in
theorem lawc_18 {n : Nat} {xs : Nat → Int32} {r : Option AV} {M' : MM} {v3 : Int32} (b1 : vp_in (v3 + 1) n) {a1 : Int32} (e1 : xs (v3 + 1).toNatClampNeg = a1) (b2 : vp_in (v3 + 2) n) {a2 : Int32} (e2 : xs (v3 + 2).toNatClampNeg = a2) {C R C' R' : Mem} {res : Int32} (h1 : X7_use a1 a2 C = some (res, C')) (h2 : X8_use a1 a2 R = some (res, R')) (K : GX (SX n xs) mt_law 1000 r M' 1498 [(0, .inr (.inr (99, 0))), (1, .inr (.inr (7, 0))), (2, .inr (.inr (19, 0))), (3, .inl v3)] [] (C', R')) : GX (SX n xs) mt_law 1000 r M' 852 [(0, .inr (.inr (99, 0))), (1, .inr (.inr (7, 0))), (2, .inr (.inr (19, 0))), (3, .inl v3)] [] (C, R) := by
  refine G_aload_n dL_law_852 rfl ?_
  refine G_aload_n dL_law_853 rfl ?_
  refine G_iload_n dL_law_854 rfl ?_
  refine G_iconst (v := 1) dL_law_855 (by decide) ?_
  refine G_iadd dL_law_856 ?_
  refine G_sld b1 e1 dL_law_857 ?_
  refine G_aload_n dL_law_858 rfl ?_
  refine G_iload_n dL_law_859 rfl ?_
  refine G_iconst (v := 2) dL_law_860 (by decide) ?_
  refine G_iadd dL_law_861 ?_
  refine G_sld b2 e2 dL_law_862 ?_
  refine G_callVv (T := TX7) (N := 10) (f := 7) (i := 0) (X7_use_ok h1) ok_X7_use ml_L_92 (by decide) rfl (by decide) (by decide) (by decide) rfl rfl (Nat.le_of_ble_eq_true rfl) dL_law_863 ?_
  refine G_aload_n dL_law_866 rfl ?_
  refine G_aload_n dL_law_867 rfl ?_
  refine G_iload_n dL_law_868 rfl ?_
  refine G_iconst (v := 1) dL_law_869 (by decide) ?_
  refine G_iadd dL_law_870 ?_
  refine G_sld b1 e1 dL_law_871 ?_
  refine G_aload_n dL_law_872 rfl ?_
  refine G_iload_n dL_law_873 rfl ?_
  refine G_iconst (v := 2) dL_law_874 (by decide) ?_
  refine G_iadd dL_law_875 ?_
  refine G_sld b2 e2 dL_law_876 ?_
  refine G_callVv (T := TX8) (N := 22) (f := 19) (i := 0) (X8_use_ok h2) ok_X8_use ml_L_95 (by decide) rfl (by decide) (by decide) (by decide) rfl rfl (Nat.le_of_ble_eq_true rfl) dL_law_877 ?_
  refine G_icmp_eq (tgt := 1498) dL_law_880 (by decide) (fun _ => ?_) (fun hc => absurd rfl hc)
  exact K
set_option maxRecDepth 100000 in
set_option maxHeartbeats 4000000 in
theorem lawc_19 {n : Nat} {xs : Nat → Int32} {r : Option AV} {M' : MM} {v3 : Int32} (b1 : vp_in (v3 + 1) n) {a1 : Int32} (e1 : xs (v3 + 1).toNatClampNeg = a1) (b2 : vp_in (v3 + 2) n) {a2 : Int32} (e2 : xs (v3 + 2).toNatClampNeg = a2) {C R C' R' : Mem} {res : Int32} (h1 : X7_needed a1 a2 C = some (res, C')) (h2 : X8_needed a1 a2 R = some (res, R')) (K : GX (SX n xs) mt_law 1000 r M' 1498 [(0, .inr (.inr (99, 0))), (1, .inr (.inr (7, 0))), (2, .inr (.inr (19, 0))), (3, .inl v3)] [] (C', R')) : GX (SX n xs) mt_law 1000 r M' 885 [(0, .inr (.inr (99, 0))), (1, .inr (.inr (7, 0))), (2, .inr (.inr (19, 0))), (3, .inl v3)] [] (C, R) := by
  refine G_aload_n dL_law_885 rfl ?_
  refine G_aload_n dL_law_886 rfl ?_
  refine G_iload_n dL_law_887 rfl ?_
  refine G_iconst (v := 1) dL_law_888 (by decide) ?_
  refine G_iadd dL_law_889 ?_
  refine G_sld b1 e1 dL_law_890 ?_
  refine G_aload_n dL_law_891 rfl ?_
  refine G_iload_n dL_law_892 rfl ?_
  refine G_iconst (v := 2) dL_law_893 (by decide) ?_
  refine G_iadd dL_law_894 ?_
  refine G_sld b2 e2 dL_law_895 ?_
  refine G_callVv (T := TX7) (N := 10) (f := 7) (i := 0) (X7_needed_ok h1) ok_X7_needed ml_L_96 (by decide) rfl (by decide) (by decide) (by decide) rfl rfl (Nat.le_of_ble_eq_true rfl) dL_law_896 ?_
  refine G_aload_n dL_law_899 rfl ?_
  refine G_aload_n dL_law_900 rfl ?_
  refine G_iload_n dL_law_901 rfl ?_
  refine G_iconst (v := 1) dL_law_902 (by decide) ?_
  refine G_iadd dL_law_903 ?_
  refine G_sld b1 e1 dL_law_904 ?_
  refine G_aload_n dL_law_905 rfl ?_
  refine G_iload_n dL_law_906 rfl ?_
  refine G_iconst (v := 2) dL_law_907 (by decide) ?_
  refine G_iadd dL_law_908 ?_
  refine G_sld b2 e2 dL_law_909 ?_
  refine G_callVv (T := TX8) (N := 22) (f := 19) (i := 0) (X8_needed_ok h2) ok_X8_needed ml_L_99 (by decide) rfl (by decide) (by decide) (by decide) rfl rfl (Nat.le_of_ble_eq_true rfl) dL_law_910 ?_
  refine G_icmp_eq (tgt := 1498) dL_law_913 (by decide) (fun _ => ?_) (fun hc => absurd rfl hc)
  exact K
set_option maxRecDepth 100000 in
set_option maxHeartbeats 4000000 in
theorem lawc_20 {n : Nat} {xs : Nat → Int32} {r : Option AV} {M' : MM} {v3 : Int32} (b1 : vp_in (v3 + 1) n) {a1 : Int32} (e1 : xs (v3 + 1).toNatClampNeg = a1) (b2 : vp_in (v3 + 2) n) {a2 : Int32} (e2 : xs (v3 + 2).toNatClampNeg = a2) (b3 : vp_in (v3 + 3) n) {a3 : Int32} (e3 : xs (v3 + 3).toNatClampNeg = a3) {C R C' R' : Mem} {res : Int32} (h1 : X7_whose a1 a2 a3 C = some (res, C')) (h2 : X8_whose a1 a2 a3 R = some (res, R')) (K : GX (SX n xs) mt_law 1000 r M' 1498 [(0, .inr (.inr (99, 0))), (1, .inr (.inr (7, 0))), (2, .inr (.inr (19, 0))), (3, .inl v3)] [] (C', R')) : GX (SX n xs) mt_law 1000 r M' 918 [(0, .inr (.inr (99, 0))), (1, .inr (.inr (7, 0))), (2, .inr (.inr (19, 0))), (3, .inl v3)] [] (C, R) := by
  refine G_aload_n dL_law_918 rfl ?_
  refine G_aload_n dL_law_919 rfl ?_
  refine G_iload_n dL_law_920 rfl ?_
  refine G_iconst (v := 1) dL_law_921 (by decide) ?_
  refine G_iadd dL_law_922 ?_
  refine G_sld b1 e1 dL_law_923 ?_
  refine G_aload_n dL_law_924 rfl ?_
  refine G_iload_n dL_law_925 rfl ?_
  refine G_iconst (v := 2) dL_law_926 (by decide) ?_
  refine G_iadd dL_law_927 ?_
  refine G_sld b2 e2 dL_law_928 ?_
  refine G_aload_n dL_law_929 rfl ?_
  refine G_iload_n dL_law_930 rfl ?_
  refine G_iconst (v := 3) dL_law_931 (by decide) ?_
  refine G_iadd dL_law_932 ?_
  refine G_sld b3 e3 dL_law_933 ?_
  refine G_callVv (T := TX7) (N := 10) (f := 7) (i := 0) (X7_whose_ok h1) ok_X7_whose ml_L_100 (by decide) rfl (by decide) (by decide) (by decide) rfl rfl (Nat.le_of_ble_eq_true rfl) dL_law_934 ?_
  refine G_aload_n dL_law_937 rfl ?_
  refine G_aload_n dL_law_938 rfl ?_
  refine G_iload_n dL_law_939 rfl ?_
  refine G_iconst (v := 1) dL_law_940 (by decide) ?_
  refine G_iadd dL_law_941 ?_
  refine G_sld b1 e1 dL_law_942 ?_
  refine G_aload_n dL_law_943 rfl ?_
  refine G_iload_n dL_law_944 rfl ?_
  refine G_iconst (v := 2) dL_law_945 (by decide) ?_
  refine G_iadd dL_law_946 ?_
  refine G_sld b2 e2 dL_law_947 ?_
  refine G_aload_n dL_law_948 rfl ?_
  refine G_iload_n dL_law_949 rfl ?_
  refine G_iconst (v := 3) dL_law_950 (by decide) ?_
  refine G_iadd dL_law_951 ?_
  refine G_sld b3 e3 dL_law_952 ?_
  refine G_callVv (T := TX8) (N := 22) (f := 19) (i := 0) (X8_whose_ok h2) ok_X8_whose ml_L_103 (by decide) rfl (by decide) (by decide) (by decide) rfl rfl (Nat.le_of_ble_eq_true rfl) dL_law_953 ?_
  refine G_icmp_eq (tgt := 1498) dL_law_956 (by decide) (fun _ => ?_) (fun hc => absurd rfl hc)
  exact K
set_option maxRecDepth 100000 in
set_option maxHeartbeats 4000000 in
theorem lawc_21 {n : Nat} {xs : Nat → Int32} {r : Option AV} {M' : MM} {v3 : Int32} (b1 : vp_in (v3 + 1) n) {a1 : Int32} (e1 : xs (v3 + 1).toNatClampNeg = a1) {C R C' R' : Mem} {res : Int32} (h1 : X7_carry a1 C = some (res, C')) (h2 : X8_carry a1 R = some (res, R')) (K : GX (SX n xs) mt_law 1000 r M' 1498 [(0, .inr (.inr (99, 0))), (1, .inr (.inr (7, 0))), (2, .inr (.inr (19, 0))), (3, .inl v3)] [] (C', R')) : GX (SX n xs) mt_law 1000 r M' 961 [(0, .inr (.inr (99, 0))), (1, .inr (.inr (7, 0))), (2, .inr (.inr (19, 0))), (3, .inl v3)] [] (C, R) := by
  refine G_aload_n dL_law_961 rfl ?_
  refine G_aload_n dL_law_962 rfl ?_
  refine G_iload_n dL_law_963 rfl ?_
  refine G_iconst (v := 1) dL_law_964 (by decide) ?_
  refine G_iadd dL_law_965 ?_
  refine G_sld b1 e1 dL_law_966 ?_
  refine G_callVv (T := TX7) (N := 10) (f := 7) (i := 0) (X7_carry_ok h1) ok_X7_carry ml_L_104 (by decide) rfl (by decide) (by decide) (by decide) rfl rfl (Nat.le_of_ble_eq_true rfl) dL_law_967 ?_
  refine G_aload_n dL_law_970 rfl ?_
  refine G_aload_n dL_law_971 rfl ?_
  refine G_iload_n dL_law_972 rfl ?_
  refine G_iconst (v := 1) dL_law_973 (by decide) ?_
  refine G_iadd dL_law_974 ?_
  refine G_sld b1 e1 dL_law_975 ?_
  refine G_callVv (T := TX8) (N := 22) (f := 19) (i := 0) (X8_carry_ok h2) ok_X8_carry ml_L_107 (by decide) rfl (by decide) (by decide) (by decide) rfl rfl (Nat.le_of_ble_eq_true rfl) dL_law_976 ?_
  refine G_icmp_eq (tgt := 1498) dL_law_979 (by decide) (fun _ => ?_) (fun hc => absurd rfl hc)
  exact K
set_option maxRecDepth 100000 in
set_option maxHeartbeats 4000000 in
theorem lawc_22 {n : Nat} {xs : Nat → Int32} {r : Option AV} {M' : MM} {v3 : Int32} (b1 : vp_in (v3 + 1) n) {a1 : Int32} (e1 : xs (v3 + 1).toNatClampNeg = a1) (b2 : vp_in (v3 + 2) n) {a2 : Int32} (e2 : xs (v3 + 2).toNatClampNeg = a2) {C R C' R' : Mem} {res : Int32} (h1 : X7_richest a1 a2 C = some (res, C')) (h2 : X8_richest a1 a2 R = some (res, R')) (K : GX (SX n xs) mt_law 1000 r M' 1498 [(0, .inr (.inr (99, 0))), (1, .inr (.inr (7, 0))), (2, .inr (.inr (19, 0))), (3, .inl v3)] [] (C', R')) : GX (SX n xs) mt_law 1000 r M' 984 [(0, .inr (.inr (99, 0))), (1, .inr (.inr (7, 0))), (2, .inr (.inr (19, 0))), (3, .inl v3)] [] (C, R) := by
  refine G_aload_n dL_law_984 rfl ?_
  refine G_aload_n dL_law_985 rfl ?_
  refine G_iload_n dL_law_986 rfl ?_
  refine G_iconst (v := 1) dL_law_987 (by decide) ?_
  refine G_iadd dL_law_988 ?_
  refine G_sld b1 e1 dL_law_989 ?_
  refine G_aload_n dL_law_990 rfl ?_
  refine G_iload_n dL_law_991 rfl ?_
  refine G_iconst (v := 2) dL_law_992 (by decide) ?_
  refine G_iadd dL_law_993 ?_
  refine G_sld b2 e2 dL_law_994 ?_
  refine G_callVv (T := TX7) (N := 10) (f := 7) (i := 0) (X7_richest_ok h1) ok_X7_richest ml_L_108 (by decide) rfl (by decide) (by decide) (by decide) rfl rfl (Nat.le_of_ble_eq_true rfl) dL_law_995 ?_
  refine G_aload_n dL_law_998 rfl ?_
  refine G_aload_n dL_law_999 rfl ?_
  refine G_iload_n dL_law_1000 rfl ?_
  refine G_iconst (v := 1) dL_law_1001 (by decide) ?_
  refine G_iadd dL_law_1002 ?_
  refine G_sld b1 e1 dL_law_1003 ?_
  refine G_aload_n dL_law_1004 rfl ?_
  refine G_iload_n dL_law_1005 rfl ?_
  refine G_iconst (v := 2) dL_law_1006 (by decide) ?_
  refine G_iadd dL_law_1007 ?_
  refine G_sld b2 e2 dL_law_1008 ?_
  refine G_callVv (T := TX8) (N := 22) (f := 19) (i := 0) (X8_richest_ok h2) ok_X8_richest ml_L_111 (by decide) rfl (by decide) (by decide) (by decide) rfl rfl (Nat.le_of_ble_eq_true rfl) dL_law_1009 ?_
  refine G_icmp_eq (tgt := 1498) dL_law_1012 (by decide) (fun _ => ?_) (fun hc => absurd rfl hc)
  exact K
set_option maxRecDepth 100000 in
set_option maxHeartbeats 4000000 in
theorem lawc_23 {n : Nat} {xs : Nat → Int32} {r : Option AV} {M' : MM} {v3 : Int32} (b1 : vp_in (v3 + 1) n) {a1 : Int32} (e1 : xs (v3 + 1).toNatClampNeg = a1) {C R C' R' : Mem} {res : Int32} (h1 : X7_breaks a1 C = some (res, C')) (h2 : X8_breaks a1 R = some (res, R')) (K : GX (SX n xs) mt_law 1000 r M' 1498 [(0, .inr (.inr (99, 0))), (1, .inr (.inr (7, 0))), (2, .inr (.inr (19, 0))), (3, .inl v3)] [] (C', R')) : GX (SX n xs) mt_law 1000 r M' 1017 [(0, .inr (.inr (99, 0))), (1, .inr (.inr (7, 0))), (2, .inr (.inr (19, 0))), (3, .inl v3)] [] (C, R) := by
  refine G_aload_n dL_law_1017 rfl ?_
  refine G_aload_n dL_law_1018 rfl ?_
  refine G_iload_n dL_law_1019 rfl ?_
  refine G_iconst (v := 1) dL_law_1020 (by decide) ?_
  refine G_iadd dL_law_1021 ?_
  refine G_sld b1 e1 dL_law_1022 ?_
  refine G_callVv (T := TX7) (N := 10) (f := 7) (i := 0) (X7_breaks_ok h1) ok_X7_breaks ml_L_112 (by decide) rfl (by decide) (by decide) (by decide) rfl rfl (Nat.le_of_ble_eq_true rfl) dL_law_1023 ?_
  refine G_aload_n dL_law_1026 rfl ?_
  refine G_aload_n dL_law_1027 rfl ?_
  refine G_iload_n dL_law_1028 rfl ?_
  refine G_iconst (v := 1) dL_law_1029 (by decide) ?_
  refine G_iadd dL_law_1030 ?_
  refine G_sld b1 e1 dL_law_1031 ?_
  refine G_callVv (T := TX8) (N := 22) (f := 19) (i := 0) (X8_breaks_ok h2) ok_X8_breaks ml_L_115 (by decide) rfl (by decide) (by decide) (by decide) rfl rfl (Nat.le_of_ble_eq_true rfl) dL_law_1032 ?_
  refine G_icmp_eq (tgt := 1498) dL_law_1035 (by decide) (fun _ => ?_) (fun hc => absurd rfl hc)
  exact K
set_option maxRecDepth 100000 in
set_option maxHeartbeats 4000000 in
theorem lawc_24 {n : Nat} {xs : Nat → Int32} {r : Option AV} {M' : MM} {v3 : Int32} (b1 : vp_in (v3 + 1) n) {a1 : Int32} (e1 : xs (v3 + 1).toNatClampNeg = a1) {C R C' R' : Mem} {res : Int32} (h1 : X7_dealer a1 C = some (res, C')) (h2 : X8_dealer a1 R = some (res, R')) (K : GX (SX n xs) mt_law 1000 r M' 1498 [(0, .inr (.inr (99, 0))), (1, .inr (.inr (7, 0))), (2, .inr (.inr (19, 0))), (3, .inl v3)] [] (C', R')) : GX (SX n xs) mt_law 1000 r M' 1040 [(0, .inr (.inr (99, 0))), (1, .inr (.inr (7, 0))), (2, .inr (.inr (19, 0))), (3, .inl v3)] [] (C, R) := by
  refine G_aload_n dL_law_1040 rfl ?_
  refine G_aload_n dL_law_1041 rfl ?_
  refine G_iload_n dL_law_1042 rfl ?_
  refine G_iconst (v := 1) dL_law_1043 (by decide) ?_
  refine G_iadd dL_law_1044 ?_
  refine G_sld b1 e1 dL_law_1045 ?_
  refine G_callVv (T := TX7) (N := 10) (f := 7) (i := 0) (X7_dealer_ok h1) ok_X7_dealer ml_L_116 (by decide) rfl (by decide) (by decide) (by decide) rfl rfl (Nat.le_of_ble_eq_true rfl) dL_law_1046 ?_
  refine G_aload_n dL_law_1049 rfl ?_
  refine G_aload_n dL_law_1050 rfl ?_
  refine G_iload_n dL_law_1051 rfl ?_
  refine G_iconst (v := 1) dL_law_1052 (by decide) ?_
  refine G_iadd dL_law_1053 ?_
  refine G_sld b1 e1 dL_law_1054 ?_
  refine G_callVv (T := TX8) (N := 22) (f := 19) (i := 0) (X8_dealer_ok h2) ok_X8_dealer ml_L_119 (by decide) rfl (by decide) (by decide) (by decide) rfl rfl (Nat.le_of_ble_eq_true rfl) dL_law_1055 ?_
  refine G_icmp_eq (tgt := 1498) dL_law_1058 (by decide) (fun _ => ?_) (fun hc => absurd rfl hc)
  exact K
set_option maxRecDepth 100000 in
set_option maxHeartbeats 4000000 in
theorem lawc_25 {n : Nat} {xs : Nat → Int32} {r : Option AV} {M' : MM} {v3 : Int32} (b1 : vp_in (v3 + 1) n) {a1 : Int32} (e1 : xs (v3 + 1).toNatClampNeg = a1) (b2 : vp_in (v3 + 2) n) {a2 : Int32} (e2 : xs (v3 + 2).toNatClampNeg = a2) (b3 : vp_in (v3 + 3) n) {a3 : Int32} (e3 : xs (v3 + 3).toNatClampNeg = a3) {C R C' R' : Mem} {res : Int32} (h1 : X7_odds a1 a2 a3 C = some (res, C')) (h2 : X8_odds a1 a2 a3 R = some (res, R')) (K : GX (SX n xs) mt_law 1000 r M' 1498 [(0, .inr (.inr (99, 0))), (1, .inr (.inr (7, 0))), (2, .inr (.inr (19, 0))), (3, .inl v3)] [] (C', R')) : GX (SX n xs) mt_law 1000 r M' 1063 [(0, .inr (.inr (99, 0))), (1, .inr (.inr (7, 0))), (2, .inr (.inr (19, 0))), (3, .inl v3)] [] (C, R) := by
  refine G_aload_n dL_law_1063 rfl ?_
  refine G_aload_n dL_law_1064 rfl ?_
  refine G_iload_n dL_law_1065 rfl ?_
  refine G_iconst (v := 1) dL_law_1066 (by decide) ?_
  refine G_iadd dL_law_1067 ?_
  refine G_sld b1 e1 dL_law_1068 ?_
  refine G_aload_n dL_law_1069 rfl ?_
  refine G_iload_n dL_law_1070 rfl ?_
  refine G_iconst (v := 2) dL_law_1071 (by decide) ?_
  refine G_iadd dL_law_1072 ?_
  refine G_sld b2 e2 dL_law_1073 ?_
  refine G_aload_n dL_law_1074 rfl ?_
  refine G_iload_n dL_law_1075 rfl ?_
  refine G_iconst (v := 3) dL_law_1076 (by decide) ?_
  refine G_iadd dL_law_1077 ?_
  refine G_sld b3 e3 dL_law_1078 ?_
  refine G_callVv (T := TX7) (N := 10) (f := 7) (i := 0) (X7_odds_ok h1) ok_X7_odds ml_L_120 (by decide) rfl (by decide) (by decide) (by decide) rfl rfl (Nat.le_of_ble_eq_true rfl) dL_law_1079 ?_
  refine G_aload_n dL_law_1082 rfl ?_
  refine G_aload_n dL_law_1083 rfl ?_
  refine G_iload_n dL_law_1084 rfl ?_
  refine G_iconst (v := 1) dL_law_1085 (by decide) ?_
  refine G_iadd dL_law_1086 ?_
  refine G_sld b1 e1 dL_law_1087 ?_
  refine G_aload_n dL_law_1088 rfl ?_
  refine G_iload_n dL_law_1089 rfl ?_
  refine G_iconst (v := 2) dL_law_1090 (by decide) ?_
  refine G_iadd dL_law_1091 ?_
  refine G_sld b2 e2 dL_law_1092 ?_
  refine G_aload_n dL_law_1093 rfl ?_
  refine G_iload_n dL_law_1094 rfl ?_
  refine G_iconst (v := 3) dL_law_1095 (by decide) ?_
  refine G_iadd dL_law_1096 ?_
  refine G_sld b3 e3 dL_law_1097 ?_
  refine G_callVv (T := TX8) (N := 22) (f := 19) (i := 0) (X8_odds_ok h2) ok_X8_odds ml_L_123 (by decide) rfl (by decide) (by decide) (by decide) rfl rfl (Nat.le_of_ble_eq_true rfl) dL_law_1098 ?_
  refine G_icmp_eq (tgt := 1498) dL_law_1101 (by decide) (fun _ => ?_) (fun hc => absurd rfl hc)
  exact K
set_option maxRecDepth 100000 in
set_option maxHeartbeats 4000000 in
theorem lawc_26 {n : Nat} {xs : Nat → Int32} {r : Option AV} {M' : MM} {v3 : Int32} (b1 : vp_in (v3 + 1) n) {a1 : Int32} (e1 : xs (v3 + 1).toNatClampNeg = a1) {C R C' R' : Mem} {res : Int32} (h1 : X7_seed a1 C = some (res, C')) (h2 : X8_seed a1 R = some (res, R')) (K : GX (SX n xs) mt_law 1000 r M' 1498 [(0, .inr (.inr (99, 0))), (1, .inr (.inr (7, 0))), (2, .inr (.inr (19, 0))), (3, .inl v3)] [] (C', R')) : GX (SX n xs) mt_law 1000 r M' 1106 [(0, .inr (.inr (99, 0))), (1, .inr (.inr (7, 0))), (2, .inr (.inr (19, 0))), (3, .inl v3)] [] (C, R) := by
  refine G_aload_n dL_law_1106 rfl ?_
  refine G_aload_n dL_law_1107 rfl ?_
  refine G_iload_n dL_law_1108 rfl ?_
  refine G_iconst (v := 1) dL_law_1109 (by decide) ?_
  refine G_iadd dL_law_1110 ?_
  refine G_sld b1 e1 dL_law_1111 ?_
  refine G_callVv (T := TX7) (N := 10) (f := 7) (i := 0) (X7_seed_ok h1) ok_X7_seed ml_L_124 (by decide) rfl (by decide) (by decide) (by decide) rfl rfl (Nat.le_of_ble_eq_true rfl) dL_law_1112 ?_
  refine G_aload_n dL_law_1115 rfl ?_
  refine G_aload_n dL_law_1116 rfl ?_
  refine G_iload_n dL_law_1117 rfl ?_
  refine G_iconst (v := 1) dL_law_1118 (by decide) ?_
  refine G_iadd dL_law_1119 ?_
  refine G_sld b1 e1 dL_law_1120 ?_
  refine G_callVv (T := TX8) (N := 22) (f := 19) (i := 0) (X8_seed_ok h2) ok_X8_seed ml_L_127 (by decide) rfl (by decide) (by decide) (by decide) rfl rfl (Nat.le_of_ble_eq_true rfl) dL_law_1121 ?_
  refine G_icmp_eq (tgt := 1498) dL_law_1124 (by decide) (fun _ => ?_) (fun hc => absurd rfl hc)
  exact K
set_option maxRecDepth 100000 in
set_option maxHeartbeats 4000000 in
theorem lawc_27 {n : Nat} {xs : Nat → Int32} {r : Option AV} {M' : MM} {v3 : Int32} (b1 : vp_in (v3 + 1) n) {a1 : Int32} (e1 : xs (v3 + 1).toNatClampNeg = a1) (b2 : vp_in (v3 + 2) n) {a2 : Int32} (e2 : xs (v3 + 2).toNatClampNeg = a2) (b3 : vp_in (v3 + 3) n) {a3 : Int32} (e3 : xs (v3 + 3).toNatClampNeg = a3) {C R C' R' : Mem} {res : Int32} (h1 : X7_voice a1 a2 a3 C = some (res, C')) (h2 : X8_voice a1 a2 a3 R = some (res, R')) (K : GX (SX n xs) mt_law 1000 r M' 1498 [(0, .inr (.inr (99, 0))), (1, .inr (.inr (7, 0))), (2, .inr (.inr (19, 0))), (3, .inl v3)] [] (C', R')) : GX (SX n xs) mt_law 1000 r M' 1129 [(0, .inr (.inr (99, 0))), (1, .inr (.inr (7, 0))), (2, .inr (.inr (19, 0))), (3, .inl v3)] [] (C, R) := by
  refine G_aload_n dL_law_1129 rfl ?_
  refine G_aload_n dL_law_1130 rfl ?_
  refine G_iload_n dL_law_1131 rfl ?_
  refine G_iconst (v := 1) dL_law_1132 (by decide) ?_
  refine G_iadd dL_law_1133 ?_
  refine G_sld b1 e1 dL_law_1134 ?_
  refine G_aload_n dL_law_1135 rfl ?_
  refine G_iload_n dL_law_1136 rfl ?_
  refine G_iconst (v := 2) dL_law_1137 (by decide) ?_
  refine G_iadd dL_law_1138 ?_
  refine G_sld b2 e2 dL_law_1139 ?_
  refine G_aload_n dL_law_1140 rfl ?_
  refine G_iload_n dL_law_1141 rfl ?_
  refine G_iconst (v := 3) dL_law_1142 (by decide) ?_
  refine G_iadd dL_law_1143 ?_
  refine G_sld b3 e3 dL_law_1144 ?_
  refine G_callVv (T := TX7) (N := 10) (f := 7) (i := 0) (X7_voice_ok h1) ok_X7_voice ml_L_128 (by decide) rfl (by decide) (by decide) (by decide) rfl rfl (Nat.le_of_ble_eq_true rfl) dL_law_1145 ?_
  refine G_aload_n dL_law_1148 rfl ?_
  refine G_aload_n dL_law_1149 rfl ?_
  refine G_iload_n dL_law_1150 rfl ?_
  refine G_iconst (v := 1) dL_law_1151 (by decide) ?_
  refine G_iadd dL_law_1152 ?_
  refine G_sld b1 e1 dL_law_1153 ?_
  refine G_aload_n dL_law_1154 rfl ?_
  refine G_iload_n dL_law_1155 rfl ?_
  refine G_iconst (v := 2) dL_law_1156 (by decide) ?_
  refine G_iadd dL_law_1157 ?_
  refine G_sld b2 e2 dL_law_1158 ?_
  refine G_aload_n dL_law_1159 rfl ?_
  refine G_iload_n dL_law_1160 rfl ?_
  refine G_iconst (v := 3) dL_law_1161 (by decide) ?_
  refine G_iadd dL_law_1162 ?_
  refine G_sld b3 e3 dL_law_1163 ?_
  refine G_callVv (T := TX8) (N := 22) (f := 19) (i := 0) (X8_voice_ok h2) ok_X8_voice ml_L_131 (by decide) rfl (by decide) (by decide) (by decide) rfl rfl (Nat.le_of_ble_eq_true rfl) dL_law_1164 ?_
  refine G_icmp_eq (tgt := 1498) dL_law_1167 (by decide) (fun _ => ?_) (fun hc => absurd rfl hc)
  exact K
set_option maxRecDepth 100000 in
set_option maxHeartbeats 4000000 in
theorem lawc_28 {n : Nat} {xs : Nat → Int32} {r : Option AV} {M' : MM} {v3 : Int32} (b1 : vp_in (v3 + 1) n) {a1 : Int32} (e1 : xs (v3 + 1).toNatClampNeg = a1) {C R C' R' : Mem} {res : Int32} (h1 : X7_trace a1 C = some (res, C')) (h2 : X8_trace a1 R = some (res, R')) (K : GX (SX n xs) mt_law 1000 r M' 1498 [(0, .inr (.inr (99, 0))), (1, .inr (.inr (7, 0))), (2, .inr (.inr (19, 0))), (3, .inl v3)] [] (C', R')) : GX (SX n xs) mt_law 1000 r M' 1172 [(0, .inr (.inr (99, 0))), (1, .inr (.inr (7, 0))), (2, .inr (.inr (19, 0))), (3, .inl v3)] [] (C, R) := by
  refine G_aload_n dL_law_1172 rfl ?_
  refine G_aload_n dL_law_1173 rfl ?_
  refine G_iload_n dL_law_1174 rfl ?_
  refine G_iconst (v := 1) dL_law_1175 (by decide) ?_
  refine G_iadd dL_law_1176 ?_
  refine G_sld b1 e1 dL_law_1177 ?_
  refine G_callVv (T := TX7) (N := 10) (f := 7) (i := 0) (X7_trace_ok h1) ok_X7_trace ml_L_132 (by decide) rfl (by decide) (by decide) (by decide) rfl rfl (Nat.le_of_ble_eq_true rfl) dL_law_1178 ?_
  refine G_aload_n dL_law_1181 rfl ?_
  refine G_aload_n dL_law_1182 rfl ?_
  refine G_iload_n dL_law_1183 rfl ?_
  refine G_iconst (v := 1) dL_law_1184 (by decide) ?_
  refine G_iadd dL_law_1185 ?_
  refine G_sld b1 e1 dL_law_1186 ?_
  refine G_callVv (T := TX8) (N := 22) (f := 19) (i := 0) (X8_trace_ok h2) ok_X8_trace ml_L_135 (by decide) rfl (by decide) (by decide) (by decide) rfl rfl (Nat.le_of_ble_eq_true rfl) dL_law_1187 ?_
  refine G_icmp_eq (tgt := 1498) dL_law_1190 (by decide) (fun _ => ?_) (fun hc => absurd rfl hc)
  exact K
set_option maxRecDepth 100000 in
set_option maxHeartbeats 4000000 in
theorem lawc_29 {n : Nat} {xs : Nat → Int32} {r : Option AV} {M' : MM} {v3 : Int32} (b1 : vp_in (v3 + 1) n) {a1 : Int32} (e1 : xs (v3 + 1).toNatClampNeg = a1) (b2 : vp_in (v3 + 2) n) {a2 : Int32} (e2 : xs (v3 + 2).toNatClampNeg = a2) (b3 : vp_in (v3 + 3) n) {a3 : Int32} (e3 : xs (v3 + 3).toNatClampNeg = a3) {C R C' R' : Mem} {res : Int32} (h1 : X7_sheet a1 a2 a3 C = some (res, C')) (h2 : X8_sheet a1 a2 a3 R = some (res, R')) (K : GX (SX n xs) mt_law 1000 r M' 1498 [(0, .inr (.inr (99, 0))), (1, .inr (.inr (7, 0))), (2, .inr (.inr (19, 0))), (3, .inl v3)] [] (C', R')) : GX (SX n xs) mt_law 1000 r M' 1195 [(0, .inr (.inr (99, 0))), (1, .inr (.inr (7, 0))), (2, .inr (.inr (19, 0))), (3, .inl v3)] [] (C, R) := by
  refine G_aload_n dL_law_1195 rfl ?_
  refine G_aload_n dL_law_1196 rfl ?_
  refine G_iload_n dL_law_1197 rfl ?_
  refine G_iconst (v := 1) dL_law_1198 (by decide) ?_
  refine G_iadd dL_law_1199 ?_
  refine G_sld b1 e1 dL_law_1200 ?_
  refine G_aload_n dL_law_1201 rfl ?_
  refine G_iload_n dL_law_1202 rfl ?_
  refine G_iconst (v := 2) dL_law_1203 (by decide) ?_
  refine G_iadd dL_law_1204 ?_
  refine G_sld b2 e2 dL_law_1205 ?_
  refine G_aload_n dL_law_1206 rfl ?_
  refine G_iload_n dL_law_1207 rfl ?_
  refine G_iconst (v := 3) dL_law_1208 (by decide) ?_
  refine G_iadd dL_law_1209 ?_
  refine G_sld b3 e3 dL_law_1210 ?_
  refine G_callVv (T := TX7) (N := 10) (f := 7) (i := 0) (X7_sheet_ok h1) ok_X7_sheet ml_L_136 (by decide) rfl (by decide) (by decide) (by decide) rfl rfl (Nat.le_of_ble_eq_true rfl) dL_law_1211 ?_
  refine G_aload_n dL_law_1214 rfl ?_
  refine G_aload_n dL_law_1215 rfl ?_
  refine G_iload_n dL_law_1216 rfl ?_
  refine G_iconst (v := 1) dL_law_1217 (by decide) ?_
  refine G_iadd dL_law_1218 ?_
  refine G_sld b1 e1 dL_law_1219 ?_
  refine G_aload_n dL_law_1220 rfl ?_
  refine G_iload_n dL_law_1221 rfl ?_
  refine G_iconst (v := 2) dL_law_1222 (by decide) ?_
  refine G_iadd dL_law_1223 ?_
  refine G_sld b2 e2 dL_law_1224 ?_
  refine G_aload_n dL_law_1225 rfl ?_
  refine G_iload_n dL_law_1226 rfl ?_
  refine G_iconst (v := 3) dL_law_1227 (by decide) ?_
  refine G_iadd dL_law_1228 ?_
  refine G_sld b3 e3 dL_law_1229 ?_
  refine G_callVv (T := TX8) (N := 22) (f := 19) (i := 0) (X8_sheet_ok h2) ok_X8_sheet ml_L_139 (by decide) rfl (by decide) (by decide) (by decide) rfl rfl (Nat.le_of_ble_eq_true rfl) dL_law_1230 ?_
  refine G_icmp_eq (tgt := 1498) dL_law_1233 (by decide) (fun _ => ?_) (fun hc => absurd rfl hc)
  exact K
set_option maxRecDepth 100000 in
set_option maxHeartbeats 4000000 in
theorem lawc_30 {n : Nat} {xs : Nat → Int32} {r : Option AV} {M' : MM} {v3 : Int32} (b1 : vp_in (v3 + 1) n) {a1 : Int32} (e1 : xs (v3 + 1).toNatClampNeg = a1) (b2 : vp_in (v3 + 2) n) {a2 : Int32} (e2 : xs (v3 + 2).toNatClampNeg = a2) (b3 : vp_in (v3 + 3) n) {a3 : Int32} (e3 : xs (v3 + 3).toNatClampNeg = a3) {C R C' R' : Mem} {res : Int32} (h1 : X7_put a1 a2 a3 C = some (res, C')) (h2 : X8_put a1 a2 a3 R = some (res, R')) (K : GX (SX n xs) mt_law 1000 r M' 1498 [(0, .inr (.inr (99, 0))), (1, .inr (.inr (7, 0))), (2, .inr (.inr (19, 0))), (3, .inl v3)] [] (C', R')) : GX (SX n xs) mt_law 1000 r M' 1238 [(0, .inr (.inr (99, 0))), (1, .inr (.inr (7, 0))), (2, .inr (.inr (19, 0))), (3, .inl v3)] [] (C, R) := by
  refine G_aload_n dL_law_1238 rfl ?_
  refine G_aload_n dL_law_1239 rfl ?_
  refine G_iload_n dL_law_1240 rfl ?_
  refine G_iconst (v := 1) dL_law_1241 (by decide) ?_
  refine G_iadd dL_law_1242 ?_
  refine G_sld b1 e1 dL_law_1243 ?_
  refine G_aload_n dL_law_1244 rfl ?_
  refine G_iload_n dL_law_1245 rfl ?_
  refine G_iconst (v := 2) dL_law_1246 (by decide) ?_
  refine G_iadd dL_law_1247 ?_
  refine G_sld b2 e2 dL_law_1248 ?_
  refine G_aload_n dL_law_1249 rfl ?_
  refine G_iload_n dL_law_1250 rfl ?_
  refine G_iconst (v := 3) dL_law_1251 (by decide) ?_
  refine G_iadd dL_law_1252 ?_
  refine G_sld b3 e3 dL_law_1253 ?_
  refine G_callVv (T := TX7) (N := 10) (f := 7) (i := 0) (X7_put_ok h1) ok_X7_put ml_L_140 (by decide) rfl (by decide) (by decide) (by decide) rfl rfl (Nat.le_of_ble_eq_true rfl) dL_law_1254 ?_
  refine G_aload_n dL_law_1257 rfl ?_
  refine G_aload_n dL_law_1258 rfl ?_
  refine G_iload_n dL_law_1259 rfl ?_
  refine G_iconst (v := 1) dL_law_1260 (by decide) ?_
  refine G_iadd dL_law_1261 ?_
  refine G_sld b1 e1 dL_law_1262 ?_
  refine G_aload_n dL_law_1263 rfl ?_
  refine G_iload_n dL_law_1264 rfl ?_
  refine G_iconst (v := 2) dL_law_1265 (by decide) ?_
  refine G_iadd dL_law_1266 ?_
  refine G_sld b2 e2 dL_law_1267 ?_
  refine G_aload_n dL_law_1268 rfl ?_
  refine G_iload_n dL_law_1269 rfl ?_
  refine G_iconst (v := 3) dL_law_1270 (by decide) ?_
  refine G_iadd dL_law_1271 ?_
  refine G_sld b3 e3 dL_law_1272 ?_
  refine G_callVv (T := TX8) (N := 22) (f := 19) (i := 0) (X8_put_ok h2) ok_X8_put ml_L_143 (by decide) rfl (by decide) (by decide) (by decide) rfl rfl (Nat.le_of_ble_eq_true rfl) dL_law_1273 ?_
  refine G_icmp_eq (tgt := 1498) dL_law_1276 (by decide) (fun _ => ?_) (fun hc => absurd rfl hc)
  exact K
set_option maxRecDepth 100000 in
set_option maxHeartbeats 4000000 in
theorem lawc_31 {n : Nat} {xs : Nat → Int32} {r : Option AV} {M' : MM} {v3 : Int32} (b1 : vp_in (v3 + 1) n) {a1 : Int32} (e1 : xs (v3 + 1).toNatClampNeg = a1) (b2 : vp_in (v3 + 2) n) {a2 : Int32} (e2 : xs (v3 + 2).toNatClampNeg = a2) (b3 : vp_in (v3 + 3) n) {a3 : Int32} (e3 : xs (v3 + 3).toNatClampNeg = a3) (b4 : vp_in (v3 + 4) n) {a4 : Int32} (e4 : xs (v3 + 4).toNatClampNeg = a4) (b5 : vp_in (v3 + 5) n) {a5 : Int32} (e5 : xs (v3 + 5).toNatClampNeg = a5) {C R C' R' : Mem} {res : Int32} (h1 : X7_move a1 a2 a3 a4 a5 C = some (res, C')) (h2 : X8_move a1 a2 a3 a4 a5 R = some (res, R')) (K : GX (SX n xs) mt_law 1000 r M' 1498 [(0, .inr (.inr (99, 0))), (1, .inr (.inr (7, 0))), (2, .inr (.inr (19, 0))), (3, .inl v3)] [] (C', R')) : GX (SX n xs) mt_law 1000 r M' 1281 [(0, .inr (.inr (99, 0))), (1, .inr (.inr (7, 0))), (2, .inr (.inr (19, 0))), (3, .inl v3)] [] (C, R) := by
  refine G_aload_n dL_law_1281 rfl ?_
  refine G_aload_n dL_law_1282 rfl ?_
  refine G_iload_n dL_law_1283 rfl ?_
  refine G_iconst (v := 1) dL_law_1284 (by decide) ?_
  refine G_iadd dL_law_1285 ?_
  refine G_sld b1 e1 dL_law_1286 ?_
  refine G_aload_n dL_law_1287 rfl ?_
  refine G_iload_n dL_law_1288 rfl ?_
  refine G_iconst (v := 2) dL_law_1289 (by decide) ?_
  refine G_iadd dL_law_1290 ?_
  refine G_sld b2 e2 dL_law_1291 ?_
  refine G_aload_n dL_law_1292 rfl ?_
  refine G_iload_n dL_law_1293 rfl ?_
  refine G_iconst (v := 3) dL_law_1294 (by decide) ?_
  refine G_iadd dL_law_1295 ?_
  refine G_sld b3 e3 dL_law_1296 ?_
  refine G_aload_n dL_law_1297 rfl ?_
  refine G_iload_n dL_law_1298 rfl ?_
  refine G_iconst (v := 4) dL_law_1299 (by decide) ?_
  refine G_iadd dL_law_1300 ?_
  refine G_sld b4 e4 dL_law_1301 ?_
  refine G_aload_n dL_law_1302 rfl ?_
  refine G_iload_n dL_law_1303 rfl ?_
  refine G_iconst (v := 5) dL_law_1304 (by decide) ?_
  refine G_iadd dL_law_1305 ?_
  refine G_sld b5 e5 dL_law_1306 ?_
  refine G_callVv (T := TX7) (N := 10) (f := 7) (i := 0) (X7_move_ok h1) ok_X7_move ml_L_144 (by decide) rfl (by decide) (by decide) (by decide) rfl rfl (Nat.le_of_ble_eq_true rfl) dL_law_1307 ?_
  refine G_aload_n dL_law_1310 rfl ?_
  refine G_aload_n dL_law_1311 rfl ?_
  refine G_iload_n dL_law_1312 rfl ?_
  refine G_iconst (v := 1) dL_law_1313 (by decide) ?_
  refine G_iadd dL_law_1314 ?_
  refine G_sld b1 e1 dL_law_1315 ?_
  refine G_aload_n dL_law_1316 rfl ?_
  refine G_iload_n dL_law_1317 rfl ?_
  refine G_iconst (v := 2) dL_law_1318 (by decide) ?_
  refine G_iadd dL_law_1319 ?_
  refine G_sld b2 e2 dL_law_1320 ?_
  refine G_aload_n dL_law_1321 rfl ?_
  refine G_iload_n dL_law_1322 rfl ?_
  refine G_iconst (v := 3) dL_law_1323 (by decide) ?_
  refine G_iadd dL_law_1324 ?_
  refine G_sld b3 e3 dL_law_1325 ?_
  refine G_aload_n dL_law_1326 rfl ?_
  refine G_iload_n dL_law_1327 rfl ?_
  refine G_iconst (v := 4) dL_law_1328 (by decide) ?_
  refine G_iadd dL_law_1329 ?_
  refine G_sld b4 e4 dL_law_1330 ?_
  refine G_aload_n dL_law_1331 rfl ?_
  refine G_iload_n dL_law_1332 rfl ?_
  refine G_iconst (v := 5) dL_law_1333 (by decide) ?_
  refine G_iadd dL_law_1334 ?_
  refine G_sld b5 e5 dL_law_1335 ?_
  refine G_callVv (T := TX8) (N := 22) (f := 19) (i := 0) (X8_move_ok h2) ok_X8_move ml_L_148 (by decide) rfl (by decide) (by decide) (by decide) rfl rfl (Nat.le_of_ble_eq_true rfl) dL_law_1336 ?_
  refine G_icmp_eq (tgt := 1498) dL_law_1339 (by decide) (fun _ => ?_) (fun hc => absurd rfl hc)
  exact K
set_option maxRecDepth 100000 in
set_option maxHeartbeats 4000000 in
theorem lawc_32 {n : Nat} {xs : Nat → Int32} {r : Option AV} {M' : MM} {v3 : Int32} (b1 : vp_in (v3 + 1) n) {a1 : Int32} (e1 : xs (v3 + 1).toNatClampNeg = a1) {C R C' R' : Mem} {res : Int32} (h1 : X7_uses a1 C = some (res, C')) (h2 : X8_uses a1 R = some (res, R')) (K : GX (SX n xs) mt_law 1000 r M' 1498 [(0, .inr (.inr (99, 0))), (1, .inr (.inr (7, 0))), (2, .inr (.inr (19, 0))), (3, .inl v3)] [] (C', R')) : GX (SX n xs) mt_law 1000 r M' 1344 [(0, .inr (.inr (99, 0))), (1, .inr (.inr (7, 0))), (2, .inr (.inr (19, 0))), (3, .inl v3)] [] (C, R) := by
  refine G_aload_n dL_law_1344 rfl ?_
  refine G_aload_n dL_law_1345 rfl ?_
  refine G_iload_n dL_law_1346 rfl ?_
  refine G_iconst (v := 1) dL_law_1347 (by decide) ?_
  refine G_iadd dL_law_1348 ?_
  refine G_sld b1 e1 dL_law_1349 ?_
  refine G_callVv (T := TX7) (N := 10) (f := 7) (i := 0) (X7_uses_ok h1) ok_X7_uses ml_L_149 (by decide) rfl (by decide) (by decide) (by decide) rfl rfl (Nat.le_of_ble_eq_true rfl) dL_law_1350 ?_
  refine G_aload_n dL_law_1353 rfl ?_
  refine G_aload_n dL_law_1354 rfl ?_
  refine G_iload_n dL_law_1355 rfl ?_
  refine G_iconst (v := 1) dL_law_1356 (by decide) ?_
  refine G_iadd dL_law_1357 ?_
  refine G_sld b1 e1 dL_law_1358 ?_
  refine G_callVv (T := TX8) (N := 22) (f := 19) (i := 0) (X8_uses_ok h2) ok_X8_uses ml_L_152 (by decide) rfl (by decide) (by decide) (by decide) rfl rfl (Nat.le_of_ble_eq_true rfl) dL_law_1359 ?_
  refine G_icmp_eq (tgt := 1498) dL_law_1362 (by decide) (fun _ => ?_) (fun hc => absurd rfl hc)
  exact K
set_option maxRecDepth 100000 in
set_option maxHeartbeats 4000000 in
theorem lawc_33 {n : Nat} {xs : Nat → Int32} {r : Option AV} {M' : MM} {v3 : Int32} (b1 : vp_in (v3 + 1) n) {a1 : Int32} (e1 : xs (v3 + 1).toNatClampNeg = a1) {C R C' R' : Mem} {res : Int32} (h1 : X7_judge a1 C = some (res, C')) (h2 : X8_judge a1 R = some (res, R')) (K : GX (SX n xs) mt_law 1000 r M' 1498 [(0, .inr (.inr (99, 0))), (1, .inr (.inr (7, 0))), (2, .inr (.inr (19, 0))), (3, .inl v3)] [] (C', R')) : GX (SX n xs) mt_law 1000 r M' 1367 [(0, .inr (.inr (99, 0))), (1, .inr (.inr (7, 0))), (2, .inr (.inr (19, 0))), (3, .inl v3)] [] (C, R) := by
  refine G_aload_n dL_law_1367 rfl ?_
  refine G_aload_n dL_law_1368 rfl ?_
  refine G_iload_n dL_law_1369 rfl ?_
  refine G_iconst (v := 1) dL_law_1370 (by decide) ?_
  refine G_iadd dL_law_1371 ?_
  refine G_sld b1 e1 dL_law_1372 ?_
  refine G_callVv (T := TX7) (N := 10) (f := 7) (i := 0) (X7_judge_ok h1) ok_X7_judge ml_L_153 (by decide) rfl (by decide) (by decide) (by decide) rfl rfl (Nat.le_of_ble_eq_true rfl) dL_law_1373 ?_
  refine G_aload_n dL_law_1376 rfl ?_
  refine G_aload_n dL_law_1377 rfl ?_
  refine G_iload_n dL_law_1378 rfl ?_
  refine G_iconst (v := 1) dL_law_1379 (by decide) ?_
  refine G_iadd dL_law_1380 ?_
  refine G_sld b1 e1 dL_law_1381 ?_
  refine G_callVv (T := TX8) (N := 22) (f := 19) (i := 0) (X8_judge_ok h2) ok_X8_judge ml_L_156 (by decide) rfl (by decide) (by decide) (by decide) rfl rfl (Nat.le_of_ble_eq_true rfl) dL_law_1382 ?_
  refine G_icmp_eq (tgt := 1498) dL_law_1385 (by decide) (fun _ => ?_) (fun hc => absurd rfl hc)
  exact K
set_option maxRecDepth 100000 in
set_option maxHeartbeats 4000000 in
theorem lawc_34 {n : Nat} {xs : Nat → Int32} {r : Option AV} {M' : MM} {v3 : Int32} {C R C' R' : Mem} {res : Int32} (h1 : X7_image C = some (res, C')) (h2 : X8_image R = some (res, R')) (K : GX (SX n xs) mt_law 1000 r M' 1498 [(0, .inr (.inr (99, 0))), (1, .inr (.inr (7, 0))), (2, .inr (.inr (19, 0))), (3, .inl v3)] [] (C', R')) : GX (SX n xs) mt_law 1000 r M' 1390 [(0, .inr (.inr (99, 0))), (1, .inr (.inr (7, 0))), (2, .inr (.inr (19, 0))), (3, .inl v3)] [] (C, R) := by
  refine G_aload_n dL_law_1390 rfl ?_
  refine G_callVv (T := TX7) (N := 10) (f := 7) (i := 0) (X7_image_ok h1) ok_X7_image ml_L_157 (by decide) rfl (by decide) (by decide) (by decide) rfl rfl (Nat.le_of_ble_eq_true rfl) dL_law_1391 ?_
  refine G_aload_n dL_law_1394 rfl ?_
  refine G_callVv (T := TX8) (N := 22) (f := 19) (i := 0) (X8_image_ok h2) ok_X8_image ml_L_161 (by decide) rfl (by decide) (by decide) (by decide) rfl rfl (Nat.le_of_ble_eq_true rfl) dL_law_1395 ?_
  refine G_icmp_eq (tgt := 1498) dL_law_1398 (by decide) (fun _ => ?_) (fun hc => absurd rfl hc)
  exact K
set_option maxRecDepth 100000 in
set_option maxHeartbeats 4000000 in
theorem lawc_35 {n : Nat} {xs : Nat → Int32} {r : Option AV} {M' : MM} {v3 : Int32} {C R C' R' : Mem} {res : Int32} (h1 : X7_restore C = some (res, C')) (h2 : X8_restore R = some (res, R')) (K : GX (SX n xs) mt_law 1000 r M' 1498 [(0, .inr (.inr (99, 0))), (1, .inr (.inr (7, 0))), (2, .inr (.inr (19, 0))), (3, .inl v3)] [] (C', R')) : GX (SX n xs) mt_law 1000 r M' 1403 [(0, .inr (.inr (99, 0))), (1, .inr (.inr (7, 0))), (2, .inr (.inr (19, 0))), (3, .inl v3)] [] (C, R) := by
  refine G_aload_n dL_law_1403 rfl ?_
  refine G_callVv (T := TX7) (N := 10) (f := 7) (i := 0) (X7_restore_ok h1) ok_X7_restore ml_L_162 (by decide) rfl (by decide) (by decide) (by decide) rfl rfl (Nat.le_of_ble_eq_true rfl) dL_law_1404 ?_
  refine G_aload_n dL_law_1407 rfl ?_
  refine G_callVv (T := TX8) (N := 22) (f := 19) (i := 0) (X8_restore_ok h2) ok_X8_restore ml_L_165 (by decide) rfl (by decide) (by decide) (by decide) rfl rfl (Nat.le_of_ble_eq_true rfl) dL_law_1408 ?_
  refine G_icmp_eq (tgt := 1498) dL_law_1411 (by decide) (fun _ => ?_) (fun hc => absurd rfl hc)
  exact K
set_option maxRecDepth 100000 in
set_option maxHeartbeats 4000000 in
theorem lawc_36 {n : Nat} {xs : Nat → Int32} {r : Option AV} {M' : MM} {v3 : Int32} (b1 : vp_in (v3 + 1) n) {a1 : Int32} (e1 : xs (v3 + 1).toNatClampNeg = a1) {C R C' R' : Mem} {res : Int32} (h1 : X7_tell a1 C = some (res, C')) (h2 : X8_tell a1 R = some (res, R')) (K : GX (SX n xs) mt_law 1000 r M' 1498 [(0, .inr (.inr (99, 0))), (1, .inr (.inr (7, 0))), (2, .inr (.inr (19, 0))), (3, .inl v3)] [] (C', R')) : GX (SX n xs) mt_law 1000 r M' 1416 [(0, .inr (.inr (99, 0))), (1, .inr (.inr (7, 0))), (2, .inr (.inr (19, 0))), (3, .inl v3)] [] (C, R) := by
  refine G_aload_n dL_law_1416 rfl ?_
  refine G_aload_n dL_law_1417 rfl ?_
  refine G_iload_n dL_law_1418 rfl ?_
  refine G_iconst (v := 1) dL_law_1419 (by decide) ?_
  refine G_iadd dL_law_1420 ?_
  refine G_sld b1 e1 dL_law_1421 ?_
  refine G_callVv (T := TX7) (N := 10) (f := 7) (i := 0) (X7_tell_ok h1) ok_X7_tell ml_L_166 (by decide) rfl (by decide) (by decide) (by decide) rfl rfl (Nat.le_of_ble_eq_true rfl) dL_law_1422 ?_
  refine G_aload_n dL_law_1425 rfl ?_
  refine G_aload_n dL_law_1426 rfl ?_
  refine G_iload_n dL_law_1427 rfl ?_
  refine G_iconst (v := 1) dL_law_1428 (by decide) ?_
  refine G_iadd dL_law_1429 ?_
  refine G_sld b1 e1 dL_law_1430 ?_
  refine G_callVv (T := TX8) (N := 22) (f := 19) (i := 0) (X8_tell_ok h2) ok_X8_tell ml_L_169 (by decide) rfl (by decide) (by decide) (by decide) rfl rfl (Nat.le_of_ble_eq_true rfl) dL_law_1431 ?_
  refine G_icmp_eq (tgt := 1498) dL_law_1434 (by decide) (fun _ => ?_) (fun hc => absurd rfl hc)
  exact K
set_option maxRecDepth 100000 in
set_option maxHeartbeats 4000000 in
theorem lawc_37 {n : Nat} {xs : Nat → Int32} {r : Option AV} {M' : MM} {v3 : Int32} {C R C' R' : Mem} {res : Int32} (h1 : X7_check C = some (res, C')) (h2 : X8_check R = some (res, R')) (K : GX (SX n xs) mt_law 1000 r M' 1498 [(0, .inr (.inr (99, 0))), (1, .inr (.inr (7, 0))), (2, .inr (.inr (19, 0))), (3, .inl v3)] [] (C', R')) : GX (SX n xs) mt_law 1000 r M' 1439 [(0, .inr (.inr (99, 0))), (1, .inr (.inr (7, 0))), (2, .inr (.inr (19, 0))), (3, .inl v3)] [] (C, R) := by
  refine G_aload_n dL_law_1439 rfl ?_
  refine G_callVv (T := TX7) (N := 10) (f := 7) (i := 0) (X7_check_ok h1) ok_X7_check ml_L_170 (by decide) rfl (by decide) (by decide) (by decide) rfl rfl (Nat.le_of_ble_eq_true rfl) dL_law_1440 ?_
  refine G_aload_n dL_law_1443 rfl ?_
  refine G_callVv (T := TX8) (N := 22) (f := 19) (i := 0) (X8_check_ok h2) ok_X8_check ml_L_173 (by decide) rfl (by decide) (by decide) (by decide) rfl rfl (Nat.le_of_ble_eq_true rfl) dL_law_1444 ?_
  refine G_icmp_eq (tgt := 1498) dL_law_1447 (by decide) (fun _ => ?_) (fun hc => absurd rfl hc)
  exact K
set_option maxRecDepth 100000 in
set_option maxHeartbeats 4000000 in
theorem lawc_38 {n : Nat} {xs : Nat → Int32} {r : Option AV} {M' : MM} {v3 : Int32} (b1 : vp_in (v3 + 1) n) {a1 : Int32} (e1 : xs (v3 + 1).toNatClampNeg = a1) {C R C' R' : Mem} {res : Int32} (h1 : X7_count a1 C = some (res, C')) (h2 : X8_count a1 R = some (res, R')) (K : GX (SX n xs) mt_law 1000 r M' 1498 [(0, .inr (.inr (99, 0))), (1, .inr (.inr (7, 0))), (2, .inr (.inr (19, 0))), (3, .inl v3)] [] (C', R')) : GX (SX n xs) mt_law 1000 r M' 1452 [(0, .inr (.inr (99, 0))), (1, .inr (.inr (7, 0))), (2, .inr (.inr (19, 0))), (3, .inl v3)] [] (C, R) := by
  refine G_aload_n dL_law_1452 rfl ?_
  refine G_aload_n dL_law_1453 rfl ?_
  refine G_iload_n dL_law_1454 rfl ?_
  refine G_iconst (v := 1) dL_law_1455 (by decide) ?_
  refine G_iadd dL_law_1456 ?_
  refine G_sld b1 e1 dL_law_1457 ?_
  refine G_callVv (T := TX7) (N := 10) (f := 7) (i := 0) (X7_count_ok h1) ok_X7_count ml_L_174 (by decide) rfl (by decide) (by decide) (by decide) rfl rfl (Nat.le_of_ble_eq_true rfl) dL_law_1458 ?_
  refine G_aload_n dL_law_1461 rfl ?_
  refine G_aload_n dL_law_1462 rfl ?_
  refine G_iload_n dL_law_1463 rfl ?_
  refine G_iconst (v := 1) dL_law_1464 (by decide) ?_
  refine G_iadd dL_law_1465 ?_
  refine G_sld b1 e1 dL_law_1466 ?_
  refine G_callVv (T := TX8) (N := 22) (f := 19) (i := 0) (X8_count_ok h2) ok_X8_count ml_L_177 (by decide) rfl (by decide) (by decide) (by decide) rfl rfl (Nat.le_of_ble_eq_true rfl) dL_law_1467 ?_
  refine G_icmp_eq (tgt := 1498) dL_law_1470 (by decide) (fun _ => ?_) (fun hc => absurd rfl hc)
  exact K
set_option maxRecDepth 100000 in
set_option maxHeartbeats 4000000 in
theorem lawc_39 {n : Nat} {xs : Nat → Int32} {r : Option AV} {M' : MM} {v3 : Int32} (b1 : vp_in (v3 + 1) n) {a1 : Int32} (e1 : xs (v3 + 1).toNatClampNeg = a1) {C R C' R' : Mem} {res : Int32} (h1 : X7_told a1 C = some (res, C')) (h2 : X8_told a1 R = some (res, R')) (K : GX (SX n xs) mt_law 1000 r M' 1498 [(0, .inr (.inr (99, 0))), (1, .inr (.inr (7, 0))), (2, .inr (.inr (19, 0))), (3, .inl v3)] [] (C', R')) : GX (SX n xs) mt_law 1000 r M' 1475 [(0, .inr (.inr (99, 0))), (1, .inr (.inr (7, 0))), (2, .inr (.inr (19, 0))), (3, .inl v3)] [] (C, R) := by
  refine G_aload_n dL_law_1475 rfl ?_
  refine G_aload_n dL_law_1476 rfl ?_
  refine G_iload_n dL_law_1477 rfl ?_
  refine G_iconst (v := 1) dL_law_1478 (by decide) ?_
  refine G_iadd dL_law_1479 ?_
  refine G_sld b1 e1 dL_law_1480 ?_
  refine G_callVv (T := TX7) (N := 10) (f := 7) (i := 0) (X7_told_ok h1) ok_X7_told ml_L_178 (by decide) rfl (by decide) (by decide) (by decide) rfl rfl (Nat.le_of_ble_eq_true rfl) dL_law_1481 ?_
  refine G_aload_n dL_law_1484 rfl ?_
  refine G_aload_n dL_law_1485 rfl ?_
  refine G_iload_n dL_law_1486 rfl ?_
  refine G_iconst (v := 1) dL_law_1487 (by decide) ?_
  refine G_iadd dL_law_1488 ?_
  refine G_sld b1 e1 dL_law_1489 ?_
  refine G_callVv (T := TX8) (N := 22) (f := 19) (i := 0) (X8_told_ok h2) ok_X8_told ml_L_181 (by decide) rfl (by decide) (by decide) (by decide) rfl rfl (Nat.le_of_ble_eq_true rfl) dL_law_1490 ?_
  refine G_icmp_eq (tgt := 1498) dL_law_1493 (by decide) (fun _ => ?_) (fun hc => absurd rfl hc)
  exact K
