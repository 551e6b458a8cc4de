/-! printed by wip/whole/emit.py out of the claim's own listing -/
theorem dL_law_0 : ml_d cL_law 0 (.new 7) 3 3 := ⟨by decide +kernel, rfl⟩
theorem dL_law_3 : ml_d cL_law 3 (.dup) 1 4 := ⟨by decide +kernel, rfl⟩
theorem dL_law_4 : ml_d cL_law 4 (.invokespecial 9) 3 7 := ⟨by decide +kernel, rfl⟩
theorem dL_law_7 : ml_d cL_law 7 (.astore_n 1) 1 8 := ⟨by decide +kernel, rfl⟩
theorem dL_law_8 : ml_d cL_law 8 (.new 10) 3 11 := ⟨by decide +kernel, rfl⟩
theorem dL_law_11 : ml_d cL_law 11 (.dup) 1 12 := ⟨by decide +kernel, rfl⟩
theorem dL_law_12 : ml_d cL_law 12 (.invokespecial 12) 3 15 := ⟨by decide +kernel, rfl⟩
theorem dL_law_15 : ml_d cL_law 15 (.astore_n 2) 1 16 := ⟨by decide +kernel, rfl⟩
theorem dL_law_16 : ml_d cL_law 16 (.iconst 0) 1 17 := ⟨by decide +kernel, rfl⟩
theorem dL_law_17 : ml_d cL_law 17 (.istore_n 3) 1 18 := ⟨by decide +kernel, rfl⟩
theorem dL_law_18 : ml_d cL_law 18 (.iload_n 3) 1 19 := ⟨by decide +kernel, rfl⟩
theorem dL_law_19 : ml_d cL_law 19 (.aload_n 0) 1 20 := ⟨by decide +kernel, rfl⟩
theorem dL_law_20 : ml_d cL_law 20 (.arraylength) 1 21 := ⟨by decide +kernel, rfl⟩
theorem dL_law_21 : ml_d cL_law 21 (.bipush 6) 2 23 := ⟨by decide +kernel, rfl⟩
theorem dL_law_23 : ml_d cL_law 23 (.isub) 1 24 := ⟨by decide +kernel, rfl⟩
theorem dL_law_24 : ml_j cL_law 24 (.if_icmp .gt) 1578 27 := ⟨1554, by decide +kernel, by decide, rfl⟩
theorem dL_law_27 : ml_d cL_law 27 (.aload_n 0) 1 28 := ⟨by decide +kernel, rfl⟩
theorem dL_law_28 : ml_d cL_law 28 (.iload_n 3) 1 29 := ⟨by decide +kernel, rfl⟩
theorem dL_law_29 : ml_d cL_law 29 (.iaload) 1 30 := ⟨by decide +kernel, rfl⟩
theorem dL_law_30 : ml_d cL_law 30 (.bipush 63) 2 32 := ⟨by decide +kernel, rfl⟩
theorem dL_law_32 : ml_d cL_law 32 (.iand) 1 33 := ⟨by decide +kernel, rfl⟩
theorem dL_law_33 : decode cL_law 33 = .ok (.tableswitch 1539 0 47 #[207, 240, 283, 316, 339, 402, 425, 458, 501, 524, 547, 570, 603, 636, 699, 758, 791, 824, 847, 860, 873, 896, 909, 922, 945, 968, 991, 1024, 1047, 1070, 1103, 1146, 1159, 1182, 1235, 1268, 1291, 1304, 1317, 1340, 1383, 1406, 1439, 1452, 1466, 1489, 1502, 1525], 207) := by decide +kernel
theorem dL_law_240 : ml_d cL_law 240 (.aload_n 1) 1 241 := ⟨by decide +kernel, rfl⟩
theorem dL_law_241 : ml_d cL_law 241 (.aload_n 0) 1 242 := ⟨by decide +kernel, rfl⟩
theorem dL_law_242 : ml_d cL_law 242 (.iload_n 3) 1 243 := ⟨by decide +kernel, rfl⟩
theorem dL_law_243 : ml_d cL_law 243 (.iconst 1) 1 244 := ⟨by decide +kernel, rfl⟩
theorem dL_law_244 : ml_d cL_law 244 (.iadd) 1 245 := ⟨by decide +kernel, rfl⟩
theorem dL_law_245 : ml_d cL_law 245 (.iaload) 1 246 := ⟨by decide +kernel, rfl⟩
theorem dL_law_246 : ml_d cL_law 246 (.aload_n 0) 1 247 := ⟨by decide +kernel, rfl⟩
theorem dL_law_247 : ml_d cL_law 247 (.iload_n 3) 1 248 := ⟨by decide +kernel, rfl⟩
theorem dL_law_248 : ml_d cL_law 248 (.iconst 2) 1 249 := ⟨by decide +kernel, rfl⟩
theorem dL_law_249 : ml_d cL_law 249 (.iadd) 1 250 := ⟨by decide +kernel, rfl⟩
theorem dL_law_250 : ml_d cL_law 250 (.iaload) 1 251 := ⟨by decide +kernel, rfl⟩
theorem dL_law_251 : ml_d cL_law 251 (.invokevirtual 13) 3 254 := ⟨by decide +kernel, rfl⟩
theorem dL_law_254 : ml_d cL_law 254 (.aload_n 2) 1 255 := ⟨by decide +kernel, rfl⟩
theorem dL_law_255 : ml_d cL_law 255 (.aload_n 0) 1 256 := ⟨by decide +kernel, rfl⟩
theorem dL_law_256 : ml_d cL_law 256 (.iload_n 3) 1 257 := ⟨by decide +kernel, rfl⟩
theorem dL_law_257 : ml_d cL_law 257 (.iconst 1) 1 258 := ⟨by decide +kernel, rfl⟩
theorem dL_law_258 : ml_d cL_law 258 (.iadd) 1 259 := ⟨by decide +kernel, rfl⟩
theorem dL_law_259 : ml_d cL_law 259 (.iaload) 1 260 := ⟨by decide +kernel, rfl⟩
theorem dL_law_260 : ml_d cL_law 260 (.aload_n 0) 1 261 := ⟨by decide +kernel, rfl⟩
theorem dL_law_261 : ml_d cL_law 261 (.iload_n 3) 1 262 := ⟨by decide +kernel, rfl⟩
theorem dL_law_262 : ml_d cL_law 262 (.iconst 2) 1 263 := ⟨by decide +kernel, rfl⟩
theorem dL_law_263 : ml_d cL_law 263 (.iadd) 1 264 := ⟨by decide +kernel, rfl⟩
theorem dL_law_264 : ml_d cL_law 264 (.iaload) 1 265 := ⟨by decide +kernel, rfl⟩
theorem dL_law_265 : ml_d cL_law 265 (.invokevirtual 17) 3 268 := ⟨by decide +kernel, rfl⟩
theorem dL_law_268 : ml_j cL_law 268 (.if_icmp .eq) 1572 271 := ⟨1304, by decide +kernel, by decide, rfl⟩
theorem dL_law_271 : ml_d cL_law 271 (.iconst 0) 1 272 := ⟨by decide +kernel, rfl⟩
theorem dL_law_272 : ml_d cL_law 272 (.ireturn) 1 273 := ⟨by decide +kernel, rfl⟩
theorem dL_law_273 : ml_d cL_law 273 (.aload_n 1) 1 274 := ⟨by decide +kernel, rfl⟩
theorem dL_law_274 : ml_d cL_law 274 (.aload_n 0) 1 275 := ⟨by decide +kernel, rfl⟩
theorem dL_law_275 : ml_d cL_law 275 (.iload_n 3) 1 276 := ⟨by decide +kernel, rfl⟩
theorem dL_law_276 : ml_d cL_law 276 (.iconst 1) 1 277 := ⟨by decide +kernel, rfl⟩
theorem dL_law_277 : ml_d cL_law 277 (.iadd) 1 278 := ⟨by decide +kernel, rfl⟩
theorem dL_law_278 : ml_d cL_law 278 (.iaload) 1 279 := ⟨by decide +kernel, rfl⟩
theorem dL_law_279 : ml_d cL_law 279 (.aload_n 0) 1 280 := ⟨by decide +kernel, rfl⟩
theorem dL_law_280 : ml_d cL_law 280 (.iload_n 3) 1 281 := ⟨by decide +kernel, rfl⟩
theorem dL_law_281 : ml_d cL_law 281 (.iconst 2) 1 282 := ⟨by decide +kernel, rfl⟩
theorem dL_law_282 : ml_d cL_law 282 (.iadd) 1 283 := ⟨by decide +kernel, rfl⟩
theorem dL_law_283 : ml_d cL_law 283 (.iaload) 1 284 := ⟨by decide +kernel, rfl⟩
theorem dL_law_284 : ml_d cL_law 284 (.aload_n 0) 1 285 := ⟨by decide +kernel, rfl⟩
theorem dL_law_285 : ml_d cL_law 285 (.iload_n 3) 1 286 := ⟨by decide +kernel, rfl⟩
theorem dL_law_286 : ml_d cL_law 286 (.iconst 3) 1 287 := ⟨by decide +kernel, rfl⟩
theorem dL_law_287 : ml_d cL_law 287 (.iadd) 1 288 := ⟨by decide +kernel, rfl⟩
theorem dL_law_288 : ml_d cL_law 288 (.iaload) 1 289 := ⟨by decide +kernel, rfl⟩
theorem dL_law_289 : ml_d cL_law 289 (.invokevirtual 18) 3 292 := ⟨by decide +kernel, rfl⟩
theorem dL_law_292 : ml_d cL_law 292 (.aload_n 2) 1 293 := ⟨by decide +kernel, rfl⟩
theorem dL_law_293 : ml_d cL_law 293 (.aload_n 0) 1 294 := ⟨by decide +kernel, rfl⟩
theorem dL_law_294 : ml_d cL_law 294 (.iload_n 3) 1 295 := ⟨by decide +kernel, rfl⟩
theorem dL_law_295 : ml_d cL_law 295 (.iconst 1) 1 296 := ⟨by decide +kernel, rfl⟩
theorem dL_law_296 : ml_d cL_law 296 (.iadd) 1 297 := ⟨by decide +kernel, rfl⟩
theorem dL_law_297 : ml_d cL_law 297 (.iaload) 1 298 := ⟨by decide +kernel, rfl⟩
theorem dL_law_298 : ml_d cL_law 298 (.aload_n 0) 1 299 := ⟨by decide +kernel, rfl⟩
theorem dL_law_299 : ml_d cL_law 299 (.iload_n 3) 1 300 := ⟨by decide +kernel, rfl⟩
theorem dL_law_300 : ml_d cL_law 300 (.iconst 2) 1 301 := ⟨by decide +kernel, rfl⟩
theorem dL_law_301 : ml_d cL_law 301 (.iadd) 1 302 := ⟨by decide +kernel, rfl⟩
theorem dL_law_302 : ml_d cL_law 302 (.iaload) 1 303 := ⟨by decide +kernel, rfl⟩
theorem dL_law_303 : ml_d cL_law 303 (.aload_n 0) 1 304 := ⟨by decide +kernel, rfl⟩
theorem dL_law_304 : ml_d cL_law 304 (.iload_n 3) 1 305 := ⟨by decide +kernel, rfl⟩
theorem dL_law_305 : ml_d cL_law 305 (.iconst 3) 1 306 := ⟨by decide +kernel, rfl⟩
theorem dL_law_306 : ml_d cL_law 306 (.iadd) 1 307 := ⟨by decide +kernel, rfl⟩
theorem dL_law_307 : ml_d cL_law 307 (.iaload) 1 308 := ⟨by decide +kernel, rfl⟩
theorem dL_law_308 : ml_d cL_law 308 (.invokevirtual 22) 3 311 := ⟨by decide +kernel, rfl⟩
theorem dL_law_311 : ml_j cL_law 311 (.if_icmp .eq) 1572 314 := ⟨1261, by decide +kernel, by decide, rfl⟩
theorem dL_law_314 : ml_d cL_law 314 (.iconst 0) 1 315 := ⟨by decide +kernel, rfl⟩
theorem dL_law_315 : ml_d cL_law 315 (.ireturn) 1 316 := ⟨by decide +kernel, rfl⟩
theorem dL_law_316 : ml_d cL_law 316 (.aload_n 1) 1 317 := ⟨by decide +kernel, rfl⟩
theorem dL_law_317 : ml_d cL_law 317 (.aload_n 0) 1 318 := ⟨by decide +kernel, rfl⟩
theorem dL_law_318 : ml_d cL_law 318 (.iload_n 3) 1 319 := ⟨by decide +kernel, rfl⟩
theorem dL_law_319 : ml_d cL_law 319 (.iconst 1) 1 320 := ⟨by decide +kernel, rfl⟩
theorem dL_law_320 : ml_d cL_law 320 (.iadd) 1 321 := ⟨by decide +kernel, rfl⟩
theorem dL_law_321 : ml_d cL_law 321 (.iaload) 1 322 := ⟨by decide +kernel, rfl⟩
theorem dL_law_322 : ml_d cL_law 322 (.aload_n 0) 1 323 := ⟨by decide +kernel, rfl⟩
theorem dL_law_323 : ml_d cL_law 323 (.iload_n 3) 1 324 := ⟨by decide +kernel, rfl⟩
theorem dL_law_324 : ml_d cL_law 324 (.iconst 2) 1 325 := ⟨by decide +kernel, rfl⟩
theorem dL_law_325 : ml_d cL_law 325 (.iadd) 1 326 := ⟨by decide +kernel, rfl⟩
theorem dL_law_326 : ml_d cL_law 326 (.iaload) 1 327 := ⟨by decide +kernel, rfl⟩
theorem dL_law_327 : ml_d cL_law 327 (.invokevirtual 23) 3 330 := ⟨by decide +kernel, rfl⟩
theorem dL_law_330 : ml_d cL_law 330 (.aload_n 2) 1 331 := ⟨by decide +kernel, rfl⟩
theorem dL_law_331 : ml_d cL_law 331 (.aload_n 0) 1 332 := ⟨by decide +kernel, rfl⟩
theorem dL_law_332 : ml_d cL_law 332 (.iload_n 3) 1 333 := ⟨by decide +kernel, rfl⟩
theorem dL_law_333 : ml_d cL_law 333 (.iconst 1) 1 334 := ⟨by decide +kernel, rfl⟩
theorem dL_law_334 : ml_d cL_law 334 (.iadd) 1 335 := ⟨by decide +kernel, rfl⟩
theorem dL_law_335 : ml_d cL_law 335 (.iaload) 1 336 := ⟨by decide +kernel, rfl⟩
theorem dL_law_336 : ml_d cL_law 336 (.aload_n 0) 1 337 := ⟨by decide +kernel, rfl⟩
theorem dL_law_337 : ml_d cL_law 337 (.iload_n 3) 1 338 := ⟨by decide +kernel, rfl⟩
theorem dL_law_338 : ml_d cL_law 338 (.iconst 2) 1 339 := ⟨by decide +kernel, rfl⟩
theorem dL_law_339 : ml_d cL_law 339 (.iadd) 1 340 := ⟨by decide +kernel, rfl⟩
theorem dL_law_340 : ml_d cL_law 340 (.iaload) 1 341 := ⟨by decide +kernel, rfl⟩
theorem dL_law_341 : ml_d cL_law 341 (.invokevirtual 26) 3 344 := ⟨by decide +kernel, rfl⟩
theorem dL_law_344 : ml_j cL_law 344 (.if_icmp .eq) 1572 347 := ⟨1228, by decide +kernel, by decide, rfl⟩
theorem dL_law_347 : ml_d cL_law 347 (.iconst 0) 1 348 := ⟨by decide +kernel, rfl⟩
theorem dL_law_348 : ml_d cL_law 348 (.ireturn) 1 349 := ⟨by decide +kernel, rfl⟩
theorem dL_law_349 : ml_d cL_law 349 (.aload_n 1) 1 350 := ⟨by decide +kernel, rfl⟩
theorem dL_law_350 : ml_d cL_law 350 (.aload_n 0) 1 351 := ⟨by decide +kernel, rfl⟩
theorem dL_law_351 : ml_d cL_law 351 (.iload_n 3) 1 352 := ⟨by decide +kernel, rfl⟩
theorem dL_law_352 : ml_d cL_law 352 (.iconst 1) 1 353 := ⟨by decide +kernel, rfl⟩
theorem dL_law_353 : ml_d cL_law 353 (.iadd) 1 354 := ⟨by decide +kernel, rfl⟩
theorem dL_law_354 : ml_d cL_law 354 (.iaload) 1 355 := ⟨by decide +kernel, rfl⟩
theorem dL_law_355 : ml_d cL_law 355 (.invokevirtual 27) 3 358 := ⟨by decide +kernel, rfl⟩
theorem dL_law_358 : ml_d cL_law 358 (.aload_n 2) 1 359 := ⟨by decide +kernel, rfl⟩
theorem dL_law_359 : ml_d cL_law 359 (.aload_n 0) 1 360 := ⟨by decide +kernel, rfl⟩
theorem dL_law_360 : ml_d cL_law 360 (.iload_n 3) 1 361 := ⟨by decide +kernel, rfl⟩
theorem dL_law_361 : ml_d cL_law 361 (.iconst 1) 1 362 := ⟨by decide +kernel, rfl⟩
theorem dL_law_362 : ml_d cL_law 362 (.iadd) 1 363 := ⟨by decide +kernel, rfl⟩
theorem dL_law_363 : ml_d cL_law 363 (.iaload) 1 364 := ⟨by decide +kernel, rfl⟩
theorem dL_law_364 : ml_d cL_law 364 (.invokevirtual 31) 3 367 := ⟨by decide +kernel, rfl⟩
theorem dL_law_367 : ml_j cL_law 367 (.if_icmp .eq) 1572 370 := ⟨1205, by decide +kernel, by decide, rfl⟩
theorem dL_law_370 : ml_d cL_law 370 (.iconst 0) 1 371 := ⟨by decide +kernel, rfl⟩
theorem dL_law_371 : ml_d cL_law 371 (.ireturn) 1 372 := ⟨by decide +kernel, rfl⟩
theorem dL_law_372 : ml_d cL_law 372 (.aload_n 1) 1 373 := ⟨by decide +kernel, rfl⟩
theorem dL_law_373 : ml_d cL_law 373 (.aload_n 0) 1 374 := ⟨by decide +kernel, rfl⟩
theorem dL_law_374 : ml_d cL_law 374 (.iload_n 3) 1 375 := ⟨by decide +kernel, rfl⟩
theorem dL_law_375 : ml_d cL_law 375 (.iconst 1) 1 376 := ⟨by decide +kernel, rfl⟩
theorem dL_law_376 : ml_d cL_law 376 (.iadd) 1 377 := ⟨by decide +kernel, rfl⟩
theorem dL_law_377 : ml_d cL_law 377 (.iaload) 1 378 := ⟨by decide +kernel, rfl⟩
theorem dL_law_378 : ml_d cL_law 378 (.aload_n 0) 1 379 := ⟨by decide +kernel, rfl⟩
theorem dL_law_379 : ml_d cL_law 379 (.iload_n 3) 1 380 := ⟨by decide +kernel, rfl⟩
theorem dL_law_380 : ml_d cL_law 380 (.iconst 2) 1 381 := ⟨by decide +kernel, rfl⟩
theorem dL_law_381 : ml_d cL_law 381 (.iadd) 1 382 := ⟨by decide +kernel, rfl⟩
theorem dL_law_382 : ml_d cL_law 382 (.iaload) 1 383 := ⟨by decide +kernel, rfl⟩
theorem dL_law_383 : ml_d cL_law 383 (.aload_n 0) 1 384 := ⟨by decide +kernel, rfl⟩
theorem dL_law_384 : ml_d cL_law 384 (.iload_n 3) 1 385 := ⟨by decide +kernel, rfl⟩
theorem dL_law_385 : ml_d cL_law 385 (.iconst 3) 1 386 := ⟨by decide +kernel, rfl⟩
theorem dL_law_386 : ml_d cL_law 386 (.iadd) 1 387 := ⟨by decide +kernel, rfl⟩
theorem dL_law_387 : ml_d cL_law 387 (.iaload) 1 388 := ⟨by decide +kernel, rfl⟩
theorem dL_law_388 : ml_d cL_law 388 (.aload_n 0) 1 389 := ⟨by decide +kernel, rfl⟩
theorem dL_law_389 : ml_d cL_law 389 (.iload_n 3) 1 390 := ⟨by decide +kernel, rfl⟩
theorem dL_law_390 : ml_d cL_law 390 (.iconst 4) 1 391 := ⟨by decide +kernel, rfl⟩
theorem dL_law_391 : ml_d cL_law 391 (.iadd) 1 392 := ⟨by decide +kernel, rfl⟩
theorem dL_law_392 : ml_d cL_law 392 (.iaload) 1 393 := ⟨by decide +kernel, rfl⟩
theorem dL_law_393 : ml_d cL_law 393 (.aload_n 0) 1 394 := ⟨by decide +kernel, rfl⟩
theorem dL_law_394 : ml_d cL_law 394 (.iload_n 3) 1 395 := ⟨by decide +kernel, rfl⟩
theorem dL_law_395 : ml_d cL_law 395 (.iconst 5) 1 396 := ⟨by decide +kernel, rfl⟩
theorem dL_law_396 : ml_d cL_law 396 (.iadd) 1 397 := ⟨by decide +kernel, rfl⟩
theorem dL_law_397 : ml_d cL_law 397 (.iaload) 1 398 := ⟨by decide +kernel, rfl⟩
theorem dL_law_398 : ml_d cL_law 398 (.invokevirtual 32) 3 401 := ⟨by decide +kernel, rfl⟩
theorem dL_law_401 : ml_d cL_law 401 (.aload_n 2) 1 402 := ⟨by decide +kernel, rfl⟩
theorem dL_law_402 : ml_d cL_law 402 (.aload_n 0) 1 403 := ⟨by decide +kernel, rfl⟩
theorem dL_law_403 : ml_d cL_law 403 (.iload_n 3) 1 404 := ⟨by decide +kernel, rfl⟩
theorem dL_law_404 : ml_d cL_law 404 (.iconst 1) 1 405 := ⟨by decide +kernel, rfl⟩
theorem dL_law_405 : ml_d cL_law 405 (.iadd) 1 406 := ⟨by decide +kernel, rfl⟩
theorem dL_law_406 : ml_d cL_law 406 (.iaload) 1 407 := ⟨by decide +kernel, rfl⟩
theorem dL_law_407 : ml_d cL_law 407 (.aload_n 0) 1 408 := ⟨by decide +kernel, rfl⟩
theorem dL_law_408 : ml_d cL_law 408 (.iload_n 3) 1 409 := ⟨by decide +kernel, rfl⟩
theorem dL_law_409 : ml_d cL_law 409 (.iconst 2) 1 410 := ⟨by decide +kernel, rfl⟩
theorem dL_law_410 : ml_d cL_law 410 (.iadd) 1 411 := ⟨by decide +kernel, rfl⟩
theorem dL_law_411 : ml_d cL_law 411 (.iaload) 1 412 := ⟨by decide +kernel, rfl⟩
theorem dL_law_412 : ml_d cL_law 412 (.aload_n 0) 1 413 := ⟨by decide +kernel, rfl⟩
theorem dL_law_413 : ml_d cL_law 413 (.iload_n 3) 1 414 := ⟨by decide +kernel, rfl⟩
theorem dL_law_414 : ml_d cL_law 414 (.iconst 3) 1 415 := ⟨by decide +kernel, rfl⟩
theorem dL_law_415 : ml_d cL_law 415 (.iadd) 1 416 := ⟨by decide +kernel, rfl⟩
theorem dL_law_416 : ml_d cL_law 416 (.iaload) 1 417 := ⟨by decide +kernel, rfl⟩
theorem dL_law_417 : ml_d cL_law 417 (.aload_n 0) 1 418 := ⟨by decide +kernel, rfl⟩
theorem dL_law_418 : ml_d cL_law 418 (.iload_n 3) 1 419 := ⟨by decide +kernel, rfl⟩
theorem dL_law_419 : ml_d cL_law 419 (.iconst 4) 1 420 := ⟨by decide +kernel, rfl⟩
theorem dL_law_420 : ml_d cL_law 420 (.iadd) 1 421 := ⟨by decide +kernel, rfl⟩
theorem dL_law_421 : ml_d cL_law 421 (.iaload) 1 422 := ⟨by decide +kernel, rfl⟩
theorem dL_law_422 : ml_d cL_law 422 (.aload_n 0) 1 423 := ⟨by decide +kernel, rfl⟩
theorem dL_law_423 : ml_d cL_law 423 (.iload_n 3) 1 424 := ⟨by decide +kernel, rfl⟩
theorem dL_law_424 : ml_d cL_law 424 (.iconst 5) 1 425 := ⟨by decide +kernel, rfl⟩
theorem dL_law_425 : ml_d cL_law 425 (.iadd) 1 426 := ⟨by decide +kernel, rfl⟩
theorem dL_law_426 : ml_d cL_law 426 (.iaload) 1 427 := ⟨by decide +kernel, rfl⟩
theorem dL_law_427 : ml_d cL_law 427 (.invokevirtual 36) 3 430 := ⟨by decide +kernel, rfl⟩
theorem dL_law_430 : ml_j cL_law 430 (.if_icmp .eq) 1572 433 := ⟨1142, by decide +kernel, by decide, rfl⟩
theorem dL_law_433 : ml_d cL_law 433 (.iconst 0) 1 434 := ⟨by decide +kernel, rfl⟩
theorem dL_law_434 : ml_d cL_law 434 (.ireturn) 1 435 := ⟨by decide +kernel, rfl⟩
theorem dL_law_435 : ml_d cL_law 435 (.aload_n 1) 1 436 := ⟨by decide +kernel, rfl⟩
theorem dL_law_436 : ml_d cL_law 436 (.aload_n 0) 1 437 := ⟨by decide +kernel, rfl⟩
theorem dL_law_437 : ml_d cL_law 437 (.iload_n 3) 1 438 := ⟨by decide +kernel, rfl⟩
theorem dL_law_438 : ml_d cL_law 438 (.iconst 1) 1 439 := ⟨by decide +kernel, rfl⟩
theorem dL_law_439 : ml_d cL_law 439 (.iadd) 1 440 := ⟨by decide +kernel, rfl⟩
theorem dL_law_440 : ml_d cL_law 440 (.iaload) 1 441 := ⟨by decide +kernel, rfl⟩
theorem dL_law_441 : ml_d cL_law 441 (.invokevirtual 37) 3 444 := ⟨by decide +kernel, rfl⟩
theorem dL_law_444 : ml_d cL_law 444 (.aload_n 2) 1 445 := ⟨by decide +kernel, rfl⟩
theorem dL_law_445 : ml_d cL_law 445 (.aload_n 0) 1 446 := ⟨by decide +kernel, rfl⟩
theorem dL_law_446 : ml_d cL_law 446 (.iload_n 3) 1 447 := ⟨by decide +kernel, rfl⟩
theorem dL_law_447 : ml_d cL_law 447 (.iconst 1) 1 448 := ⟨by decide +kernel, rfl⟩
theorem dL_law_448 : ml_d cL_law 448 (.iadd) 1 449 := ⟨by decide +kernel, rfl⟩
theorem dL_law_449 : ml_d cL_law 449 (.iaload) 1 450 := ⟨by decide +kernel, rfl⟩
theorem dL_law_450 : ml_d cL_law 450 (.invokevirtual 40) 3 453 := ⟨by decide +kernel, rfl⟩
theorem dL_law_453 : ml_j cL_law 453 (.if_icmp .eq) 1572 456 := ⟨1119, by decide +kernel, by decide, rfl⟩
theorem dL_law_456 : ml_d cL_law 456 (.iconst 0) 1 457 := ⟨by decide +kernel, rfl⟩
theorem dL_law_457 : ml_d cL_law 457 (.ireturn) 1 458 := ⟨by decide +kernel, rfl⟩
theorem dL_law_458 : ml_d cL_law 458 (.aload_n 1) 1 459 := ⟨by decide +kernel, rfl⟩
theorem dL_law_459 : ml_d cL_law 459 (.aload_n 0) 1 460 := ⟨by decide +kernel, rfl⟩
theorem dL_law_460 : ml_d cL_law 460 (.iload_n 3) 1 461 := ⟨by decide +kernel, rfl⟩
theorem dL_law_461 : ml_d cL_law 461 (.iconst 1) 1 462 := ⟨by decide +kernel, rfl⟩
theorem dL_law_462 : ml_d cL_law 462 (.iadd) 1 463 := ⟨by decide +kernel, rfl⟩
theorem dL_law_463 : ml_d cL_law 463 (.iaload) 1 464 := ⟨by decide +kernel, rfl⟩
theorem dL_law_464 : ml_d cL_law 464 (.aload_n 0) 1 465 := ⟨by decide +kernel, rfl⟩
theorem dL_law_465 : ml_d cL_law 465 (.iload_n 3) 1 466 := ⟨by decide +kernel, rfl⟩
theorem dL_law_466 : ml_d cL_law 466 (.iconst 2) 1 467 := ⟨by decide +kernel, rfl⟩
theorem dL_law_467 : ml_d cL_law 467 (.iadd) 1 468 := ⟨by decide +kernel, rfl⟩
theorem dL_law_468 : ml_d cL_law 468 (.iaload) 1 469 := ⟨by decide +kernel, rfl⟩
theorem dL_law_469 : ml_d cL_law 469 (.invokevirtual 41) 3 472 := ⟨by decide +kernel, rfl⟩
theorem dL_law_472 : ml_d cL_law 472 (.aload_n 2) 1 473 := ⟨by decide +kernel, rfl⟩
theorem dL_law_473 : ml_d cL_law 473 (.aload_n 0) 1 474 := ⟨by decide +kernel, rfl⟩
theorem dL_law_474 : ml_d cL_law 474 (.iload_n 3) 1 475 := ⟨by decide +kernel, rfl⟩
theorem dL_law_475 : ml_d cL_law 475 (.iconst 1) 1 476 := ⟨by decide +kernel, rfl⟩
theorem dL_law_476 : ml_d cL_law 476 (.iadd) 1 477 := ⟨by decide +kernel, rfl⟩
theorem dL_law_477 : ml_d cL_law 477 (.iaload) 1 478 := ⟨by decide +kernel, rfl⟩
theorem dL_law_478 : ml_d cL_law 478 (.aload_n 0) 1 479 := ⟨by decide +kernel, rfl⟩
theorem dL_law_479 : ml_d cL_law 479 (.iload_n 3) 1 480 := ⟨by decide +kernel, rfl⟩
theorem dL_law_480 : ml_d cL_law 480 (.iconst 2) 1 481 := ⟨by decide +kernel, rfl⟩
theorem dL_law_481 : ml_d cL_law 481 (.iadd) 1 482 := ⟨by decide +kernel, rfl⟩
theorem dL_law_482 : ml_d cL_law 482 (.iaload) 1 483 := ⟨by decide +kernel, rfl⟩
theorem dL_law_483 : ml_d cL_law 483 (.invokevirtual 44) 3 486 := ⟨by decide +kernel, rfl⟩
theorem dL_law_486 : ml_j cL_law 486 (.if_icmp .eq) 1572 489 := ⟨1086, by decide +kernel, by decide, rfl⟩
theorem dL_law_489 : ml_d cL_law 489 (.iconst 0) 1 490 := ⟨by decide +kernel, rfl⟩
theorem dL_law_490 : ml_d cL_law 490 (.ireturn) 1 491 := ⟨by decide +kernel, rfl⟩
theorem dL_law_491 : ml_d cL_law 491 (.aload_n 1) 1 492 := ⟨by decide +kernel, rfl⟩
theorem dL_law_492 : ml_d cL_law 492 (.aload_n 0) 1 493 := ⟨by decide +kernel, rfl⟩
theorem dL_law_493 : ml_d cL_law 493 (.iload_n 3) 1 494 := ⟨by decide +kernel, rfl⟩
theorem dL_law_494 : ml_d cL_law 494 (.iconst 1) 1 495 := ⟨by decide +kernel, rfl⟩
theorem dL_law_495 : ml_d cL_law 495 (.iadd) 1 496 := ⟨by decide +kernel, rfl⟩
theorem dL_law_496 : ml_d cL_law 496 (.iaload) 1 497 := ⟨by decide +kernel, rfl⟩
theorem dL_law_497 : ml_d cL_law 497 (.aload_n 0) 1 498 := ⟨by decide +kernel, rfl⟩
theorem dL_law_498 : ml_d cL_law 498 (.iload_n 3) 1 499 := ⟨by decide +kernel, rfl⟩
theorem dL_law_499 : ml_d cL_law 499 (.iconst 2) 1 500 := ⟨by decide +kernel, rfl⟩
theorem dL_law_500 : ml_d cL_law 500 (.iadd) 1 501 := ⟨by decide +kernel, rfl⟩
theorem dL_law_501 : ml_d cL_law 501 (.iaload) 1 502 := ⟨by decide +kernel, rfl⟩
theorem dL_law_502 : ml_d cL_law 502 (.aload_n 0) 1 503 := ⟨by decide +kernel, rfl⟩
theorem dL_law_503 : ml_d cL_law 503 (.iload_n 3) 1 504 := ⟨by decide +kernel, rfl⟩
theorem dL_law_504 : ml_d cL_law 504 (.iconst 3) 1 505 := ⟨by decide +kernel, rfl⟩
theorem dL_law_505 : ml_d cL_law 505 (.iadd) 1 506 := ⟨by decide +kernel, rfl⟩
theorem dL_law_506 : ml_d cL_law 506 (.iaload) 1 507 := ⟨by decide +kernel, rfl⟩
theorem dL_law_507 : ml_d cL_law 507 (.invokevirtual 45) 3 510 := ⟨by decide +kernel, rfl⟩
theorem dL_law_510 : ml_d cL_law 510 (.aload_n 2) 1 511 := ⟨by decide +kernel, rfl⟩
theorem dL_law_511 : ml_d cL_law 511 (.aload_n 0) 1 512 := ⟨by decide +kernel, rfl⟩
theorem dL_law_512 : ml_d cL_law 512 (.iload_n 3) 1 513 := ⟨by decide +kernel, rfl⟩
theorem dL_law_513 : ml_d cL_law 513 (.iconst 1) 1 514 := ⟨by decide +kernel, rfl⟩
theorem dL_law_514 : ml_d cL_law 514 (.iadd) 1 515 := ⟨by decide +kernel, rfl⟩
theorem dL_law_515 : ml_d cL_law 515 (.iaload) 1 516 := ⟨by decide +kernel, rfl⟩
theorem dL_law_516 : ml_d cL_law 516 (.aload_n 0) 1 517 := ⟨by decide +kernel, rfl⟩
theorem dL_law_517 : ml_d cL_law 517 (.iload_n 3) 1 518 := ⟨by decide +kernel, rfl⟩
theorem dL_law_518 : ml_d cL_law 518 (.iconst 2) 1 519 := ⟨by decide +kernel, rfl⟩
theorem dL_law_519 : ml_d cL_law 519 (.iadd) 1 520 := ⟨by decide +kernel, rfl⟩
theorem dL_law_520 : ml_d cL_law 520 (.iaload) 1 521 := ⟨by decide +kernel, rfl⟩
theorem dL_law_521 : ml_d cL_law 521 (.aload_n 0) 1 522 := ⟨by decide +kernel, rfl⟩
theorem dL_law_522 : ml_d cL_law 522 (.iload_n 3) 1 523 := ⟨by decide +kernel, rfl⟩
theorem dL_law_523 : ml_d cL_law 523 (.iconst 3) 1 524 := ⟨by decide +kernel, rfl⟩
theorem dL_law_524 : ml_d cL_law 524 (.iadd) 1 525 := ⟨by decide +kernel, rfl⟩
theorem dL_law_525 : ml_d cL_law 525 (.iaload) 1 526 := ⟨by decide +kernel, rfl⟩
theorem dL_law_526 : ml_d cL_law 526 (.invokevirtual 48) 3 529 := ⟨by decide +kernel, rfl⟩
theorem dL_law_529 : ml_j cL_law 529 (.if_icmp .eq) 1572 532 := ⟨1043, by decide +kernel, by decide, rfl⟩
theorem dL_law_532 : ml_d cL_law 532 (.iconst 0) 1 533 := ⟨by decide +kernel, rfl⟩
theorem dL_law_533 : ml_d cL_law 533 (.ireturn) 1 534 := ⟨by decide +kernel, rfl⟩
theorem dL_law_534 : ml_d cL_law 534 (.aload_n 1) 1 535 := ⟨by decide +kernel, rfl⟩
theorem dL_law_535 : ml_d cL_law 535 (.aload_n 0) 1 536 := ⟨by decide +kernel, rfl⟩
theorem dL_law_536 : ml_d cL_law 536 (.iload_n 3) 1 537 := ⟨by decide +kernel, rfl⟩
theorem dL_law_537 : ml_d cL_law 537 (.iconst 1) 1 538 := ⟨by decide +kernel, rfl⟩
theorem dL_law_538 : ml_d cL_law 538 (.iadd) 1 539 := ⟨by decide +kernel, rfl⟩
theorem dL_law_539 : ml_d cL_law 539 (.iaload) 1 540 := ⟨by decide +kernel, rfl⟩
theorem dL_law_540 : ml_d cL_law 540 (.invokevirtual 49) 3 543 := ⟨by decide +kernel, rfl⟩
theorem dL_law_543 : ml_d cL_law 543 (.aload_n 2) 1 544 := ⟨by decide +kernel, rfl⟩
theorem dL_law_544 : ml_d cL_law 544 (.aload_n 0) 1 545 := ⟨by decide +kernel, rfl⟩
theorem dL_law_545 : ml_d cL_law 545 (.iload_n 3) 1 546 := ⟨by decide +kernel, rfl⟩
theorem dL_law_546 : ml_d cL_law 546 (.iconst 1) 1 547 := ⟨by decide +kernel, rfl⟩
theorem dL_law_547 : ml_d cL_law 547 (.iadd) 1 548 := ⟨by decide +kernel, rfl⟩
theorem dL_law_548 : ml_d cL_law 548 (.iaload) 1 549 := ⟨by decide +kernel, rfl⟩
theorem dL_law_549 : ml_d cL_law 549 (.invokevirtual 52) 3 552 := ⟨by decide +kernel, rfl⟩
theorem dL_law_552 : ml_j cL_law 552 (.if_icmp .eq) 1572 555 := ⟨1020, by decide +kernel, by decide, rfl⟩
theorem dL_law_555 : ml_d cL_law 555 (.iconst 0) 1 556 := ⟨by decide +kernel, rfl⟩
theorem dL_law_556 : ml_d cL_law 556 (.ireturn) 1 557 := ⟨by decide +kernel, rfl⟩
theorem dL_law_557 : ml_d cL_law 557 (.aload_n 1) 1 558 := ⟨by decide +kernel, rfl⟩
theorem dL_law_558 : ml_d cL_law 558 (.aload_n 0) 1 559 := ⟨by decide +kernel, rfl⟩
theorem dL_law_559 : ml_d cL_law 559 (.iload_n 3) 1 560 := ⟨by decide +kernel, rfl⟩
theorem dL_law_560 : ml_d cL_law 560 (.iconst 1) 1 561 := ⟨by decide +kernel, rfl⟩
theorem dL_law_561 : ml_d cL_law 561 (.iadd) 1 562 := ⟨by decide +kernel, rfl⟩
theorem dL_law_562 : ml_d cL_law 562 (.iaload) 1 563 := ⟨by decide +kernel, rfl⟩
theorem dL_law_563 : ml_d cL_law 563 (.invokevirtual 53) 3 566 := ⟨by decide +kernel, rfl⟩
theorem dL_law_566 : ml_d cL_law 566 (.aload_n 2) 1 567 := ⟨by decide +kernel, rfl⟩
theorem dL_law_567 : ml_d cL_law 567 (.aload_n 0) 1 568 := ⟨by decide +kernel, rfl⟩
theorem dL_law_568 : ml_d cL_law 568 (.iload_n 3) 1 569 := ⟨by decide +kernel, rfl⟩
theorem dL_law_569 : ml_d cL_law 569 (.iconst 1) 1 570 := ⟨by decide +kernel, rfl⟩
theorem dL_law_570 : ml_d cL_law 570 (.iadd) 1 571 := ⟨by decide +kernel, rfl⟩
theorem dL_law_571 : ml_d cL_law 571 (.iaload) 1 572 := ⟨by decide +kernel, rfl⟩
theorem dL_law_572 : ml_d cL_law 572 (.invokevirtual 56) 3 575 := ⟨by decide +kernel, rfl⟩
theorem dL_law_575 : ml_j cL_law 575 (.if_icmp .eq) 1572 578 := ⟨997, by decide +kernel, by decide, rfl⟩
theorem dL_law_578 : ml_d cL_law 578 (.iconst 0) 1 579 := ⟨by decide +kernel, rfl⟩
theorem dL_law_579 : ml_d cL_law 579 (.ireturn) 1 580 := ⟨by decide +kernel, rfl⟩
theorem dL_law_580 : ml_d cL_law 580 (.aload_n 1) 1 581 := ⟨by decide +kernel, rfl⟩
theorem dL_law_581 : ml_d cL_law 581 (.aload_n 0) 1 582 := ⟨by decide +kernel, rfl⟩
theorem dL_law_582 : ml_d cL_law 582 (.iload_n 3) 1 583 := ⟨by decide +kernel, rfl⟩
theorem dL_law_583 : ml_d cL_law 583 (.iconst 1) 1 584 := ⟨by decide +kernel, rfl⟩
theorem dL_law_584 : ml_d cL_law 584 (.iadd) 1 585 := ⟨by decide +kernel, rfl⟩
theorem dL_law_585 : ml_d cL_law 585 (.iaload) 1 586 := ⟨by decide +kernel, rfl⟩
theorem dL_law_586 : ml_d cL_law 586 (.invokevirtual 57) 3 589 := ⟨by decide +kernel, rfl⟩
theorem dL_law_589 : ml_d cL_law 589 (.aload_n 2) 1 590 := ⟨by decide +kernel, rfl⟩
theorem dL_law_590 : ml_d cL_law 590 (.aload_n 0) 1 591 := ⟨by decide +kernel, rfl⟩
theorem dL_law_591 : ml_d cL_law 591 (.iload_n 3) 1 592 := ⟨by decide +kernel, rfl⟩
theorem dL_law_592 : ml_d cL_law 592 (.iconst 1) 1 593 := ⟨by decide +kernel, rfl⟩
theorem dL_law_593 : ml_d cL_law 593 (.iadd) 1 594 := ⟨by decide +kernel, rfl⟩
theorem dL_law_594 : ml_d cL_law 594 (.iaload) 1 595 := ⟨by decide +kernel, rfl⟩
theorem dL_law_595 : ml_d cL_law 595 (.invokevirtual 60) 3 598 := ⟨by decide +kernel, rfl⟩
theorem dL_law_598 : ml_j cL_law 598 (.if_icmp .eq) 1572 601 := ⟨974, by decide +kernel, by decide, rfl⟩
theorem dL_law_601 : ml_d cL_law 601 (.iconst 0) 1 602 := ⟨by decide +kernel, rfl⟩
theorem dL_law_602 : ml_d cL_law 602 (.ireturn) 1 603 := ⟨by decide +kernel, rfl⟩
theorem dL_law_603 : ml_d cL_law 603 (.aload_n 1) 1 604 := ⟨by decide +kernel, rfl⟩
theorem dL_law_604 : ml_d cL_law 604 (.aload_n 0) 1 605 := ⟨by decide +kernel, rfl⟩
theorem dL_law_605 : ml_d cL_law 605 (.iload_n 3) 1 606 := ⟨by decide +kernel, rfl⟩
theorem dL_law_606 : ml_d cL_law 606 (.iconst 1) 1 607 := ⟨by decide +kernel, rfl⟩
theorem dL_law_607 : ml_d cL_law 607 (.iadd) 1 608 := ⟨by decide +kernel, rfl⟩
theorem dL_law_608 : ml_d cL_law 608 (.iaload) 1 609 := ⟨by decide +kernel, rfl⟩
theorem dL_law_609 : ml_d cL_law 609 (.aload_n 0) 1 610 := ⟨by decide +kernel, rfl⟩
theorem dL_law_610 : ml_d cL_law 610 (.iload_n 3) 1 611 := ⟨by decide +kernel, rfl⟩
theorem dL_law_611 : ml_d cL_law 611 (.iconst 2) 1 612 := ⟨by decide +kernel, rfl⟩
theorem dL_law_612 : ml_d cL_law 612 (.iadd) 1 613 := ⟨by decide +kernel, rfl⟩
theorem dL_law_613 : ml_d cL_law 613 (.iaload) 1 614 := ⟨by decide +kernel, rfl⟩
theorem dL_law_614 : ml_d cL_law 614 (.invokevirtual 61) 3 617 := ⟨by decide +kernel, rfl⟩
theorem dL_law_617 : ml_d cL_law 617 (.aload_n 2) 1 618 := ⟨by decide +kernel, rfl⟩
theorem dL_law_618 : ml_d cL_law 618 (.aload_n 0) 1 619 := ⟨by decide +kernel, rfl⟩
theorem dL_law_619 : ml_d cL_law 619 (.iload_n 3) 1 620 := ⟨by decide +kernel, rfl⟩
theorem dL_law_620 : ml_d cL_law 620 (.iconst 1) 1 621 := ⟨by decide +kernel, rfl⟩
theorem dL_law_621 : ml_d cL_law 621 (.iadd) 1 622 := ⟨by decide +kernel, rfl⟩
theorem dL_law_622 : ml_d cL_law 622 (.iaload) 1 623 := ⟨by decide +kernel, rfl⟩
theorem dL_law_623 : ml_d cL_law 623 (.aload_n 0) 1 624 := ⟨by decide +kernel, rfl⟩
theorem dL_law_624 : ml_d cL_law 624 (.iload_n 3) 1 625 := ⟨by decide +kernel, rfl⟩
theorem dL_law_625 : ml_d cL_law 625 (.iconst 2) 1 626 := ⟨by decide +kernel, rfl⟩
theorem dL_law_626 : ml_d cL_law 626 (.iadd) 1 627 := ⟨by decide +kernel, rfl⟩
theorem dL_law_627 : ml_d cL_law 627 (.iaload) 1 628 := ⟨by decide +kernel, rfl⟩
theorem dL_law_628 : ml_d cL_law 628 (.invokevirtual 64) 3 631 := ⟨by decide +kernel, rfl⟩
theorem dL_law_631 : ml_j cL_law 631 (.if_icmp .eq) 1572 634 := ⟨941, by decide +kernel, by decide, rfl⟩
theorem dL_law_634 : ml_d cL_law 634 (.iconst 0) 1 635 := ⟨by decide +kernel, rfl⟩
theorem dL_law_635 : ml_d cL_law 635 (.ireturn) 1 636 := ⟨by decide +kernel, rfl⟩
theorem dL_law_636 : ml_d cL_law 636 (.aload_n 1) 1 637 := ⟨by decide +kernel, rfl⟩
theorem dL_law_637 : ml_d cL_law 637 (.aload_n 0) 1 638 := ⟨by decide +kernel, rfl⟩
theorem dL_law_638 : ml_d cL_law 638 (.iload_n 3) 1 639 := ⟨by decide +kernel, rfl⟩
theorem dL_law_639 : ml_d cL_law 639 (.iconst 1) 1 640 := ⟨by decide +kernel, rfl⟩
theorem dL_law_640 : ml_d cL_law 640 (.iadd) 1 641 := ⟨by decide +kernel, rfl⟩
theorem dL_law_641 : ml_d cL_law 641 (.iaload) 1 642 := ⟨by decide +kernel, rfl⟩
theorem dL_law_642 : ml_d cL_law 642 (.aload_n 0) 1 643 := ⟨by decide +kernel, rfl⟩
theorem dL_law_643 : ml_d cL_law 643 (.iload_n 3) 1 644 := ⟨by decide +kernel, rfl⟩
theorem dL_law_644 : ml_d cL_law 644 (.iconst 2) 1 645 := ⟨by decide +kernel, rfl⟩
theorem dL_law_645 : ml_d cL_law 645 (.iadd) 1 646 := ⟨by decide +kernel, rfl⟩
theorem dL_law_646 : ml_d cL_law 646 (.iaload) 1 647 := ⟨by decide +kernel, rfl⟩
theorem dL_law_647 : ml_d cL_law 647 (.invokevirtual 65) 3 650 := ⟨by decide +kernel, rfl⟩
theorem dL_law_650 : ml_d cL_law 650 (.aload_n 2) 1 651 := ⟨by decide +kernel, rfl⟩
theorem dL_law_651 : ml_d cL_law 651 (.aload_n 0) 1 652 := ⟨by decide +kernel, rfl⟩
theorem dL_law_652 : ml_d cL_law 652 (.iload_n 3) 1 653 := ⟨by decide +kernel, rfl⟩
theorem dL_law_653 : ml_d cL_law 653 (.iconst 1) 1 654 := ⟨by decide +kernel, rfl⟩
theorem dL_law_654 : ml_d cL_law 654 (.iadd) 1 655 := ⟨by decide +kernel, rfl⟩
theorem dL_law_655 : ml_d cL_law 655 (.iaload) 1 656 := ⟨by decide +kernel, rfl⟩
theorem dL_law_656 : ml_d cL_law 656 (.aload_n 0) 1 657 := ⟨by decide +kernel, rfl⟩
theorem dL_law_657 : ml_d cL_law 657 (.iload_n 3) 1 658 := ⟨by decide +kernel, rfl⟩
theorem dL_law_658 : ml_d cL_law 658 (.iconst 2) 1 659 := ⟨by decide +kernel, rfl⟩
theorem dL_law_659 : ml_d cL_law 659 (.iadd) 1 660 := ⟨by decide +kernel, rfl⟩
theorem dL_law_660 : ml_d cL_law 660 (.iaload) 1 661 := ⟨by decide +kernel, rfl⟩
theorem dL_law_661 : ml_d cL_law 661 (.invokevirtual 68) 3 664 := ⟨by decide +kernel, rfl⟩
theorem dL_law_664 : ml_j cL_law 664 (.if_icmp .eq) 1572 667 := ⟨908, by decide +kernel, by decide, rfl⟩
theorem dL_law_667 : ml_d cL_law 667 (.iconst 0) 1 668 := ⟨by decide +kernel, rfl⟩
theorem dL_law_668 : ml_d cL_law 668 (.ireturn) 1 669 := ⟨by decide +kernel, rfl⟩
theorem dL_law_669 : ml_d cL_law 669 (.aload_n 1) 1 670 := ⟨by decide +kernel, rfl⟩
theorem dL_law_670 : ml_d cL_law 670 (.aload_n 0) 1 671 := ⟨by decide +kernel, rfl⟩
theorem dL_law_671 : ml_d cL_law 671 (.iload_n 3) 1 672 := ⟨by decide +kernel, rfl⟩
theorem dL_law_672 : ml_d cL_law 672 (.iconst 1) 1 673 := ⟨by decide +kernel, rfl⟩
theorem dL_law_673 : ml_d cL_law 673 (.iadd) 1 674 := ⟨by decide +kernel, rfl⟩
theorem dL_law_674 : ml_d cL_law 674 (.iaload) 1 675 := ⟨by decide +kernel, rfl⟩
theorem dL_law_675 : ml_d cL_law 675 (.aload_n 0) 1 676 := ⟨by decide +kernel, rfl⟩
theorem dL_law_676 : ml_d cL_law 676 (.iload_n 3) 1 677 := ⟨by decide +kernel, rfl⟩
theorem dL_law_677 : ml_d cL_law 677 (.iconst 2) 1 678 := ⟨by decide +kernel, rfl⟩
theorem dL_law_678 : ml_d cL_law 678 (.iadd) 1 679 := ⟨by decide +kernel, rfl⟩
theorem dL_law_679 : ml_d cL_law 679 (.iaload) 1 680 := ⟨by decide +kernel, rfl⟩
theorem dL_law_680 : ml_d cL_law 680 (.aload_n 0) 1 681 := ⟨by decide +kernel, rfl⟩
theorem dL_law_681 : ml_d cL_law 681 (.iload_n 3) 1 682 := ⟨by decide +kernel, rfl⟩
theorem dL_law_682 : ml_d cL_law 682 (.iconst 3) 1 683 := ⟨by decide +kernel, rfl⟩
theorem dL_law_683 : ml_d cL_law 683 (.iadd) 1 684 := ⟨by decide +kernel, rfl⟩
theorem dL_law_684 : ml_d cL_law 684 (.iaload) 1 685 := ⟨by decide +kernel, rfl⟩
theorem dL_law_685 : ml_d cL_law 685 (.aload_n 0) 1 686 := ⟨by decide +kernel, rfl⟩
theorem dL_law_686 : ml_d cL_law 686 (.iload_n 3) 1 687 := ⟨by decide +kernel, rfl⟩
theorem dL_law_687 : ml_d cL_law 687 (.iconst 4) 1 688 := ⟨by decide +kernel, rfl⟩
theorem dL_law_688 : ml_d cL_law 688 (.iadd) 1 689 := ⟨by decide +kernel, rfl⟩
theorem dL_law_689 : ml_d cL_law 689 (.iaload) 1 690 := ⟨by decide +kernel, rfl⟩
theorem dL_law_690 : ml_d cL_law 690 (.aload_n 0) 1 691 := ⟨by decide +kernel, rfl⟩
theorem dL_law_691 : ml_d cL_law 691 (.iload_n 3) 1 692 := ⟨by decide +kernel, rfl⟩
theorem dL_law_692 : ml_d cL_law 692 (.iconst 5) 1 693 := ⟨by decide +kernel, rfl⟩
theorem dL_law_693 : ml_d cL_law 693 (.iadd) 1 694 := ⟨by decide +kernel, rfl⟩
theorem dL_law_694 : ml_d cL_law 694 (.iaload) 1 695 := ⟨by decide +kernel, rfl⟩
theorem dL_law_695 : ml_d cL_law 695 (.invokevirtual 69) 3 698 := ⟨by decide +kernel, rfl⟩
theorem dL_law_698 : ml_d cL_law 698 (.aload_n 2) 1 699 := ⟨by decide +kernel, rfl⟩
theorem dL_law_699 : ml_d cL_law 699 (.aload_n 0) 1 700 := ⟨by decide +kernel, rfl⟩
theorem dL_law_700 : ml_d cL_law 700 (.iload_n 3) 1 701 := ⟨by decide +kernel, rfl⟩
theorem dL_law_701 : ml_d cL_law 701 (.iconst 1) 1 702 := ⟨by decide +kernel, rfl⟩
theorem dL_law_702 : ml_d cL_law 702 (.iadd) 1 703 := ⟨by decide +kernel, rfl⟩
theorem dL_law_703 : ml_d cL_law 703 (.iaload) 1 704 := ⟨by decide +kernel, rfl⟩
theorem dL_law_704 : ml_d cL_law 704 (.aload_n 0) 1 705 := ⟨by decide +kernel, rfl⟩
theorem dL_law_705 : ml_d cL_law 705 (.iload_n 3) 1 706 := ⟨by decide +kernel, rfl⟩
theorem dL_law_706 : ml_d cL_law 706 (.iconst 2) 1 707 := ⟨by decide +kernel, rfl⟩
theorem dL_law_707 : ml_d cL_law 707 (.iadd) 1 708 := ⟨by decide +kernel, rfl⟩
theorem dL_law_708 : ml_d cL_law 708 (.iaload) 1 709 := ⟨by decide +kernel, rfl⟩
theorem dL_law_709 : ml_d cL_law 709 (.aload_n 0) 1 710 := ⟨by decide +kernel, rfl⟩
theorem dL_law_710 : ml_d cL_law 710 (.iload_n 3) 1 711 := ⟨by decide +kernel, rfl⟩
theorem dL_law_711 : ml_d cL_law 711 (.iconst 3) 1 712 := ⟨by decide +kernel, rfl⟩
theorem dL_law_712 : ml_d cL_law 712 (.iadd) 1 713 := ⟨by decide +kernel, rfl⟩
theorem dL_law_713 : ml_d cL_law 713 (.iaload) 1 714 := ⟨by decide +kernel, rfl⟩
theorem dL_law_714 : ml_d cL_law 714 (.aload_n 0) 1 715 := ⟨by decide +kernel, rfl⟩
theorem dL_law_715 : ml_d cL_law 715 (.iload_n 3) 1 716 := ⟨by decide +kernel, rfl⟩
theorem dL_law_716 : ml_d cL_law 716 (.iconst 4) 1 717 := ⟨by decide +kernel, rfl⟩
theorem dL_law_717 : ml_d cL_law 717 (.iadd) 1 718 := ⟨by decide +kernel, rfl⟩
theorem dL_law_718 : ml_d cL_law 718 (.iaload) 1 719 := ⟨by decide +kernel, rfl⟩
theorem dL_law_719 : ml_d cL_law 719 (.aload_n 0) 1 720 := ⟨by decide +kernel, rfl⟩
theorem dL_law_720 : ml_d cL_law 720 (.iload_n 3) 1 721 := ⟨by decide +kernel, rfl⟩
theorem dL_law_721 : ml_d cL_law 721 (.iconst 5) 1 722 := ⟨by decide +kernel, rfl⟩
theorem dL_law_722 : ml_d cL_law 722 (.iadd) 1 723 := ⟨by decide +kernel, rfl⟩
theorem dL_law_723 : ml_d cL_law 723 (.iaload) 1 724 := ⟨by decide +kernel, rfl⟩
theorem dL_law_724 : ml_d cL_law 724 (.invokevirtual 72) 3 727 := ⟨by decide +kernel, rfl⟩
theorem dL_law_727 : ml_j cL_law 727 (.if_icmp .eq) 1572 730 := ⟨845, by decide +kernel, by decide, rfl⟩
theorem dL_law_730 : ml_d cL_law 730 (.iconst 0) 1 731 := ⟨by decide +kernel, rfl⟩
theorem dL_law_731 : ml_d cL_law 731 (.ireturn) 1 732 := ⟨by decide +kernel, rfl⟩
theorem dL_law_732 : ml_d cL_law 732 (.aload_n 1) 1 733 := ⟨by decide +kernel, rfl⟩
theorem dL_law_733 : ml_d cL_law 733 (.aload_n 0) 1 734 := ⟨by decide +kernel, rfl⟩
theorem dL_law_734 : ml_d cL_law 734 (.iload_n 3) 1 735 := ⟨by decide +kernel, rfl⟩
theorem dL_law_735 : ml_d cL_law 735 (.iconst 1) 1 736 := ⟨by decide +kernel, rfl⟩
theorem dL_law_736 : ml_d cL_law 736 (.iadd) 1 737 := ⟨by decide +kernel, rfl⟩
theorem dL_law_737 : ml_d cL_law 737 (.iaload) 1 738 := ⟨by decide +kernel, rfl⟩
theorem dL_law_738 : ml_d cL_law 738 (.aload_n 0) 1 739 := ⟨by decide +kernel, rfl⟩
theorem dL_law_739 : ml_d cL_law 739 (.iload_n 3) 1 740 := ⟨by decide +kernel, rfl⟩
theorem dL_law_740 : ml_d cL_law 740 (.iconst 2) 1 741 := ⟨by decide +kernel, rfl⟩
theorem dL_law_741 : ml_d cL_law 741 (.iadd) 1 742 := ⟨by decide +kernel, rfl⟩
theorem dL_law_742 : ml_d cL_law 742 (.iaload) 1 743 := ⟨by decide +kernel, rfl⟩
theorem dL_law_743 : ml_d cL_law 743 (.aload_n 0) 1 744 := ⟨by decide +kernel, rfl⟩
theorem dL_law_744 : ml_d cL_law 744 (.iload_n 3) 1 745 := ⟨by decide +kernel, rfl⟩
theorem dL_law_745 : ml_d cL_law 745 (.iconst 3) 1 746 := ⟨by decide +kernel, rfl⟩
theorem dL_law_746 : ml_d cL_law 746 (.iadd) 1 747 := ⟨by decide +kernel, rfl⟩
theorem dL_law_747 : ml_d cL_law 747 (.iaload) 1 748 := ⟨by decide +kernel, rfl⟩
theorem dL_law_748 : ml_j cL_law 748 (.ifCond .eq) 755 751 := ⟨7, by decide +kernel, by decide, rfl⟩
theorem dL_law_751 : ml_d cL_law 751 (.iconst 1) 1 752 := ⟨by decide +kernel, rfl⟩
theorem dL_law_752 : ml_j cL_law 752 .goto 756 755 := ⟨4, by decide +kernel, by decide, rfl⟩
theorem dL_law_755 : ml_d cL_law 755 (.iconst 0) 1 756 := ⟨by decide +kernel, rfl⟩
theorem dL_law_756 : ml_d cL_law 756 (.invokevirtual 73) 3 759 := ⟨by decide +kernel, rfl⟩
theorem dL_law_759 : ml_d cL_law 759 (.aload_n 2) 1 760 := ⟨by decide +kernel, rfl⟩
theorem dL_law_760 : ml_d cL_law 760 (.aload_n 0) 1 761 := ⟨by decide +kernel, rfl⟩
theorem dL_law_761 : ml_d cL_law 761 (.iload_n 3) 1 762 := ⟨by decide +kernel, rfl⟩
theorem dL_law_762 : ml_d cL_law 762 (.iconst 1) 1 763 := ⟨by decide +kernel, rfl⟩
theorem dL_law_763 : ml_d cL_law 763 (.iadd) 1 764 := ⟨by decide +kernel, rfl⟩
theorem dL_law_764 : ml_d cL_law 764 (.iaload) 1 765 := ⟨by decide +kernel, rfl⟩
theorem dL_law_765 : ml_d cL_law 765 (.aload_n 0) 1 766 := ⟨by decide +kernel, rfl⟩
theorem dL_law_766 : ml_d cL_law 766 (.iload_n 3) 1 767 := ⟨by decide +kernel, rfl⟩
theorem dL_law_767 : ml_d cL_law 767 (.iconst 2) 1 768 := ⟨by decide +kernel, rfl⟩
theorem dL_law_768 : ml_d cL_law 768 (.iadd) 1 769 := ⟨by decide +kernel, rfl⟩
theorem dL_law_769 : ml_d cL_law 769 (.iaload) 1 770 := ⟨by decide +kernel, rfl⟩
theorem dL_law_770 : ml_d cL_law 770 (.aload_n 0) 1 771 := ⟨by decide +kernel, rfl⟩
theorem dL_law_771 : ml_d cL_law 771 (.iload_n 3) 1 772 := ⟨by decide +kernel, rfl⟩
theorem dL_law_772 : ml_d cL_law 772 (.iconst 3) 1 773 := ⟨by decide +kernel, rfl⟩
theorem dL_law_773 : ml_d cL_law 773 (.iadd) 1 774 := ⟨by decide +kernel, rfl⟩
theorem dL_law_774 : ml_d cL_law 774 (.iaload) 1 775 := ⟨by decide +kernel, rfl⟩
theorem dL_law_775 : ml_j cL_law 775 (.ifCond .eq) 782 778 := ⟨7, by decide +kernel, by decide, rfl⟩
theorem dL_law_778 : ml_d cL_law 778 (.iconst 1) 1 779 := ⟨by decide +kernel, rfl⟩
theorem dL_law_779 : ml_j cL_law 779 .goto 783 782 := ⟨4, by decide +kernel, by decide, rfl⟩
theorem dL_law_782 : ml_d cL_law 782 (.iconst 0) 1 783 := ⟨by decide +kernel, rfl⟩
theorem dL_law_783 : ml_d cL_law 783 (.invokevirtual 77) 3 786 := ⟨by decide +kernel, rfl⟩
theorem dL_law_786 : ml_j cL_law 786 (.if_icmp .eq) 1572 789 := ⟨786, by decide +kernel, by decide, rfl⟩
theorem dL_law_789 : ml_d cL_law 789 (.iconst 0) 1 790 := ⟨by decide +kernel, rfl⟩
theorem dL_law_790 : ml_d cL_law 790 (.ireturn) 1 791 := ⟨by decide +kernel, rfl⟩
theorem dL_law_791 : ml_d cL_law 791 (.aload_n 1) 1 792 := ⟨by decide +kernel, rfl⟩
theorem dL_law_792 : ml_d cL_law 792 (.aload_n 0) 1 793 := ⟨by decide +kernel, rfl⟩
theorem dL_law_793 : ml_d cL_law 793 (.iload_n 3) 1 794 := ⟨by decide +kernel, rfl⟩
theorem dL_law_794 : ml_d cL_law 794 (.iconst 1) 1 795 := ⟨by decide +kernel, rfl⟩
theorem dL_law_795 : ml_d cL_law 795 (.iadd) 1 796 := ⟨by decide +kernel, rfl⟩
theorem dL_law_796 : ml_d cL_law 796 (.iaload) 1 797 := ⟨by decide +kernel, rfl⟩
theorem dL_law_797 : ml_d cL_law 797 (.aload_n 0) 1 798 := ⟨by decide +kernel, rfl⟩
theorem dL_law_798 : ml_d cL_law 798 (.iload_n 3) 1 799 := ⟨by decide +kernel, rfl⟩
theorem dL_law_799 : ml_d cL_law 799 (.iconst 2) 1 800 := ⟨by decide +kernel, rfl⟩
theorem dL_law_800 : ml_d cL_law 800 (.iadd) 1 801 := ⟨by decide +kernel, rfl⟩
theorem dL_law_801 : ml_d cL_law 801 (.iaload) 1 802 := ⟨by decide +kernel, rfl⟩
theorem dL_law_802 : ml_d cL_law 802 (.invokevirtual 78) 3 805 := ⟨by decide +kernel, rfl⟩
theorem dL_law_805 : ml_d cL_law 805 (.aload_n 2) 1 806 := ⟨by decide +kernel, rfl⟩
theorem dL_law_806 : ml_d cL_law 806 (.aload_n 0) 1 807 := ⟨by decide +kernel, rfl⟩
theorem dL_law_807 : ml_d cL_law 807 (.iload_n 3) 1 808 := ⟨by decide +kernel, rfl⟩
theorem dL_law_808 : ml_d cL_law 808 (.iconst 1) 1 809 := ⟨by decide +kernel, rfl⟩
theorem dL_law_809 : ml_d cL_law 809 (.iadd) 1 810 := ⟨by decide +kernel, rfl⟩
theorem dL_law_810 : ml_d cL_law 810 (.iaload) 1 811 := ⟨by decide +kernel, rfl⟩
theorem dL_law_811 : ml_d cL_law 811 (.aload_n 0) 1 812 := ⟨by decide +kernel, rfl⟩
theorem dL_law_812 : ml_d cL_law 812 (.iload_n 3) 1 813 := ⟨by decide +kernel, rfl⟩
theorem dL_law_813 : ml_d cL_law 813 (.iconst 2) 1 814 := ⟨by decide +kernel, rfl⟩
theorem dL_law_814 : ml_d cL_law 814 (.iadd) 1 815 := ⟨by decide +kernel, rfl⟩
theorem dL_law_815 : ml_d cL_law 815 (.iaload) 1 816 := ⟨by decide +kernel, rfl⟩
theorem dL_law_816 : ml_d cL_law 816 (.invokevirtual 81) 3 819 := ⟨by decide +kernel, rfl⟩
theorem dL_law_819 : ml_j cL_law 819 (.if_icmp .eq) 1572 822 := ⟨753, by decide +kernel, by decide, rfl⟩
theorem dL_law_822 : ml_d cL_law 822 (.iconst 0) 1 823 := ⟨by decide +kernel, rfl⟩
theorem dL_law_823 : ml_d cL_law 823 (.ireturn) 1 824 := ⟨by decide +kernel, rfl⟩
theorem dL_law_824 : ml_d cL_law 824 (.aload_n 1) 1 825 := ⟨by decide +kernel, rfl⟩
theorem dL_law_825 : ml_d cL_law 825 (.aload_n 0) 1 826 := ⟨by decide +kernel, rfl⟩
theorem dL_law_826 : ml_d cL_law 826 (.iload_n 3) 1 827 := ⟨by decide +kernel, rfl⟩
theorem dL_law_827 : ml_d cL_law 827 (.iconst 1) 1 828 := ⟨by decide +kernel, rfl⟩
theorem dL_law_828 : ml_d cL_law 828 (.iadd) 1 829 := ⟨by decide +kernel, rfl⟩
theorem dL_law_829 : ml_d cL_law 829 (.iaload) 1 830 := ⟨by decide +kernel, rfl⟩
theorem dL_law_830 : ml_d cL_law 830 (.aload_n 0) 1 831 := ⟨by decide +kernel, rfl⟩
theorem dL_law_831 : ml_d cL_law 831 (.iload_n 3) 1 832 := ⟨by decide +kernel, rfl⟩
theorem dL_law_832 : ml_d cL_law 832 (.iconst 2) 1 833 := ⟨by decide +kernel, rfl⟩
theorem dL_law_833 : ml_d cL_law 833 (.iadd) 1 834 := ⟨by decide +kernel, rfl⟩
theorem dL_law_834 : ml_d cL_law 834 (.iaload) 1 835 := ⟨by decide +kernel, rfl⟩
theorem dL_law_835 : ml_d cL_law 835 (.invokevirtual 82) 3 838 := ⟨by decide +kernel, rfl⟩
theorem dL_law_838 : ml_d cL_law 838 (.aload_n 2) 1 839 := ⟨by decide +kernel, rfl⟩
theorem dL_law_839 : ml_d cL_law 839 (.aload_n 0) 1 840 := ⟨by decide +kernel, rfl⟩
theorem dL_law_840 : ml_d cL_law 840 (.iload_n 3) 1 841 := ⟨by decide +kernel, rfl⟩
theorem dL_law_841 : ml_d cL_law 841 (.iconst 1) 1 842 := ⟨by decide +kernel, rfl⟩
theorem dL_law_842 : ml_d cL_law 842 (.iadd) 1 843 := ⟨by decide +kernel, rfl⟩
theorem dL_law_843 : ml_d cL_law 843 (.iaload) 1 844 := ⟨by decide +kernel, rfl⟩
theorem dL_law_844 : ml_d cL_law 844 (.aload_n 0) 1 845 := ⟨by decide +kernel, rfl⟩
theorem dL_law_845 : ml_d cL_law 845 (.iload_n 3) 1 846 := ⟨by decide +kernel, rfl⟩
theorem dL_law_846 : ml_d cL_law 846 (.iconst 2) 1 847 := ⟨by decide +kernel, rfl⟩
theorem dL_law_847 : ml_d cL_law 847 (.iadd) 1 848 := ⟨by decide +kernel, rfl⟩
theorem dL_law_848 : ml_d cL_law 848 (.iaload) 1 849 := ⟨by decide +kernel, rfl⟩
theorem dL_law_849 : ml_d cL_law 849 (.invokevirtual 85) 3 852 := ⟨by decide +kernel, rfl⟩
theorem dL_law_852 : ml_j cL_law 852 (.if_icmp .eq) 1572 855 := ⟨720, by decide +kernel, by decide, rfl⟩
theorem dL_law_855 : ml_d cL_law 855 (.iconst 0) 1 856 := ⟨by decide +kernel, rfl⟩
theorem dL_law_856 : ml_d cL_law 856 (.ireturn) 1 857 := ⟨by decide +kernel, rfl⟩
theorem dL_law_857 : ml_d cL_law 857 (.aload_n 1) 1 858 := ⟨by decide +kernel, rfl⟩
theorem dL_law_858 : ml_d cL_law 858 (.aload_n 0) 1 859 := ⟨by decide +kernel, rfl⟩
theorem dL_law_859 : ml_d cL_law 859 (.iload_n 3) 1 860 := ⟨by decide +kernel, rfl⟩
theorem dL_law_860 : ml_d cL_law 860 (.iconst 1) 1 861 := ⟨by decide +kernel, rfl⟩
theorem dL_law_861 : ml_d cL_law 861 (.iadd) 1 862 := ⟨by decide +kernel, rfl⟩
theorem dL_law_862 : ml_d cL_law 862 (.iaload) 1 863 := ⟨by decide +kernel, rfl⟩
theorem dL_law_863 : ml_d cL_law 863 (.invokevirtual 86) 3 866 := ⟨by decide +kernel, rfl⟩
theorem dL_law_866 : ml_d cL_law 866 (.aload_n 2) 1 867 := ⟨by decide +kernel, rfl⟩
theorem dL_law_867 : ml_d cL_law 867 (.aload_n 0) 1 868 := ⟨by decide +kernel, rfl⟩
theorem dL_law_868 : ml_d cL_law 868 (.iload_n 3) 1 869 := ⟨by decide +kernel, rfl⟩
theorem dL_law_869 : ml_d cL_law 869 (.iconst 1) 1 870 := ⟨by decide +kernel, rfl⟩
theorem dL_law_870 : ml_d cL_law 870 (.iadd) 1 871 := ⟨by decide +kernel, rfl⟩
theorem dL_law_871 : ml_d cL_law 871 (.iaload) 1 872 := ⟨by decide +kernel, rfl⟩
theorem dL_law_872 : ml_d cL_law 872 (.invokevirtual 89) 3 875 := ⟨by decide +kernel, rfl⟩
theorem dL_law_875 : ml_j cL_law 875 (.if_icmp .eq) 1572 878 := ⟨697, by decide +kernel, by decide, rfl⟩
theorem dL_law_878 : ml_d cL_law 878 (.iconst 0) 1 879 := ⟨by decide +kernel, rfl⟩
theorem dL_law_879 : ml_d cL_law 879 (.ireturn) 1 880 := ⟨by decide +kernel, rfl⟩
theorem dL_law_880 : ml_d cL_law 880 (.aload_n 1) 1 881 := ⟨by decide +kernel, rfl⟩
theorem dL_law_881 : ml_d cL_law 881 (.invokevirtual 90) 3 884 := ⟨by decide +kernel, rfl⟩
theorem dL_law_884 : ml_d cL_law 884 (.aload_n 2) 1 885 := ⟨by decide +kernel, rfl⟩
theorem dL_law_885 : ml_d cL_law 885 (.invokevirtual 94) 3 888 := ⟨by decide +kernel, rfl⟩
theorem dL_law_888 : ml_j cL_law 888 (.if_icmp .eq) 1572 891 := ⟨684, by decide +kernel, by decide, rfl⟩
theorem dL_law_891 : ml_d cL_law 891 (.iconst 0) 1 892 := ⟨by decide +kernel, rfl⟩
theorem dL_law_892 : ml_d cL_law 892 (.ireturn) 1 893 := ⟨by decide +kernel, rfl⟩
theorem dL_law_893 : ml_d cL_law 893 (.aload_n 1) 1 894 := ⟨by decide +kernel, rfl⟩
theorem dL_law_894 : ml_d cL_law 894 (.invokevirtual 95) 3 897 := ⟨by decide +kernel, rfl⟩
theorem dL_law_897 : ml_d cL_law 897 (.aload_n 2) 1 898 := ⟨by decide +kernel, rfl⟩
theorem dL_law_898 : ml_d cL_law 898 (.invokevirtual 98) 3 901 := ⟨by decide +kernel, rfl⟩
theorem dL_law_901 : ml_j cL_law 901 (.if_icmp .eq) 1572 904 := ⟨671, by decide +kernel, by decide, rfl⟩
theorem dL_law_904 : ml_d cL_law 904 (.iconst 0) 1 905 := ⟨by decide +kernel, rfl⟩
theorem dL_law_905 : ml_d cL_law 905 (.ireturn) 1 906 := ⟨by decide +kernel, rfl⟩
theorem dL_law_906 : ml_d cL_law 906 (.aload_n 1) 1 907 := ⟨by decide +kernel, rfl⟩
theorem dL_law_907 : ml_d cL_law 907 (.aload_n 0) 1 908 := ⟨by decide +kernel, rfl⟩
theorem dL_law_908 : ml_d cL_law 908 (.iload_n 3) 1 909 := ⟨by decide +kernel, rfl⟩
theorem dL_law_909 : ml_d cL_law 909 (.iconst 1) 1 910 := ⟨by decide +kernel, rfl⟩
theorem dL_law_910 : ml_d cL_law 910 (.iadd) 1 911 := ⟨by decide +kernel, rfl⟩
theorem dL_law_911 : ml_d cL_law 911 (.iaload) 1 912 := ⟨by decide +kernel, rfl⟩
theorem dL_law_912 : ml_d cL_law 912 (.invokevirtual 99) 3 915 := ⟨by decide +kernel, rfl⟩
theorem dL_law_915 : ml_d cL_law 915 (.aload_n 2) 1 916 := ⟨by decide +kernel, rfl⟩
theorem dL_law_916 : ml_d cL_law 916 (.aload_n 0) 1 917 := ⟨by decide +kernel, rfl⟩
theorem dL_law_917 : ml_d cL_law 917 (.iload_n 3) 1 918 := ⟨by decide +kernel, rfl⟩
theorem dL_law_918 : ml_d cL_law 918 (.iconst 1) 1 919 := ⟨by decide +kernel, rfl⟩
theorem dL_law_919 : ml_d cL_law 919 (.iadd) 1 920 := ⟨by decide +kernel, rfl⟩
theorem dL_law_920 : ml_d cL_law 920 (.iaload) 1 921 := ⟨by decide +kernel, rfl⟩
theorem dL_law_921 : ml_d cL_law 921 (.invokevirtual 102) 3 924 := ⟨by decide +kernel, rfl⟩
theorem dL_law_924 : ml_j cL_law 924 (.if_icmp .eq) 1572 927 := ⟨648, by decide +kernel, by decide, rfl⟩
theorem dL_law_927 : ml_d cL_law 927 (.iconst 0) 1 928 := ⟨by decide +kernel, rfl⟩
theorem dL_law_928 : ml_d cL_law 928 (.ireturn) 1 929 := ⟨by decide +kernel, rfl⟩
theorem dL_law_929 : ml_d cL_law 929 (.aload_n 1) 1 930 := ⟨by decide +kernel, rfl⟩
theorem dL_law_930 : ml_d cL_law 930 (.invokevirtual 103) 3 933 := ⟨by decide +kernel, rfl⟩
theorem dL_law_933 : ml_d cL_law 933 (.aload_n 2) 1 934 := ⟨by decide +kernel, rfl⟩
theorem dL_law_934 : ml_d cL_law 934 (.invokevirtual 106) 3 937 := ⟨by decide +kernel, rfl⟩
theorem dL_law_937 : ml_j cL_law 937 (.if_icmp .eq) 1572 940 := ⟨635, by decide +kernel, by decide, rfl⟩
theorem dL_law_940 : ml_d cL_law 940 (.iconst 0) 1 941 := ⟨by decide +kernel, rfl⟩
theorem dL_law_941 : ml_d cL_law 941 (.ireturn) 1 942 := ⟨by decide +kernel, rfl⟩
theorem dL_law_942 : ml_d cL_law 942 (.aload_n 1) 1 943 := ⟨by decide +kernel, rfl⟩
theorem dL_law_943 : ml_d cL_law 943 (.invokevirtual 107) 3 946 := ⟨by decide +kernel, rfl⟩
theorem dL_law_946 : ml_d cL_law 946 (.aload_n 2) 1 947 := ⟨by decide +kernel, rfl⟩
theorem dL_law_947 : ml_d cL_law 947 (.invokevirtual 110) 3 950 := ⟨by decide +kernel, rfl⟩
theorem dL_law_950 : ml_j cL_law 950 (.if_icmp .eq) 1572 953 := ⟨622, by decide +kernel, by decide, rfl⟩
theorem dL_law_953 : ml_d cL_law 953 (.iconst 0) 1 954 := ⟨by decide +kernel, rfl⟩
theorem dL_law_954 : ml_d cL_law 954 (.ireturn) 1 955 := ⟨by decide +kernel, rfl⟩
theorem dL_law_955 : ml_d cL_law 955 (.aload_n 1) 1 956 := ⟨by decide +kernel, rfl⟩
theorem dL_law_956 : ml_d cL_law 956 (.aload_n 0) 1 957 := ⟨by decide +kernel, rfl⟩
theorem dL_law_957 : ml_d cL_law 957 (.iload_n 3) 1 958 := ⟨by decide +kernel, rfl⟩
theorem dL_law_958 : ml_d cL_law 958 (.iconst 1) 1 959 := ⟨by decide +kernel, rfl⟩
theorem dL_law_959 : ml_d cL_law 959 (.iadd) 1 960 := ⟨by decide +kernel, rfl⟩
theorem dL_law_960 : ml_d cL_law 960 (.iaload) 1 961 := ⟨by decide +kernel, rfl⟩
theorem dL_law_961 : ml_d cL_law 961 (.invokevirtual 111) 3 964 := ⟨by decide +kernel, rfl⟩
theorem dL_law_964 : ml_d cL_law 964 (.aload_n 2) 1 965 := ⟨by decide +kernel, rfl⟩
theorem dL_law_965 : ml_d cL_law 965 (.aload_n 0) 1 966 := ⟨by decide +kernel, rfl⟩
theorem dL_law_966 : ml_d cL_law 966 (.iload_n 3) 1 967 := ⟨by decide +kernel, rfl⟩
theorem dL_law_967 : ml_d cL_law 967 (.iconst 1) 1 968 := ⟨by decide +kernel, rfl⟩
theorem dL_law_968 : ml_d cL_law 968 (.iadd) 1 969 := ⟨by decide +kernel, rfl⟩
theorem dL_law_969 : ml_d cL_law 969 (.iaload) 1 970 := ⟨by decide +kernel, rfl⟩
theorem dL_law_970 : ml_d cL_law 970 (.invokevirtual 114) 3 973 := ⟨by decide +kernel, rfl⟩
theorem dL_law_973 : ml_j cL_law 973 (.if_icmp .eq) 1572 976 := ⟨599, by decide +kernel, by decide, rfl⟩
theorem dL_law_976 : ml_d cL_law 976 (.iconst 0) 1 977 := ⟨by decide +kernel, rfl⟩
theorem dL_law_977 : ml_d cL_law 977 (.ireturn) 1 978 := ⟨by decide +kernel, rfl⟩
theorem dL_law_978 : ml_d cL_law 978 (.aload_n 1) 1 979 := ⟨by decide +kernel, rfl⟩
theorem dL_law_979 : ml_d cL_law 979 (.aload_n 0) 1 980 := ⟨by decide +kernel, rfl⟩
theorem dL_law_980 : ml_d cL_law 980 (.iload_n 3) 1 981 := ⟨by decide +kernel, rfl⟩
theorem dL_law_981 : ml_d cL_law 981 (.iconst 1) 1 982 := ⟨by decide +kernel, rfl⟩
theorem dL_law_982 : ml_d cL_law 982 (.iadd) 1 983 := ⟨by decide +kernel, rfl⟩
theorem dL_law_983 : ml_d cL_law 983 (.iaload) 1 984 := ⟨by decide +kernel, rfl⟩
theorem dL_law_984 : ml_d cL_law 984 (.invokevirtual 115) 3 987 := ⟨by decide +kernel, rfl⟩
theorem dL_law_987 : ml_d cL_law 987 (.aload_n 2) 1 988 := ⟨by decide +kernel, rfl⟩
theorem dL_law_988 : ml_d cL_law 988 (.aload_n 0) 1 989 := ⟨by decide +kernel, rfl⟩
theorem dL_law_989 : ml_d cL_law 989 (.iload_n 3) 1 990 := ⟨by decide +kernel, rfl⟩
theorem dL_law_990 : ml_d cL_law 990 (.iconst 1) 1 991 := ⟨by decide +kernel, rfl⟩
theorem dL_law_991 : ml_d cL_law 991 (.iadd) 1 992 := ⟨by decide +kernel, rfl⟩
theorem dL_law_992 : ml_d cL_law 992 (.iaload) 1 993 := ⟨by decide +kernel, rfl⟩
theorem dL_law_993 : ml_d cL_law 993 (.invokevirtual 118) 3 996 := ⟨by decide +kernel, rfl⟩
theorem dL_law_996 : ml_j cL_law 996 (.if_icmp .eq) 1572 999 := ⟨576, by decide +kernel, by decide, rfl⟩
theorem dL_law_999 : ml_d cL_law 999 (.iconst 0) 1 1000 := ⟨by decide +kernel, rfl⟩
theorem dL_law_1000 : ml_d cL_law 1000 (.ireturn) 1 1001 := ⟨by decide +kernel, rfl⟩
theorem dL_law_1001 : ml_d cL_law 1001 (.aload_n 1) 1 1002 := ⟨by decide +kernel, rfl⟩
theorem dL_law_1002 : ml_d cL_law 1002 (.aload_n 0) 1 1003 := ⟨by decide +kernel, rfl⟩
theorem dL_law_1003 : ml_d cL_law 1003 (.iload_n 3) 1 1004 := ⟨by decide +kernel, rfl⟩
theorem dL_law_1004 : ml_d cL_law 1004 (.iconst 1) 1 1005 := ⟨by decide +kernel, rfl⟩
theorem dL_law_1005 : ml_d cL_law 1005 (.iadd) 1 1006 := ⟨by decide +kernel, rfl⟩
theorem dL_law_1006 : ml_d cL_law 1006 (.iaload) 1 1007 := ⟨by decide +kernel, rfl⟩
theorem dL_law_1007 : ml_d cL_law 1007 (.invokevirtual 119) 3 1010 := ⟨by decide +kernel, rfl⟩
theorem dL_law_1010 : ml_d cL_law 1010 (.aload_n 2) 1 1011 := ⟨by decide +kernel, rfl⟩
theorem dL_law_1011 : ml_d cL_law 1011 (.aload_n 0) 1 1012 := ⟨by decide +kernel, rfl⟩
theorem dL_law_1012 : ml_d cL_law 1012 (.iload_n 3) 1 1013 := ⟨by decide +kernel, rfl⟩
theorem dL_law_1013 : ml_d cL_law 1013 (.iconst 1) 1 1014 := ⟨by decide +kernel, rfl⟩
theorem dL_law_1014 : ml_d cL_law 1014 (.iadd) 1 1015 := ⟨by decide +kernel, rfl⟩
theorem dL_law_1015 : ml_d cL_law 1015 (.iaload) 1 1016 := ⟨by decide +kernel, rfl⟩
theorem dL_law_1016 : ml_d cL_law 1016 (.invokevirtual 122) 3 1019 := ⟨by decide +kernel, rfl⟩
theorem dL_law_1019 : ml_j cL_law 1019 (.if_icmp .eq) 1572 1022 := ⟨553, by decide +kernel, by decide, rfl⟩
theorem dL_law_1022 : ml_d cL_law 1022 (.iconst 0) 1 1023 := ⟨by decide +kernel, rfl⟩
theorem dL_law_1023 : ml_d cL_law 1023 (.ireturn) 1 1024 := ⟨by decide +kernel, rfl⟩
theorem dL_law_1024 : ml_d cL_law 1024 (.aload_n 1) 1 1025 := ⟨by decide +kernel, rfl⟩
theorem dL_law_1025 : ml_d cL_law 1025 (.aload_n 0) 1 1026 := ⟨by decide +kernel, rfl⟩
theorem dL_law_1026 : ml_d cL_law 1026 (.iload_n 3) 1 1027 := ⟨by decide +kernel, rfl⟩
theorem dL_law_1027 : ml_d cL_law 1027 (.iconst 1) 1 1028 := ⟨by decide +kernel, rfl⟩
theorem dL_law_1028 : ml_d cL_law 1028 (.iadd) 1 1029 := ⟨by decide +kernel, rfl⟩
theorem dL_law_1029 : ml_d cL_law 1029 (.iaload) 1 1030 := ⟨by decide +kernel, rfl⟩
theorem dL_law_1030 : ml_d cL_law 1030 (.aload_n 0) 1 1031 := ⟨by decide +kernel, rfl⟩
theorem dL_law_1031 : ml_d cL_law 1031 (.iload_n 3) 1 1032 := ⟨by decide +kernel, rfl⟩
theorem dL_law_1032 : ml_d cL_law 1032 (.iconst 2) 1 1033 := ⟨by decide +kernel, rfl⟩
theorem dL_law_1033 : ml_d cL_law 1033 (.iadd) 1 1034 := ⟨by decide +kernel, rfl⟩
theorem dL_law_1034 : ml_d cL_law 1034 (.iaload) 1 1035 := ⟨by decide +kernel, rfl⟩
theorem dL_law_1035 : ml_d cL_law 1035 (.invokevirtual 123) 3 1038 := ⟨by decide +kernel, rfl⟩
theorem dL_law_1038 : ml_d cL_law 1038 (.aload_n 2) 1 1039 := ⟨by decide +kernel, rfl⟩
theorem dL_law_1039 : ml_d cL_law 1039 (.aload_n 0) 1 1040 := ⟨by decide +kernel, rfl⟩
theorem dL_law_1040 : ml_d cL_law 1040 (.iload_n 3) 1 1041 := ⟨by decide +kernel, rfl⟩
theorem dL_law_1041 : ml_d cL_law 1041 (.iconst 1) 1 1042 := ⟨by decide +kernel, rfl⟩
theorem dL_law_1042 : ml_d cL_law 1042 (.iadd) 1 1043 := ⟨by decide +kernel, rfl⟩
theorem dL_law_1043 : ml_d cL_law 1043 (.iaload) 1 1044 := ⟨by decide +kernel, rfl⟩
theorem dL_law_1044 : ml_d cL_law 1044 (.aload_n 0) 1 1045 := ⟨by decide +kernel, rfl⟩
theorem dL_law_1045 : ml_d cL_law 1045 (.iload_n 3) 1 1046 := ⟨by decide +kernel, rfl⟩
theorem dL_law_1046 : ml_d cL_law 1046 (.iconst 2) 1 1047 := ⟨by decide +kernel, rfl⟩
theorem dL_law_1047 : ml_d cL_law 1047 (.iadd) 1 1048 := ⟨by decide +kernel, rfl⟩
theorem dL_law_1048 : ml_d cL_law 1048 (.iaload) 1 1049 := ⟨by decide +kernel, rfl⟩
theorem dL_law_1049 : ml_d cL_law 1049 (.invokevirtual 126) 3 1052 := ⟨by decide +kernel, rfl⟩
theorem dL_law_1052 : ml_j cL_law 1052 (.if_icmp .eq) 1572 1055 := ⟨520, by decide +kernel, by decide, rfl⟩
theorem dL_law_1055 : ml_d cL_law 1055 (.iconst 0) 1 1056 := ⟨by decide +kernel, rfl⟩
theorem dL_law_1056 : ml_d cL_law 1056 (.ireturn) 1 1057 := ⟨by decide +kernel, rfl⟩
theorem dL_law_1057 : ml_d cL_law 1057 (.aload_n 1) 1 1058 := ⟨by decide +kernel, rfl⟩
theorem dL_law_1058 : ml_d cL_law 1058 (.aload_n 0) 1 1059 := ⟨by decide +kernel, rfl⟩
theorem dL_law_1059 : ml_d cL_law 1059 (.iload_n 3) 1 1060 := ⟨by decide +kernel, rfl⟩
theorem dL_law_1060 : ml_d cL_law 1060 (.iconst 1) 1 1061 := ⟨by decide +kernel, rfl⟩
theorem dL_law_1061 : ml_d cL_law 1061 (.iadd) 1 1062 := ⟨by decide +kernel, rfl⟩
theorem dL_law_1062 : ml_d cL_law 1062 (.iaload) 1 1063 := ⟨by decide +kernel, rfl⟩
theorem dL_law_1063 : ml_d cL_law 1063 (.invokevirtual 127) 3 1066 := ⟨by decide +kernel, rfl⟩
theorem dL_law_1066 : ml_d cL_law 1066 (.aload_n 2) 1 1067 := ⟨by decide +kernel, rfl⟩
theorem dL_law_1067 : ml_d cL_law 1067 (.aload_n 0) 1 1068 := ⟨by decide +kernel, rfl⟩
theorem dL_law_1068 : ml_d cL_law 1068 (.iload_n 3) 1 1069 := ⟨by decide +kernel, rfl⟩
theorem dL_law_1069 : ml_d cL_law 1069 (.iconst 1) 1 1070 := ⟨by decide +kernel, rfl⟩
theorem dL_law_1070 : ml_d cL_law 1070 (.iadd) 1 1071 := ⟨by decide +kernel, rfl⟩
theorem dL_law_1071 : ml_d cL_law 1071 (.iaload) 1 1072 := ⟨by decide +kernel, rfl⟩
theorem dL_law_1072 : ml_d cL_law 1072 (.invokevirtual 130) 3 1075 := ⟨by decide +kernel, rfl⟩
theorem dL_law_1075 : ml_j cL_law 1075 (.if_icmp .eq) 1572 1078 := ⟨497, by decide +kernel, by decide, rfl⟩
theorem dL_law_1078 : ml_d cL_law 1078 (.iconst 0) 1 1079 := ⟨by decide +kernel, rfl⟩
theorem dL_law_1079 : ml_d cL_law 1079 (.ireturn) 1 1080 := ⟨by decide +kernel, rfl⟩
theorem dL_law_1080 : ml_d cL_law 1080 (.aload_n 1) 1 1081 := ⟨by decide +kernel, rfl⟩
theorem dL_law_1081 : ml_d cL_law 1081 (.aload_n 0) 1 1082 := ⟨by decide +kernel, rfl⟩
theorem dL_law_1082 : ml_d cL_law 1082 (.iload_n 3) 1 1083 := ⟨by decide +kernel, rfl⟩
theorem dL_law_1083 : ml_d cL_law 1083 (.iconst 1) 1 1084 := ⟨by decide +kernel, rfl⟩
theorem dL_law_1084 : ml_d cL_law 1084 (.iadd) 1 1085 := ⟨by decide +kernel, rfl⟩
theorem dL_law_1085 : ml_d cL_law 1085 (.iaload) 1 1086 := ⟨by decide +kernel, rfl⟩
theorem dL_law_1086 : ml_d cL_law 1086 (.invokevirtual 131) 3 1089 := ⟨by decide +kernel, rfl⟩
theorem dL_law_1089 : ml_d cL_law 1089 (.aload_n 2) 1 1090 := ⟨by decide +kernel, rfl⟩
theorem dL_law_1090 : ml_d cL_law 1090 (.aload_n 0) 1 1091 := ⟨by decide +kernel, rfl⟩
theorem dL_law_1091 : ml_d cL_law 1091 (.iload_n 3) 1 1092 := ⟨by decide +kernel, rfl⟩
theorem dL_law_1092 : ml_d cL_law 1092 (.iconst 1) 1 1093 := ⟨by decide +kernel, rfl⟩
theorem dL_law_1093 : ml_d cL_law 1093 (.iadd) 1 1094 := ⟨by decide +kernel, rfl⟩
theorem dL_law_1094 : ml_d cL_law 1094 (.iaload) 1 1095 := ⟨by decide +kernel, rfl⟩
theorem dL_law_1095 : ml_d cL_law 1095 (.invokevirtual 134) 3 1098 := ⟨by decide +kernel, rfl⟩
theorem dL_law_1098 : ml_j cL_law 1098 (.if_icmp .eq) 1572 1101 := ⟨474, by decide +kernel, by decide, rfl⟩
theorem dL_law_1101 : ml_d cL_law 1101 (.iconst 0) 1 1102 := ⟨by decide +kernel, rfl⟩
theorem dL_law_1102 : ml_d cL_law 1102 (.ireturn) 1 1103 := ⟨by decide +kernel, rfl⟩
theorem dL_law_1103 : ml_d cL_law 1103 (.aload_n 1) 1 1104 := ⟨by decide +kernel, rfl⟩
theorem dL_law_1104 : ml_d cL_law 1104 (.aload_n 0) 1 1105 := ⟨by decide +kernel, rfl⟩
theorem dL_law_1105 : ml_d cL_law 1105 (.iload_n 3) 1 1106 := ⟨by decide +kernel, rfl⟩
theorem dL_law_1106 : ml_d cL_law 1106 (.iconst 1) 1 1107 := ⟨by decide +kernel, rfl⟩
theorem dL_law_1107 : ml_d cL_law 1107 (.iadd) 1 1108 := ⟨by decide +kernel, rfl⟩
theorem dL_law_1108 : ml_d cL_law 1108 (.iaload) 1 1109 := ⟨by decide +kernel, rfl⟩
theorem dL_law_1109 : ml_d cL_law 1109 (.aload_n 0) 1 1110 := ⟨by decide +kernel, rfl⟩
theorem dL_law_1110 : ml_d cL_law 1110 (.iload_n 3) 1 1111 := ⟨by decide +kernel, rfl⟩
theorem dL_law_1111 : ml_d cL_law 1111 (.iconst 2) 1 1112 := ⟨by decide +kernel, rfl⟩
theorem dL_law_1112 : ml_d cL_law 1112 (.iadd) 1 1113 := ⟨by decide +kernel, rfl⟩
theorem dL_law_1113 : ml_d cL_law 1113 (.iaload) 1 1114 := ⟨by decide +kernel, rfl⟩
theorem dL_law_1114 : ml_d cL_law 1114 (.invokevirtual 135) 3 1117 := ⟨by decide +kernel, rfl⟩
theorem dL_law_1117 : ml_d cL_law 1117 (.aload_n 2) 1 1118 := ⟨by decide +kernel, rfl⟩
theorem dL_law_1118 : ml_d cL_law 1118 (.aload_n 0) 1 1119 := ⟨by decide +kernel, rfl⟩
theorem dL_law_1119 : ml_d cL_law 1119 (.iload_n 3) 1 1120 := ⟨by decide +kernel, rfl⟩
theorem dL_law_1120 : ml_d cL_law 1120 (.iconst 1) 1 1121 := ⟨by decide +kernel, rfl⟩
theorem dL_law_1121 : ml_d cL_law 1121 (.iadd) 1 1122 := ⟨by decide +kernel, rfl⟩
theorem dL_law_1122 : ml_d cL_law 1122 (.iaload) 1 1123 := ⟨by decide +kernel, rfl⟩
theorem dL_law_1123 : ml_d cL_law 1123 (.aload_n 0) 1 1124 := ⟨by decide +kernel, rfl⟩
theorem dL_law_1124 : ml_d cL_law 1124 (.iload_n 3) 1 1125 := ⟨by decide +kernel, rfl⟩
theorem dL_law_1125 : ml_d cL_law 1125 (.iconst 2) 1 1126 := ⟨by decide +kernel, rfl⟩
theorem dL_law_1126 : ml_d cL_law 1126 (.iadd) 1 1127 := ⟨by decide +kernel, rfl⟩
theorem dL_law_1127 : ml_d cL_law 1127 (.iaload) 1 1128 := ⟨by decide +kernel, rfl⟩
theorem dL_law_1128 : ml_d cL_law 1128 (.invokevirtual 138) 3 1131 := ⟨by decide +kernel, rfl⟩
theorem dL_law_1131 : ml_j cL_law 1131 (.if_icmp .eq) 1572 1134 := ⟨441, by decide +kernel, by decide, rfl⟩
theorem dL_law_1134 : ml_d cL_law 1134 (.iconst 0) 1 1135 := ⟨by decide +kernel, rfl⟩
theorem dL_law_1135 : ml_d cL_law 1135 (.ireturn) 1 1136 := ⟨by decide +kernel, rfl⟩
theorem dL_law_1136 : ml_d cL_law 1136 (.aload_n 1) 1 1137 := ⟨by decide +kernel, rfl⟩
theorem dL_law_1137 : ml_d cL_law 1137 (.aload_n 0) 1 1138 := ⟨by decide +kernel, rfl⟩
theorem dL_law_1138 : ml_d cL_law 1138 (.iload_n 3) 1 1139 := ⟨by decide +kernel, rfl⟩
theorem dL_law_1139 : ml_d cL_law 1139 (.iconst 1) 1 1140 := ⟨by decide +kernel, rfl⟩
theorem dL_law_1140 : ml_d cL_law 1140 (.iadd) 1 1141 := ⟨by decide +kernel, rfl⟩
theorem dL_law_1141 : ml_d cL_law 1141 (.iaload) 1 1142 := ⟨by decide +kernel, rfl⟩
theorem dL_law_1142 : ml_d cL_law 1142 (.aload_n 0) 1 1143 := ⟨by decide +kernel, rfl⟩
theorem dL_law_1143 : ml_d cL_law 1143 (.iload_n 3) 1 1144 := ⟨by decide +kernel, rfl⟩
theorem dL_law_1144 : ml_d cL_law 1144 (.iconst 2) 1 1145 := ⟨by decide +kernel, rfl⟩
theorem dL_law_1145 : ml_d cL_law 1145 (.iadd) 1 1146 := ⟨by decide +kernel, rfl⟩
theorem dL_law_1146 : ml_d cL_law 1146 (.iaload) 1 1147 := ⟨by decide +kernel, rfl⟩
theorem dL_law_1147 : ml_d cL_law 1147 (.aload_n 0) 1 1148 := ⟨by decide +kernel, rfl⟩
theorem dL_law_1148 : ml_d cL_law 1148 (.iload_n 3) 1 1149 := ⟨by decide +kernel, rfl⟩
theorem dL_law_1149 : ml_d cL_law 1149 (.iconst 3) 1 1150 := ⟨by decide +kernel, rfl⟩
theorem dL_law_1150 : ml_d cL_law 1150 (.iadd) 1 1151 := ⟨by decide +kernel, rfl⟩
theorem dL_law_1151 : ml_d cL_law 1151 (.iaload) 1 1152 := ⟨by decide +kernel, rfl⟩
theorem dL_law_1152 : ml_d cL_law 1152 (.invokevirtual 139) 3 1155 := ⟨by decide +kernel, rfl⟩
theorem dL_law_1155 : ml_d cL_law 1155 (.aload_n 2) 1 1156 := ⟨by decide +kernel, rfl⟩
theorem dL_law_1156 : ml_d cL_law 1156 (.aload_n 0) 1 1157 := ⟨by decide +kernel, rfl⟩
theorem dL_law_1157 : ml_d cL_law 1157 (.iload_n 3) 1 1158 := ⟨by decide +kernel, rfl⟩
theorem dL_law_1158 : ml_d cL_law 1158 (.iconst 1) 1 1159 := ⟨by decide +kernel, rfl⟩
theorem dL_law_1159 : ml_d cL_law 1159 (.iadd) 1 1160 := ⟨by decide +kernel, rfl⟩
theorem dL_law_1160 : ml_d cL_law 1160 (.iaload) 1 1161 := ⟨by decide +kernel, rfl⟩
theorem dL_law_1161 : ml_d cL_law 1161 (.aload_n 0) 1 1162 := ⟨by decide +kernel, rfl⟩
theorem dL_law_1162 : ml_d cL_law 1162 (.iload_n 3) 1 1163 := ⟨by decide +kernel, rfl⟩
theorem dL_law_1163 : ml_d cL_law 1163 (.iconst 2) 1 1164 := ⟨by decide +kernel, rfl⟩
theorem dL_law_1164 : ml_d cL_law 1164 (.iadd) 1 1165 := ⟨by decide +kernel, rfl⟩
theorem dL_law_1165 : ml_d cL_law 1165 (.iaload) 1 1166 := ⟨by decide +kernel, rfl⟩
theorem dL_law_1166 : ml_d cL_law 1166 (.aload_n 0) 1 1167 := ⟨by decide +kernel, rfl⟩
theorem dL_law_1167 : ml_d cL_law 1167 (.iload_n 3) 1 1168 := ⟨by decide +kernel, rfl⟩
theorem dL_law_1168 : ml_d cL_law 1168 (.iconst 3) 1 1169 := ⟨by decide +kernel, rfl⟩
theorem dL_law_1169 : ml_d cL_law 1169 (.iadd) 1 1170 := ⟨by decide +kernel, rfl⟩
theorem dL_law_1170 : ml_d cL_law 1170 (.iaload) 1 1171 := ⟨by decide +kernel, rfl⟩
theorem dL_law_1171 : ml_d cL_law 1171 (.invokevirtual 142) 3 1174 := ⟨by decide +kernel, rfl⟩
theorem dL_law_1174 : ml_j cL_law 1174 (.if_icmp .eq) 1572 1177 := ⟨398, by decide +kernel, by decide, rfl⟩
theorem dL_law_1177 : ml_d cL_law 1177 (.iconst 0) 1 1178 := ⟨by decide +kernel, rfl⟩
theorem dL_law_1178 : ml_d cL_law 1178 (.ireturn) 1 1179 := ⟨by decide +kernel, rfl⟩
theorem dL_law_1179 : ml_d cL_law 1179 (.aload_n 1) 1 1180 := ⟨by decide +kernel, rfl⟩
theorem dL_law_1180 : ml_d cL_law 1180 (.invokevirtual 143) 3 1183 := ⟨by decide +kernel, rfl⟩
theorem dL_law_1183 : ml_d cL_law 1183 (.aload_n 2) 1 1184 := ⟨by decide +kernel, rfl⟩
theorem dL_law_1184 : ml_d cL_law 1184 (.invokevirtual 146) 3 1187 := ⟨by decide +kernel, rfl⟩
theorem dL_law_1187 : ml_j cL_law 1187 (.if_icmp .eq) 1572 1190 := ⟨385, by decide +kernel, by decide, rfl⟩
theorem dL_law_1190 : ml_d cL_law 1190 (.iconst 0) 1 1191 := ⟨by decide +kernel, rfl⟩
theorem dL_law_1191 : ml_d cL_law 1191 (.ireturn) 1 1192 := ⟨by decide +kernel, rfl⟩
theorem dL_law_1192 : ml_d cL_law 1192 (.aload_n 1) 1 1193 := ⟨by decide +kernel, rfl⟩
theorem dL_law_1193 : ml_d cL_law 1193 (.aload_n 0) 1 1194 := ⟨by decide +kernel, rfl⟩
theorem dL_law_1194 : ml_d cL_law 1194 (.iload_n 3) 1 1195 := ⟨by decide +kernel, rfl⟩
theorem dL_law_1195 : ml_d cL_law 1195 (.iconst 1) 1 1196 := ⟨by decide +kernel, rfl⟩
theorem dL_law_1196 : ml_d cL_law 1196 (.iadd) 1 1197 := ⟨by decide +kernel, rfl⟩
theorem dL_law_1197 : ml_d cL_law 1197 (.iaload) 1 1198 := ⟨by decide +kernel, rfl⟩
theorem dL_law_1198 : ml_d cL_law 1198 (.invokevirtual 147) 3 1201 := ⟨by decide +kernel, rfl⟩
theorem dL_law_1201 : ml_d cL_law 1201 (.aload_n 2) 1 1202 := ⟨by decide +kernel, rfl⟩
theorem dL_law_1202 : ml_d cL_law 1202 (.aload_n 0) 1 1203 := ⟨by decide +kernel, rfl⟩
theorem dL_law_1203 : ml_d cL_law 1203 (.iload_n 3) 1 1204 := ⟨by decide +kernel, rfl⟩
theorem dL_law_1204 : ml_d cL_law 1204 (.iconst 1) 1 1205 := ⟨by decide +kernel, rfl⟩
theorem dL_law_1205 : ml_d cL_law 1205 (.iadd) 1 1206 := ⟨by decide +kernel, rfl⟩
theorem dL_law_1206 : ml_d cL_law 1206 (.iaload) 1 1207 := ⟨by decide +kernel, rfl⟩
theorem dL_law_1207 : ml_d cL_law 1207 (.invokevirtual 150) 3 1210 := ⟨by decide +kernel, rfl⟩
theorem dL_law_1210 : ml_j cL_law 1210 (.if_icmp .eq) 1572 1213 := ⟨362, by decide +kernel, by decide, rfl⟩
theorem dL_law_1213 : ml_d cL_law 1213 (.iconst 0) 1 1214 := ⟨by decide +kernel, rfl⟩
theorem dL_law_1214 : ml_d cL_law 1214 (.ireturn) 1 1215 := ⟨by decide +kernel, rfl⟩
theorem dL_law_1215 : ml_d cL_law 1215 (.aload_n 1) 1 1216 := ⟨by decide +kernel, rfl⟩
theorem dL_law_1216 : ml_d cL_law 1216 (.aload_n 0) 1 1217 := ⟨by decide +kernel, rfl⟩
theorem dL_law_1217 : ml_d cL_law 1217 (.iload_n 3) 1 1218 := ⟨by decide +kernel, rfl⟩
theorem dL_law_1218 : ml_d cL_law 1218 (.iconst 1) 1 1219 := ⟨by decide +kernel, rfl⟩
theorem dL_law_1219 : ml_d cL_law 1219 (.iadd) 1 1220 := ⟨by decide +kernel, rfl⟩
theorem dL_law_1220 : ml_d cL_law 1220 (.iaload) 1 1221 := ⟨by decide +kernel, rfl⟩
theorem dL_law_1221 : ml_d cL_law 1221 (.aload_n 0) 1 1222 := ⟨by decide +kernel, rfl⟩
theorem dL_law_1222 : ml_d cL_law 1222 (.iload_n 3) 1 1223 := ⟨by decide +kernel, rfl⟩
theorem dL_law_1223 : ml_d cL_law 1223 (.iconst 2) 1 1224 := ⟨by decide +kernel, rfl⟩
theorem dL_law_1224 : ml_d cL_law 1224 (.iadd) 1 1225 := ⟨by decide +kernel, rfl⟩
theorem dL_law_1225 : ml_d cL_law 1225 (.iaload) 1 1226 := ⟨by decide +kernel, rfl⟩
theorem dL_law_1226 : ml_d cL_law 1226 (.aload_n 0) 1 1227 := ⟨by decide +kernel, rfl⟩
theorem dL_law_1227 : ml_d cL_law 1227 (.iload_n 3) 1 1228 := ⟨by decide +kernel, rfl⟩
theorem dL_law_1228 : ml_d cL_law 1228 (.iconst 3) 1 1229 := ⟨by decide +kernel, rfl⟩
theorem dL_law_1229 : ml_d cL_law 1229 (.iadd) 1 1230 := ⟨by decide +kernel, rfl⟩
theorem dL_law_1230 : ml_d cL_law 1230 (.iaload) 1 1231 := ⟨by decide +kernel, rfl⟩
theorem dL_law_1231 : ml_d cL_law 1231 (.aload_n 0) 1 1232 := ⟨by decide +kernel, rfl⟩
theorem dL_law_1232 : ml_d cL_law 1232 (.iload_n 3) 1 1233 := ⟨by decide +kernel, rfl⟩
theorem dL_law_1233 : ml_d cL_law 1233 (.iconst 4) 1 1234 := ⟨by decide +kernel, rfl⟩
theorem dL_law_1234 : ml_d cL_law 1234 (.iadd) 1 1235 := ⟨by decide +kernel, rfl⟩
theorem dL_law_1235 : ml_d cL_law 1235 (.iaload) 1 1236 := ⟨by decide +kernel, rfl⟩
theorem dL_law_1236 : ml_d cL_law 1236 (.invokevirtual 151) 3 1239 := ⟨by decide +kernel, rfl⟩
theorem dL_law_1239 : ml_d cL_law 1239 (.aload_n 2) 1 1240 := ⟨by decide +kernel, rfl⟩
theorem dL_law_1240 : ml_d cL_law 1240 (.aload_n 0) 1 1241 := ⟨by decide +kernel, rfl⟩
theorem dL_law_1241 : ml_d cL_law 1241 (.iload_n 3) 1 1242 := ⟨by decide +kernel, rfl⟩
theorem dL_law_1242 : ml_d cL_law 1242 (.iconst 1) 1 1243 := ⟨by decide +kernel, rfl⟩
theorem dL_law_1243 : ml_d cL_law 1243 (.iadd) 1 1244 := ⟨by decide +kernel, rfl⟩
theorem dL_law_1244 : ml_d cL_law 1244 (.iaload) 1 1245 := ⟨by decide +kernel, rfl⟩
theorem dL_law_1245 : ml_d cL_law 1245 (.aload_n 0) 1 1246 := ⟨by decide +kernel, rfl⟩
theorem dL_law_1246 : ml_d cL_law 1246 (.iload_n 3) 1 1247 := ⟨by decide +kernel, rfl⟩
theorem dL_law_1247 : ml_d cL_law 1247 (.iconst 2) 1 1248 := ⟨by decide +kernel, rfl⟩
theorem dL_law_1248 : ml_d cL_law 1248 (.iadd) 1 1249 := ⟨by decide +kernel, rfl⟩
theorem dL_law_1249 : ml_d cL_law 1249 (.iaload) 1 1250 := ⟨by decide +kernel, rfl⟩
theorem dL_law_1250 : ml_d cL_law 1250 (.aload_n 0) 1 1251 := ⟨by decide +kernel, rfl⟩
theorem dL_law_1251 : ml_d cL_law 1251 (.iload_n 3) 1 1252 := ⟨by decide +kernel, rfl⟩
theorem dL_law_1252 : ml_d cL_law 1252 (.iconst 3) 1 1253 := ⟨by decide +kernel, rfl⟩
theorem dL_law_1253 : ml_d cL_law 1253 (.iadd) 1 1254 := ⟨by decide +kernel, rfl⟩
theorem dL_law_1254 : ml_d cL_law 1254 (.iaload) 1 1255 := ⟨by decide +kernel, rfl⟩
theorem dL_law_1255 : ml_d cL_law 1255 (.aload_n 0) 1 1256 := ⟨by decide +kernel, rfl⟩
theorem dL_law_1256 : ml_d cL_law 1256 (.iload_n 3) 1 1257 := ⟨by decide +kernel, rfl⟩
theorem dL_law_1257 : ml_d cL_law 1257 (.iconst 4) 1 1258 := ⟨by decide +kernel, rfl⟩
theorem dL_law_1258 : ml_d cL_law 1258 (.iadd) 1 1259 := ⟨by decide +kernel, rfl⟩
theorem dL_law_1259 : ml_d cL_law 1259 (.iaload) 1 1260 := ⟨by decide +kernel, rfl⟩
theorem dL_law_1260 : ml_d cL_law 1260 (.invokevirtual 155) 3 1263 := ⟨by decide +kernel, rfl⟩
theorem dL_law_1263 : ml_j cL_law 1263 (.if_icmp .eq) 1572 1266 := ⟨309, by decide +kernel, by decide, rfl⟩
theorem dL_law_1266 : ml_d cL_law 1266 (.iconst 0) 1 1267 := ⟨by decide +kernel, rfl⟩
theorem dL_law_1267 : ml_d cL_law 1267 (.ireturn) 1 1268 := ⟨by decide +kernel, rfl⟩
theorem dL_law_1268 : ml_d cL_law 1268 (.aload_n 1) 1 1269 := ⟨by decide +kernel, rfl⟩
theorem dL_law_1269 : ml_d cL_law 1269 (.aload_n 0) 1 1270 := ⟨by decide +kernel, rfl⟩
theorem dL_law_1270 : ml_d cL_law 1270 (.iload_n 3) 1 1271 := ⟨by decide +kernel, rfl⟩
theorem dL_law_1271 : ml_d cL_law 1271 (.iconst 1) 1 1272 := ⟨by decide +kernel, rfl⟩
theorem dL_law_1272 : ml_d cL_law 1272 (.iadd) 1 1273 := ⟨by decide +kernel, rfl⟩
theorem dL_law_1273 : ml_d cL_law 1273 (.iaload) 1 1274 := ⟨by decide +kernel, rfl⟩
theorem dL_law_1274 : ml_d cL_law 1274 (.aload_n 0) 1 1275 := ⟨by decide +kernel, rfl⟩
theorem dL_law_1275 : ml_d cL_law 1275 (.iload_n 3) 1 1276 := ⟨by decide +kernel, rfl⟩
theorem dL_law_1276 : ml_d cL_law 1276 (.iconst 2) 1 1277 := ⟨by decide +kernel, rfl⟩
theorem dL_law_1277 : ml_d cL_law 1277 (.iadd) 1 1278 := ⟨by decide +kernel, rfl⟩
theorem dL_law_1278 : ml_d cL_law 1278 (.iaload) 1 1279 := ⟨by decide +kernel, rfl⟩
theorem dL_law_1279 : ml_d cL_law 1279 (.invokevirtual 156) 3 1282 := ⟨by decide +kernel, rfl⟩
theorem dL_law_1282 : ml_d cL_law 1282 (.aload_n 2) 1 1283 := ⟨by decide +kernel, rfl⟩
theorem dL_law_1283 : ml_d cL_law 1283 (.aload_n 0) 1 1284 := ⟨by decide +kernel, rfl⟩
theorem dL_law_1284 : ml_d cL_law 1284 (.iload_n 3) 1 1285 := ⟨by decide +kernel, rfl⟩
theorem dL_law_1285 : ml_d cL_law 1285 (.iconst 1) 1 1286 := ⟨by decide +kernel, rfl⟩
theorem dL_law_1286 : ml_d cL_law 1286 (.iadd) 1 1287 := ⟨by decide +kernel, rfl⟩
theorem dL_law_1287 : ml_d cL_law 1287 (.iaload) 1 1288 := ⟨by decide +kernel, rfl⟩
theorem dL_law_1288 : ml_d cL_law 1288 (.aload_n 0) 1 1289 := ⟨by decide +kernel, rfl⟩
theorem dL_law_1289 : ml_d cL_law 1289 (.iload_n 3) 1 1290 := ⟨by decide +kernel, rfl⟩
theorem dL_law_1290 : ml_d cL_law 1290 (.iconst 2) 1 1291 := ⟨by decide +kernel, rfl⟩
theorem dL_law_1291 : ml_d cL_law 1291 (.iadd) 1 1292 := ⟨by decide +kernel, rfl⟩
theorem dL_law_1292 : ml_d cL_law 1292 (.iaload) 1 1293 := ⟨by decide +kernel, rfl⟩
theorem dL_law_1293 : ml_d cL_law 1293 (.invokevirtual 159) 3 1296 := ⟨by decide +kernel, rfl⟩
theorem dL_law_1296 : ml_j cL_law 1296 (.if_icmp .eq) 1572 1299 := ⟨276, by decide +kernel, by decide, rfl⟩
theorem dL_law_1299 : ml_d cL_law 1299 (.iconst 0) 1 1300 := ⟨by decide +kernel, rfl⟩
theorem dL_law_1300 : ml_d cL_law 1300 (.ireturn) 1 1301 := ⟨by decide +kernel, rfl⟩
theorem dL_law_1301 : ml_d cL_law 1301 (.aload_n 1) 1 1302 := ⟨by decide +kernel, rfl⟩
theorem dL_law_1302 : ml_d cL_law 1302 (.aload_n 0) 1 1303 := ⟨by decide +kernel, rfl⟩
theorem dL_law_1303 : ml_d cL_law 1303 (.iload_n 3) 1 1304 := ⟨by decide +kernel, rfl⟩
theorem dL_law_1304 : ml_d cL_law 1304 (.iconst 1) 1 1305 := ⟨by decide +kernel, rfl⟩
theorem dL_law_1305 : ml_d cL_law 1305 (.iadd) 1 1306 := ⟨by decide +kernel, rfl⟩
theorem dL_law_1306 : ml_d cL_law 1306 (.iaload) 1 1307 := ⟨by decide +kernel, rfl⟩
theorem dL_law_1307 : ml_d cL_law 1307 (.invokevirtual 160) 3 1310 := ⟨by decide +kernel, rfl⟩
theorem dL_law_1310 : ml_d cL_law 1310 (.aload_n 2) 1 1311 := ⟨by decide +kernel, rfl⟩
theorem dL_law_1311 : ml_d cL_law 1311 (.aload_n 0) 1 1312 := ⟨by decide +kernel, rfl⟩
theorem dL_law_1312 : ml_d cL_law 1312 (.iload_n 3) 1 1313 := ⟨by decide +kernel, rfl⟩
theorem dL_law_1313 : ml_d cL_law 1313 (.iconst 1) 1 1314 := ⟨by decide +kernel, rfl⟩
theorem dL_law_1314 : ml_d cL_law 1314 (.iadd) 1 1315 := ⟨by decide +kernel, rfl⟩
theorem dL_law_1315 : ml_d cL_law 1315 (.iaload) 1 1316 := ⟨by decide +kernel, rfl⟩
theorem dL_law_1316 : ml_d cL_law 1316 (.invokevirtual 163) 3 1319 := ⟨by decide +kernel, rfl⟩
theorem dL_law_1319 : ml_j cL_law 1319 (.if_icmp .eq) 1572 1322 := ⟨253, by decide +kernel, by decide, rfl⟩
theorem dL_law_1322 : ml_d cL_law 1322 (.iconst 0) 1 1323 := ⟨by decide +kernel, rfl⟩
theorem dL_law_1323 : ml_d cL_law 1323 (.ireturn) 1 1324 := ⟨by decide +kernel, rfl⟩
theorem dL_law_1324 : ml_d cL_law 1324 (.aload_n 1) 1 1325 := ⟨by decide +kernel, rfl⟩
theorem dL_law_1325 : ml_d cL_law 1325 (.invokevirtual 164) 3 1328 := ⟨by decide +kernel, rfl⟩
theorem dL_law_1328 : ml_d cL_law 1328 (.aload_n 2) 1 1329 := ⟨by decide +kernel, rfl⟩
theorem dL_law_1329 : ml_d cL_law 1329 (.invokevirtual 167) 3 1332 := ⟨by decide +kernel, rfl⟩
theorem dL_law_1332 : ml_j cL_law 1332 (.if_icmp .eq) 1572 1335 := ⟨240, by decide +kernel, by decide, rfl⟩
theorem dL_law_1335 : ml_d cL_law 1335 (.iconst 0) 1 1336 := ⟨by decide +kernel, rfl⟩
theorem dL_law_1336 : ml_d cL_law 1336 (.ireturn) 1 1337 := ⟨by decide +kernel, rfl⟩
theorem dL_law_1337 : ml_d cL_law 1337 (.aload_n 1) 1 1338 := ⟨by decide +kernel, rfl⟩
theorem dL_law_1338 : ml_d cL_law 1338 (.invokevirtual 168) 3 1341 := ⟨by decide +kernel, rfl⟩
theorem dL_law_1341 : ml_d cL_law 1341 (.aload_n 2) 1 1342 := ⟨by decide +kernel, rfl⟩
theorem dL_law_1342 : ml_d cL_law 1342 (.invokevirtual 171) 3 1345 := ⟨by decide +kernel, rfl⟩
theorem dL_law_1345 : ml_j cL_law 1345 (.if_icmp .eq) 1572 1348 := ⟨227, by decide +kernel, by decide, rfl⟩
theorem dL_law_1348 : ml_d cL_law 1348 (.iconst 0) 1 1349 := ⟨by decide +kernel, rfl⟩
theorem dL_law_1349 : ml_d cL_law 1349 (.ireturn) 1 1350 := ⟨by decide +kernel, rfl⟩
theorem dL_law_1350 : ml_d cL_law 1350 (.aload_n 1) 1 1351 := ⟨by decide +kernel, rfl⟩
theorem dL_law_1351 : ml_d cL_law 1351 (.aload_n 0) 1 1352 := ⟨by decide +kernel, rfl⟩
theorem dL_law_1352 : ml_d cL_law 1352 (.iload_n 3) 1 1353 := ⟨by decide +kernel, rfl⟩
theorem dL_law_1353 : ml_d cL_law 1353 (.iconst 1) 1 1354 := ⟨by decide +kernel, rfl⟩
theorem dL_law_1354 : ml_d cL_law 1354 (.iadd) 1 1355 := ⟨by decide +kernel, rfl⟩
theorem dL_law_1355 : ml_d cL_law 1355 (.iaload) 1 1356 := ⟨by decide +kernel, rfl⟩
theorem dL_law_1356 : ml_d cL_law 1356 (.invokevirtual 172) 3 1359 := ⟨by decide +kernel, rfl⟩
theorem dL_law_1359 : ml_d cL_law 1359 (.aload_n 2) 1 1360 := ⟨by decide +kernel, rfl⟩
theorem dL_law_1360 : ml_d cL_law 1360 (.aload_n 0) 1 1361 := ⟨by decide +kernel, rfl⟩
theorem dL_law_1361 : ml_d cL_law 1361 (.iload_n 3) 1 1362 := ⟨by decide +kernel, rfl⟩
theorem dL_law_1362 : ml_d cL_law 1362 (.iconst 1) 1 1363 := ⟨by decide +kernel, rfl⟩
theorem dL_law_1363 : ml_d cL_law 1363 (.iadd) 1 1364 := ⟨by decide +kernel, rfl⟩
theorem dL_law_1364 : ml_d cL_law 1364 (.iaload) 1 1365 := ⟨by decide +kernel, rfl⟩
theorem dL_law_1365 : ml_d cL_law 1365 (.invokevirtual 175) 3 1368 := ⟨by decide +kernel, rfl⟩
theorem dL_law_1368 : ml_j cL_law 1368 (.if_icmp .eq) 1572 1371 := ⟨204, by decide +kernel, by decide, rfl⟩
theorem dL_law_1371 : ml_d cL_law 1371 (.iconst 0) 1 1372 := ⟨by decide +kernel, rfl⟩
theorem dL_law_1372 : ml_d cL_law 1372 (.ireturn) 1 1373 := ⟨by decide +kernel, rfl⟩
theorem dL_law_1373 : ml_d cL_law 1373 (.aload_n 1) 1 1374 := ⟨by decide +kernel, rfl⟩
theorem dL_law_1374 : ml_d cL_law 1374 (.aload_n 0) 1 1375 := ⟨by decide +kernel, rfl⟩
theorem dL_law_1375 : ml_d cL_law 1375 (.iload_n 3) 1 1376 := ⟨by decide +kernel, rfl⟩
theorem dL_law_1376 : ml_d cL_law 1376 (.iconst 1) 1 1377 := ⟨by decide +kernel, rfl⟩
theorem dL_law_1377 : ml_d cL_law 1377 (.iadd) 1 1378 := ⟨by decide +kernel, rfl⟩
theorem dL_law_1378 : ml_d cL_law 1378 (.iaload) 1 1379 := ⟨by decide +kernel, rfl⟩
theorem dL_law_1379 : ml_d cL_law 1379 (.aload_n 0) 1 1380 := ⟨by decide +kernel, rfl⟩
theorem dL_law_1380 : ml_d cL_law 1380 (.iload_n 3) 1 1381 := ⟨by decide +kernel, rfl⟩
theorem dL_law_1381 : ml_d cL_law 1381 (.iconst 2) 1 1382 := ⟨by decide +kernel, rfl⟩
theorem dL_law_1382 : ml_d cL_law 1382 (.iadd) 1 1383 := ⟨by decide +kernel, rfl⟩
theorem dL_law_1383 : ml_d cL_law 1383 (.iaload) 1 1384 := ⟨by decide +kernel, rfl⟩
theorem dL_law_1384 : ml_d cL_law 1384 (.aload_n 0) 1 1385 := ⟨by decide +kernel, rfl⟩
theorem dL_law_1385 : ml_d cL_law 1385 (.iload_n 3) 1 1386 := ⟨by decide +kernel, rfl⟩
theorem dL_law_1386 : ml_d cL_law 1386 (.iconst 3) 1 1387 := ⟨by decide +kernel, rfl⟩
theorem dL_law_1387 : ml_d cL_law 1387 (.iadd) 1 1388 := ⟨by decide +kernel, rfl⟩
theorem dL_law_1388 : ml_d cL_law 1388 (.iaload) 1 1389 := ⟨by decide +kernel, rfl⟩
theorem dL_law_1389 : ml_d cL_law 1389 (.invokevirtual 176) 3 1392 := ⟨by decide +kernel, rfl⟩
theorem dL_law_1392 : ml_d cL_law 1392 (.aload_n 2) 1 1393 := ⟨by decide +kernel, rfl⟩
theorem dL_law_1393 : ml_d cL_law 1393 (.aload_n 0) 1 1394 := ⟨by decide +kernel, rfl⟩
theorem dL_law_1394 : ml_d cL_law 1394 (.iload_n 3) 1 1395 := ⟨by decide +kernel, rfl⟩
theorem dL_law_1395 : ml_d cL_law 1395 (.iconst 1) 1 1396 := ⟨by decide +kernel, rfl⟩
theorem dL_law_1396 : ml_d cL_law 1396 (.iadd) 1 1397 := ⟨by decide +kernel, rfl⟩
theorem dL_law_1397 : ml_d cL_law 1397 (.iaload) 1 1398 := ⟨by decide +kernel, rfl⟩
theorem dL_law_1398 : ml_d cL_law 1398 (.aload_n 0) 1 1399 := ⟨by decide +kernel, rfl⟩
theorem dL_law_1399 : ml_d cL_law 1399 (.iload_n 3) 1 1400 := ⟨by decide +kernel, rfl⟩
theorem dL_law_1400 : ml_d cL_law 1400 (.iconst 2) 1 1401 := ⟨by decide +kernel, rfl⟩
theorem dL_law_1401 : ml_d cL_law 1401 (.iadd) 1 1402 := ⟨by decide +kernel, rfl⟩
theorem dL_law_1402 : ml_d cL_law 1402 (.iaload) 1 1403 := ⟨by decide +kernel, rfl⟩
theorem dL_law_1403 : ml_d cL_law 1403 (.aload_n 0) 1 1404 := ⟨by decide +kernel, rfl⟩
theorem dL_law_1404 : ml_d cL_law 1404 (.iload_n 3) 1 1405 := ⟨by decide +kernel, rfl⟩
theorem dL_law_1405 : ml_d cL_law 1405 (.iconst 3) 1 1406 := ⟨by decide +kernel, rfl⟩
theorem dL_law_1406 : ml_d cL_law 1406 (.iadd) 1 1407 := ⟨by decide +kernel, rfl⟩
theorem dL_law_1407 : ml_d cL_law 1407 (.iaload) 1 1408 := ⟨by decide +kernel, rfl⟩
theorem dL_law_1408 : ml_d cL_law 1408 (.invokevirtual 179) 3 1411 := ⟨by decide +kernel, rfl⟩
theorem dL_law_1411 : ml_j cL_law 1411 (.if_icmp .eq) 1572 1414 := ⟨161, by decide +kernel, by decide, rfl⟩
theorem dL_law_1414 : ml_d cL_law 1414 (.iconst 0) 1 1415 := ⟨by decide +kernel, rfl⟩
theorem dL_law_1415 : ml_d cL_law 1415 (.ireturn) 1 1416 := ⟨by decide +kernel, rfl⟩
theorem dL_law_1416 : ml_d cL_law 1416 (.aload_n 1) 1 1417 := ⟨by decide +kernel, rfl⟩
theorem dL_law_1417 : ml_d cL_law 1417 (.aload_n 0) 1 1418 := ⟨by decide +kernel, rfl⟩
theorem dL_law_1418 : ml_d cL_law 1418 (.iload_n 3) 1 1419 := ⟨by decide +kernel, rfl⟩
theorem dL_law_1419 : ml_d cL_law 1419 (.iconst 1) 1 1420 := ⟨by decide +kernel, rfl⟩
theorem dL_law_1420 : ml_d cL_law 1420 (.iadd) 1 1421 := ⟨by decide +kernel, rfl⟩
theorem dL_law_1421 : ml_d cL_law 1421 (.iaload) 1 1422 := ⟨by decide +kernel, rfl⟩
theorem dL_law_1422 : ml_d cL_law 1422 (.invokevirtual 180) 3 1425 := ⟨by decide +kernel, rfl⟩
theorem dL_law_1425 : ml_d cL_law 1425 (.aload_n 2) 1 1426 := ⟨by decide +kernel, rfl⟩
theorem dL_law_1426 : ml_d cL_law 1426 (.aload_n 0) 1 1427 := ⟨by decide +kernel, rfl⟩
theorem dL_law_1427 : ml_d cL_law 1427 (.iload_n 3) 1 1428 := ⟨by decide +kernel, rfl⟩
theorem dL_law_1428 : ml_d cL_law 1428 (.iconst 1) 1 1429 := ⟨by decide +kernel, rfl⟩
theorem dL_law_1429 : ml_d cL_law 1429 (.iadd) 1 1430 := ⟨by decide +kernel, rfl⟩
theorem dL_law_1430 : ml_d cL_law 1430 (.iaload) 1 1431 := ⟨by decide +kernel, rfl⟩
theorem dL_law_1431 : ml_d cL_law 1431 (.invokevirtual 183) 3 1434 := ⟨by decide +kernel, rfl⟩
theorem dL_law_1434 : ml_j cL_law 1434 (.if_icmp .eq) 1572 1437 := ⟨138, by decide +kernel, by decide, rfl⟩
theorem dL_law_1437 : ml_d cL_law 1437 (.iconst 0) 1 1438 := ⟨by decide +kernel, rfl⟩
theorem dL_law_1438 : ml_d cL_law 1438 (.ireturn) 1 1439 := ⟨by decide +kernel, rfl⟩
theorem dL_law_1439 : ml_d cL_law 1439 (.aload_n 1) 1 1440 := ⟨by decide +kernel, rfl⟩
theorem dL_law_1440 : ml_d cL_law 1440 (.aload_n 0) 1 1441 := ⟨by decide +kernel, rfl⟩
theorem dL_law_1441 : ml_d cL_law 1441 (.iload_n 3) 1 1442 := ⟨by decide +kernel, rfl⟩
theorem dL_law_1442 : ml_d cL_law 1442 (.iconst 1) 1 1443 := ⟨by decide +kernel, rfl⟩
theorem dL_law_1443 : ml_d cL_law 1443 (.iadd) 1 1444 := ⟨by decide +kernel, rfl⟩
theorem dL_law_1444 : ml_d cL_law 1444 (.iaload) 1 1445 := ⟨by decide +kernel, rfl⟩
theorem dL_law_1445 : ml_d cL_law 1445 (.aload_n 0) 1 1446 := ⟨by decide +kernel, rfl⟩
theorem dL_law_1446 : ml_d cL_law 1446 (.iload_n 3) 1 1447 := ⟨by decide +kernel, rfl⟩
theorem dL_law_1447 : ml_d cL_law 1447 (.iconst 2) 1 1448 := ⟨by decide +kernel, rfl⟩
theorem dL_law_1448 : ml_d cL_law 1448 (.iadd) 1 1449 := ⟨by decide +kernel, rfl⟩
theorem dL_law_1449 : ml_d cL_law 1449 (.iaload) 1 1450 := ⟨by decide +kernel, rfl⟩
theorem dL_law_1450 : ml_d cL_law 1450 (.invokevirtual 184) 3 1453 := ⟨by decide +kernel, rfl⟩
theorem dL_law_1453 : ml_d cL_law 1453 (.aload_n 2) 1 1454 := ⟨by decide +kernel, rfl⟩
theorem dL_law_1454 : ml_d cL_law 1454 (.aload_n 0) 1 1455 := ⟨by decide +kernel, rfl⟩
theorem dL_law_1455 : ml_d cL_law 1455 (.iload_n 3) 1 1456 := ⟨by decide +kernel, rfl⟩
theorem dL_law_1456 : ml_d cL_law 1456 (.iconst 1) 1 1457 := ⟨by decide +kernel, rfl⟩
theorem dL_law_1457 : ml_d cL_law 1457 (.iadd) 1 1458 := ⟨by decide +kernel, rfl⟩
theorem dL_law_1458 : ml_d cL_law 1458 (.iaload) 1 1459 := ⟨by decide +kernel, rfl⟩
theorem dL_law_1459 : ml_d cL_law 1459 (.aload_n 0) 1 1460 := ⟨by decide +kernel, rfl⟩
theorem dL_law_1460 : ml_d cL_law 1460 (.iload_n 3) 1 1461 := ⟨by decide +kernel, rfl⟩
theorem dL_law_1461 : ml_d cL_law 1461 (.iconst 2) 1 1462 := ⟨by decide +kernel, rfl⟩
theorem dL_law_1462 : ml_d cL_law 1462 (.iadd) 1 1463 := ⟨by decide +kernel, rfl⟩
theorem dL_law_1463 : ml_d cL_law 1463 (.iaload) 1 1464 := ⟨by decide +kernel, rfl⟩
theorem dL_law_1464 : ml_d cL_law 1464 (.invokevirtual 187) 3 1467 := ⟨by decide +kernel, rfl⟩
theorem dL_law_1467 : ml_j cL_law 1467 (.if_icmp .eq) 1572 1470 := ⟨105, by decide +kernel, by decide, rfl⟩
theorem dL_law_1470 : ml_d cL_law 1470 (.iconst 0) 1 1471 := ⟨by decide +kernel, rfl⟩
theorem dL_law_1471 : ml_d cL_law 1471 (.ireturn) 1 1472 := ⟨by decide +kernel, rfl⟩
theorem dL_law_1472 : ml_d cL_law 1472 (.aload_n 1) 1 1473 := ⟨by decide +kernel, rfl⟩
theorem dL_law_1473 : ml_d cL_law 1473 (.invokevirtual 188) 3 1476 := ⟨by decide +kernel, rfl⟩
theorem dL_law_1476 : ml_d cL_law 1476 (.aload_n 2) 1 1477 := ⟨by decide +kernel, rfl⟩
theorem dL_law_1477 : ml_d cL_law 1477 (.invokevirtual 191) 3 1480 := ⟨by decide +kernel, rfl⟩
theorem dL_law_1480 : ml_j cL_law 1480 (.if_icmp .eq) 1572 1483 := ⟨92, by decide +kernel, by decide, rfl⟩
theorem dL_law_1483 : ml_d cL_law 1483 (.iconst 0) 1 1484 := ⟨by decide +kernel, rfl⟩
theorem dL_law_1484 : ml_d cL_law 1484 (.ireturn) 1 1485 := ⟨by decide +kernel, rfl⟩
theorem dL_law_1485 : ml_d cL_law 1485 (.aload_n 1) 1 1486 := ⟨by decide +kernel, rfl⟩
theorem dL_law_1486 : ml_d cL_law 1486 (.invokevirtual 192) 3 1489 := ⟨by decide +kernel, rfl⟩
theorem dL_law_1489 : ml_d cL_law 1489 (.aload_n 2) 1 1490 := ⟨by decide +kernel, rfl⟩
theorem dL_law_1490 : ml_d cL_law 1490 (.invokevirtual 196) 3 1493 := ⟨by decide +kernel, rfl⟩
theorem dL_law_1493 : ml_d cL_law 1493 (.lcmp) 1 1494 := ⟨by decide +kernel, rfl⟩
theorem dL_law_1494 : ml_j cL_law 1494 (.ifCond .eq) 1572 1497 := ⟨78, by decide +kernel, by decide, rfl⟩
theorem dL_law_1497 : ml_d cL_law 1497 (.iconst 0) 1 1498 := ⟨by decide +kernel, rfl⟩
theorem dL_law_1498 : ml_d cL_law 1498 (.ireturn) 1 1499 := ⟨by decide +kernel, rfl⟩
theorem dL_law_1499 : ml_d cL_law 1499 (.aload_n 1) 1 1500 := ⟨by decide +kernel, rfl⟩
theorem dL_law_1500 : ml_d cL_law 1500 (.aload_n 0) 1 1501 := ⟨by decide +kernel, rfl⟩
theorem dL_law_1501 : ml_d cL_law 1501 (.iload_n 3) 1 1502 := ⟨by decide +kernel, rfl⟩
theorem dL_law_1502 : ml_d cL_law 1502 (.iconst 1) 1 1503 := ⟨by decide +kernel, rfl⟩
theorem dL_law_1503 : ml_d cL_law 1503 (.iadd) 1 1504 := ⟨by decide +kernel, rfl⟩
theorem dL_law_1504 : ml_d cL_law 1504 (.iaload) 1 1505 := ⟨by decide +kernel, rfl⟩
theorem dL_law_1505 : ml_d cL_law 1505 (.invokevirtual 197) 3 1508 := ⟨by decide +kernel, rfl⟩
theorem dL_law_1508 : ml_d cL_law 1508 (.aload_n 2) 1 1509 := ⟨by decide +kernel, rfl⟩
theorem dL_law_1509 : ml_d cL_law 1509 (.aload_n 0) 1 1510 := ⟨by decide +kernel, rfl⟩
theorem dL_law_1510 : ml_d cL_law 1510 (.iload_n 3) 1 1511 := ⟨by decide +kernel, rfl⟩
theorem dL_law_1511 : ml_d cL_law 1511 (.iconst 1) 1 1512 := ⟨by decide +kernel, rfl⟩
theorem dL_law_1512 : ml_d cL_law 1512 (.iadd) 1 1513 := ⟨by decide +kernel, rfl⟩
theorem dL_law_1513 : ml_d cL_law 1513 (.iaload) 1 1514 := ⟨by decide +kernel, rfl⟩
theorem dL_law_1514 : ml_d cL_law 1514 (.invokevirtual 200) 3 1517 := ⟨by decide +kernel, rfl⟩
theorem dL_law_1517 : ml_j cL_law 1517 (.if_icmp .eq) 1572 1520 := ⟨55, by decide +kernel, by decide, rfl⟩
theorem dL_law_1520 : ml_d cL_law 1520 (.iconst 0) 1 1521 := ⟨by decide +kernel, rfl⟩
theorem dL_law_1521 : ml_d cL_law 1521 (.ireturn) 1 1522 := ⟨by decide +kernel, rfl⟩
theorem dL_law_1522 : ml_d cL_law 1522 (.aload_n 1) 1 1523 := ⟨by decide +kernel, rfl⟩
theorem dL_law_1523 : ml_d cL_law 1523 (.invokevirtual 201) 3 1526 := ⟨by decide +kernel, rfl⟩
theorem dL_law_1526 : ml_d cL_law 1526 (.aload_n 2) 1 1527 := ⟨by decide +kernel, rfl⟩
theorem dL_law_1527 : ml_d cL_law 1527 (.invokevirtual 204) 3 1530 := ⟨by decide +kernel, rfl⟩
theorem dL_law_1530 : ml_j cL_law 1530 (.if_icmp .eq) 1572 1533 := ⟨42, by decide +kernel, by decide, rfl⟩
theorem dL_law_1533 : ml_d cL_law 1533 (.iconst 0) 1 1534 := ⟨by decide +kernel, rfl⟩
theorem dL_law_1534 : ml_d cL_law 1534 (.ireturn) 1 1535 := ⟨by decide +kernel, rfl⟩
theorem dL_law_1535 : ml_d cL_law 1535 (.aload_n 1) 1 1536 := ⟨by decide +kernel, rfl⟩
theorem dL_law_1536 : ml_d cL_law 1536 (.aload_n 0) 1 1537 := ⟨by decide +kernel, rfl⟩
theorem dL_law_1537 : ml_d cL_law 1537 (.iload_n 3) 1 1538 := ⟨by decide +kernel, rfl⟩
theorem dL_law_1538 : ml_d cL_law 1538 (.iconst 1) 1 1539 := ⟨by decide +kernel, rfl⟩
theorem dL_law_1539 : ml_d cL_law 1539 (.iadd) 1 1540 := ⟨by decide +kernel, rfl⟩
theorem dL_law_1540 : ml_d cL_law 1540 (.iaload) 1 1541 := ⟨by decide +kernel, rfl⟩
theorem dL_law_1541 : ml_d cL_law 1541 (.invokevirtual 205) 3 1544 := ⟨by decide +kernel, rfl⟩
theorem dL_law_1544 : ml_d cL_law 1544 (.aload_n 2) 1 1545 := ⟨by decide +kernel, rfl⟩
theorem dL_law_1545 : ml_d cL_law 1545 (.aload_n 0) 1 1546 := ⟨by decide +kernel, rfl⟩
theorem dL_law_1546 : ml_d cL_law 1546 (.iload_n 3) 1 1547 := ⟨by decide +kernel, rfl⟩
theorem dL_law_1547 : ml_d cL_law 1547 (.iconst 1) 1 1548 := ⟨by decide +kernel, rfl⟩
theorem dL_law_1548 : ml_d cL_law 1548 (.iadd) 1 1549 := ⟨by decide +kernel, rfl⟩
theorem dL_law_1549 : ml_d cL_law 1549 (.iaload) 1 1550 := ⟨by decide +kernel, rfl⟩
theorem dL_law_1550 : ml_d cL_law 1550 (.invokevirtual 208) 3 1553 := ⟨by decide +kernel, rfl⟩
theorem dL_law_1553 : ml_j cL_law 1553 (.if_icmp .eq) 1572 1556 := ⟨19, by decide +kernel, by decide, rfl⟩
theorem dL_law_1556 : ml_d cL_law 1556 (.iconst 0) 1 1557 := ⟨by decide +kernel, rfl⟩
theorem dL_law_1557 : ml_d cL_law 1557 (.ireturn) 1 1558 := ⟨by decide +kernel, rfl⟩
theorem dL_law_1558 : ml_d cL_law 1558 (.aload_n 1) 1 1559 := ⟨by decide +kernel, rfl⟩
theorem dL_law_1559 : ml_d cL_law 1559 (.invokevirtual 209) 3 1562 := ⟨by decide +kernel, rfl⟩
theorem dL_law_1562 : ml_d cL_law 1562 (.aload_n 2) 1 1563 := ⟨by decide +kernel, rfl⟩
theorem dL_law_1563 : ml_d cL_law 1563 (.invokevirtual 212) 3 1566 := ⟨by decide +kernel, rfl⟩
theorem dL_law_1566 : ml_d cL_law 1566 (.lcmp) 1 1567 := ⟨by decide +kernel, rfl⟩
theorem dL_law_1567 : ml_j cL_law 1567 (.ifCond .eq) 1572 1570 := ⟨5, by decide +kernel, by decide, rfl⟩
theorem dL_law_1570 : ml_d cL_law 1570 (.iconst 0) 1 1571 := ⟨by decide +kernel, rfl⟩
theorem dL_law_1571 : ml_d cL_law 1571 (.ireturn) 1 1572 := ⟨by decide +kernel, rfl⟩
theorem dL_law_1572 : ml_d cL_law 1572 (.iinc 3 6) 3 1575 := ⟨by decide +kernel, rfl⟩
theorem dL_law_1575 : ml_j cL_law 1575 .goto 18 1578 := ⟨(-1557), by decide +kernel, by decide, rfl⟩
theorem dL_law_1578 : ml_d cL_law 1578 (.iconst 1) 1 1579 := ⟨by decide +kernel, rfl⟩
theorem dL_law_1579 : ml_d cL_law 1579 (.ireturn) 1 1580 := ⟨by decide +kernel, rfl⟩
def fL_law_1572 (sl : Nat) (sx : Nat → Int32) (k18 : Nat → Nat → Int32 → ml_M → Option (Int32 × ml_M)) (l1 : Nat) (l2 : Nat) (l3 : Int32) (m : ml_M) : Option (Int32 × ml_M) :=
    k18 l1 l2 (l3 + (6 : Int32)) m
theorem vL_law_1572 {E : ml_E} (hL : ml_eL E = 4) {rv : Int32} {rm : ml_M} (hr : ∀ (pc pc' : Nat) (lv : List (Nat × ml_X)), ml_d cL_law pc .ireturn 1 pc' → (rv = 0 ∨ rv = 1) → ml_V E RL cL_law 20 false rm pc lv [ml_i rv]) {k18 : Nat → Nat → Int32 → ml_M → Option (Int32 × ml_M)} (hk18 : ∀ (l1 : Nat) (l2 : Nat) (l3 : Int32) (m : ml_M), k18 l1 l2 l3 m = some (rv, rm) → ml_V E RL cL_law 20 false m 18 [(0, ml_q (ml_sb (ml_eG E))), (1, ml_r l1), (2, ml_r l2), (3, ml_i l3)] []) : ∀ (l1 : Nat) (l2 : Nat) (l3 : Int32) (m : ml_M), fL_law_1572 (ml_sl (ml_eG E)) (ml_sx (ml_eG E)) k18 l1 l2 l3 m = some (rv, rm) → ml_V E RL cL_law 20 false m 1572 [(0, ml_q (ml_sb (ml_eG E))), (1, ml_r l1), (2, ml_r l2), (3, ml_i l3)] [] := by
  intro l1 l2 l3 m h
  unfold fL_law_1572 at h
  exact ml_iinc (lv' := [(3, ml_i (l3 + (6 : Int32))), (0, ml_q (ml_sb (ml_eG E))), (1, ml_r l1), (2, ml_r l2)]) dL_law_1572 3 rfl (congrArg (l3 + ·) kc_i6) (ml_hn hL rfl) rfl <| ml_goto dL_law_1575 <| ml_V.sub [1, 2, 3, 0] rfl (hk18 _ _ _ _ h)
def fL_law_783 (sl : Nat) (sx : Nat → Int32) (k18 : Nat → Nat → Int32 → ml_M → Option (Int32 × ml_M)) (l1 : Nat) (l2 : Nat) (l3 : Int32) (t0 : Int32) (t1 : Int32) (t2 : Int32) (t3 : Nat) (t4 : Int32) (m : ml_M) : Option (Int32 × ml_M) :=
    if (ml_K m t3).1 = 11 then
    ml_b2 (fX11_lies t3 t2 t1 t0 m) fun r4124 m4125 =>
    if t4 = r4124 then
    fL_law_1572 sl sx k18 l1 l2 l3 m4125
    else
    some ((0 : Int32), m4125)
    else none
theorem vL_law_783 {E : ml_E} (hL : ml_eL E = 4) {rv : Int32} {rm : ml_M} (hr : ∀ (pc pc' : Nat) (lv : List (Nat × ml_X)), ml_d cL_law pc .ireturn 1 pc' → (rv = 0 ∨ rv = 1) → ml_V E RL cL_law 20 false rm pc lv [ml_i rv]) {k18 : Nat → Nat → Int32 → ml_M → Option (Int32 × ml_M)} (hk18 : ∀ (l1 : Nat) (l2 : Nat) (l3 : Int32) (m : ml_M), k18 l1 l2 l3 m = some (rv, rm) → ml_V E RL cL_law 20 false m 18 [(0, ml_q (ml_sb (ml_eG E))), (1, ml_r l1), (2, ml_r l2), (3, ml_i l3)] []) : ∀ (l1 : Nat) (l2 : Nat) (l3 : Int32) (t0 : Int32) (t1 : Int32) (t2 : Int32) (t3 : Nat) (t4 : Int32) (m : ml_M), fL_law_783 (ml_sl (ml_eG E)) (ml_sx (ml_eG E)) k18 l1 l2 l3 t0 t1 t2 t3 t4 m = some (rv, rm) → ml_V E RL cL_law 20 false m 783 [(0, ml_q (ml_sb (ml_eG E))), (1, ml_r l1), (2, ml_r l2), (3, ml_i l3)] [ml_i t0, ml_i t1, ml_i t2, ml_r t3, ml_i t4] := by
  intro l1 l2 l3 t0 t1 t2 t3 t4 m h
  unfold fL_law_783 at h
  exact ml_ck_of h fun hc4123 h => ml_b2_of h fun r4124 m4125 hv4122 h => ml_callV dL_law_783 wm_856 wb_506 hc4123 (sX11_lies hv4122) rfl (Nat.le_of_ble_eq_true rfl) (Nat.le_of_ble_eq_true rfl) rfl <| ml_icmp_eq dL_law_786 h (fun _ h => ml_V.sub [0, 1, 2, 3] rfl (vL_law_1572 hL hr hk18 _ _ _ _ h)) (fun _ h => ml_iconst dL_law_789 kc_i0 <| ml_rI (mk := ml_i) hr dL_law_790 (fun e => Or.inl e.symm) h)
def fL_law_756 (sl : Nat) (sx : Nat → Int32) (k18 : Nat → Nat → Int32 → ml_M → Option (Int32 × ml_M)) (l1 : Nat) (l2 : Nat) (l3 : Int32) (t0 : Int32) (t1 : Int32) (t2 : Int32) (t3 : Nat) (m : ml_M) : Option (Int32 × ml_M) :=
    if (ml_K m t3).1 = 10 then
    ml_b2 (fX10_lies t3 t2 t1 t0 m) fun r4128 m4129 =>
    if ¬ ((l3 + (1 : Int32)) < 0 ∨ sl ≤ (l3 + (1 : Int32)).toNatClampNeg) then
    if ¬ ((l3 + (2 : Int32)) < 0 ∨ sl ≤ (l3 + (2 : Int32)).toNatClampNeg) then
    if ¬ ((l3 + (3 : Int32)) < 0 ∨ sl ≤ (l3 + (3 : Int32)).toNatClampNeg) then
    if (sx (l3 + (3 : Int32)).toNatClampNeg) = 0 then
    fL_law_783 sl sx k18 l1 l2 l3 (0 : Int32) (sx (l3 + (2 : Int32)).toNatClampNeg) (sx (l3 + (1 : Int32)).toNatClampNeg) l2 r4128 m4129
    else
    fL_law_783 sl sx k18 l1 l2 l3 (1 : Int32) (sx (l3 + (2 : Int32)).toNatClampNeg) (sx (l3 + (1 : Int32)).toNatClampNeg) l2 r4128 m4129
    else none
    else none
    else none
    else none
theorem vL_law_756 {E : ml_E} (hL : ml_eL E = 4) {rv : Int32} {rm : ml_M} (hr : ∀ (pc pc' : Nat) (lv : List (Nat × ml_X)), ml_d cL_law pc .ireturn 1 pc' → (rv = 0 ∨ rv = 1) → ml_V E RL cL_law 20 false rm pc lv [ml_i rv]) {k18 : Nat → Nat → Int32 → ml_M → Option (Int32 × ml_M)} (hk18 : ∀ (l1 : Nat) (l2 : Nat) (l3 : Int32) (m : ml_M), k18 l1 l2 l3 m = some (rv, rm) → ml_V E RL cL_law 20 false m 18 [(0, ml_q (ml_sb (ml_eG E))), (1, ml_r l1), (2, ml_r l2), (3, ml_i l3)] []) : ∀ (l1 : Nat) (l2 : Nat) (l3 : Int32) (t0 : Int32) (t1 : Int32) (t2 : Int32) (t3 : Nat) (m : ml_M), fL_law_756 (ml_sl (ml_eG E)) (ml_sx (ml_eG E)) k18 l1 l2 l3 t0 t1 t2 t3 m = some (rv, rm) → ml_V E RL cL_law 20 false m 756 [(0, ml_q (ml_sb (ml_eG E))), (1, ml_r l1), (2, ml_r l2), (3, ml_i l3)] [ml_i t0, ml_i t1, ml_i t2, ml_r t3] := by
  intro l1 l2 l3 t0 t1 t2 t3 m h
  unfold fL_law_756 at h
  exact ml_ck_of h fun hc4127 h => ml_b2_of h fun r4128 m4129 hv4126 h => ml_callV dL_law_756 wm_860 wb_507 hc4127 (sX10_lies hv4126) rfl (Nat.le_of_ble_eq_true rfl) (Nat.le_of_ble_eq_true rfl) rfl <| ml_aload_n dL_law_759 2 rfl <| ml_sload dL_law_760 0 rfl <| ml_iload_n dL_law_761 3 rfl <| ml_iconst dL_law_762 kc_i1 <| ml_iadd dL_law_763 <| ml_ck_of h fun hi4130 h => ml_sld dL_law_764 hi4130 <| ml_sload dL_law_765 0 rfl <| ml_iload_n dL_law_766 3 rfl <| ml_iconst dL_law_767 kc_i2 <| ml_iadd dL_law_768 <| ml_ck_of h fun hi4131 h => ml_sld dL_law_769 hi4131 <| ml_sload dL_law_770 0 rfl <| ml_iload_n dL_law_771 3 rfl <| ml_iconst dL_law_772 kc_i3 <| ml_iadd dL_law_773 <| ml_ck_of h fun hi4132 h => ml_sld dL_law_774 hi4132 <| ml_if_eq dL_law_775 h (fun _ h => ml_iconst dL_law_782 kc_i0 <| ml_V.sub [0, 1, 2, 3] rfl (vL_law_783 hL hr hk18 _ _ _ _ _ _ _ _ _ h)) (fun _ h => ml_iconst dL_law_778 kc_i1 <| ml_goto dL_law_779 <| ml_V.sub [0, 1, 2, 3] rfl (vL_law_783 hL hr hk18 _ _ _ _ _ _ _ _ _ h))
def fL_law_18 (sl : Nat) (sx : Nat → Int32) : Nat → Nat → Nat → Int32 → ml_M → Option (Int32 × ml_M)
  | 0, _, _, _, _ => none
  | fu + 1, l1, l2, l3, m =>
    if ((Int32.ofNat sl) - (6 : Int32)) < l3 then
    some ((1 : Int32), m)
    else
    if ¬ (l3 < 0 ∨ sl ≤ l3.toNatClampNeg) then
    if ((sx l3.toNatClampNeg) &&& (63 : Int32)) = (0 : Int32) then
    if ¬ ((l3 + (1 : Int32)) < 0 ∨ sl ≤ (l3 + (1 : Int32)).toNatClampNeg) then
    if ¬ ((l3 + (2 : Int32)) < 0 ∨ sl ≤ (l3 + (2 : Int32)).toNatClampNeg) then
    if (ml_K m l1).1 = 10 then
    ml_b2 (fX10_row l1 (sx (l3 + (1 : Int32)).toNatClampNeg) (sx (l3 + (2 : Int32)).toNatClampNeg) m) fun r4138 m4139 =>
    if ¬ ((l3 + (1 : Int32)) < 0 ∨ sl ≤ (l3 + (1 : Int32)).toNatClampNeg) then
    if ¬ ((l3 + (2 : Int32)) < 0 ∨ sl ≤ (l3 + (2 : Int32)).toNatClampNeg) then
    if (ml_K m4139 l2).1 = 11 then
    ml_b2 (fX11_row l2 (sx (l3 + (1 : Int32)).toNatClampNeg) (sx (l3 + (2 : Int32)).toNatClampNeg) m4139) fun r4144 m4145 =>
    if r4138 = r4144 then
    fL_law_1572 sl sx (fL_law_18 sl sx fu) l1 l2 l3 m4145
    else
    some ((0 : Int32), m4145)
    else none
    else none
    else none
    else none
    else none
    else none
    else if ((sx l3.toNatClampNeg) &&& (63 : Int32)) = (1 : Int32) then
    if ¬ ((l3 + (1 : Int32)) < 0 ∨ sl ≤ (l3 + (1 : Int32)).toNatClampNeg) then
    if ¬ ((l3 + (2 : Int32)) < 0 ∨ sl ≤ (l3 + (2 : Int32)).toNatClampNeg) then
    if ¬ ((l3 + (3 : Int32)) < 0 ∨ sl ≤ (l3 + (3 : Int32)).toNatClampNeg) then
    if (ml_K m l1).1 = 10 then
    ml_b2 (fX10_lay l1 (sx (l3 + (1 : Int32)).toNatClampNeg) (sx (l3 + (2 : Int32)).toNatClampNeg) (sx (l3 + (3 : Int32)).toNatClampNeg) m) fun r4153 m4154 =>
    if ¬ ((l3 + (1 : Int32)) < 0 ∨ sl ≤ (l3 + (1 : Int32)).toNatClampNeg) then
    if ¬ ((l3 + (2 : Int32)) < 0 ∨ sl ≤ (l3 + (2 : Int32)).toNatClampNeg) then
    if ¬ ((l3 + (3 : Int32)) < 0 ∨ sl ≤ (l3 + (3 : Int32)).toNatClampNeg) then
    if (ml_K m4154 l2).1 = 11 then
    ml_b2 (fX11_lay l2 (sx (l3 + (1 : Int32)).toNatClampNeg) (sx (l3 + (2 : Int32)).toNatClampNeg) (sx (l3 + (3 : Int32)).toNatClampNeg) m4154) fun r4160 m4161 =>
    if r4153 = r4160 then
    fL_law_1572 sl sx (fL_law_18 sl sx fu) l1 l2 l3 m4161
    else
    some ((0 : Int32), m4161)
    else none
    else none
    else none
    else none
    else none
    else none
    else none
    else none
    else if ((sx l3.toNatClampNeg) &&& (63 : Int32)) = (2 : Int32) then
    if ¬ ((l3 + (1 : Int32)) < 0 ∨ sl ≤ (l3 + (1 : Int32)).toNatClampNeg) then
    if ¬ ((l3 + (2 : Int32)) < 0 ∨ sl ≤ (l3 + (2 : Int32)).toNatClampNeg) then
    if (ml_K m l1).1 = 10 then
    ml_b2 (fX10_at l1 (sx (l3 + (1 : Int32)).toNatClampNeg) (sx (l3 + (2 : Int32)).toNatClampNeg) m) fun r4168 m4169 =>
    if ¬ ((l3 + (1 : Int32)) < 0 ∨ sl ≤ (l3 + (1 : Int32)).toNatClampNeg) then
    if ¬ ((l3 + (2 : Int32)) < 0 ∨ sl ≤ (l3 + (2 : Int32)).toNatClampNeg) then
    if (ml_K m4169 l2).1 = 11 then
    ml_b2 (fX11_at l2 (sx (l3 + (1 : Int32)).toNatClampNeg) (sx (l3 + (2 : Int32)).toNatClampNeg) m4169) fun r4174 m4175 =>
    if r4168 = r4174 then
    fL_law_1572 sl sx (fL_law_18 sl sx fu) l1 l2 l3 m4175
    else
    some ((0 : Int32), m4175)
    else none
    else none
    else none
    else none
    else none
    else none
    else if ((sx l3.toNatClampNeg) &&& (63 : Int32)) = (3 : Int32) then
    if ¬ ((l3 + (1 : Int32)) < 0 ∨ sl ≤ (l3 + (1 : Int32)).toNatClampNeg) then
    if (ml_K m l1).1 = 10 then
    ml_b2 (fX10_tear l1 (sx (l3 + (1 : Int32)).toNatClampNeg) m) fun r4181 m4182 =>
    if ¬ ((l3 + (1 : Int32)) < 0 ∨ sl ≤ (l3 + (1 : Int32)).toNatClampNeg) then
    if (ml_K m4182 l2).1 = 11 then
    ml_b2 (fX11_tear l2 (sx (l3 + (1 : Int32)).toNatClampNeg) m4182) fun r4186 m4187 =>
    if r4181 = r4186 then
    fL_law_1572 sl sx (fL_law_18 sl sx fu) l1 l2 l3 m4187
    else
    some ((0 : Int32), m4187)
    else none
    else none
    else none
    else none
    else if ((sx l3.toNatClampNeg) &&& (63 : Int32)) = (4 : Int32) then
    if ¬ ((l3 + (1 : Int32)) < 0 ∨ sl ≤ (l3 + (1 : Int32)).toNatClampNeg) then
    if ¬ ((l3 + (2 : Int32)) < 0 ∨ sl ≤ (l3 + (2 : Int32)).toNatClampNeg) then
    if ¬ ((l3 + (3 : Int32)) < 0 ∨ sl ≤ (l3 + (3 : Int32)).toNatClampNeg) then
    if ¬ ((l3 + (4 : Int32)) < 0 ∨ sl ≤ (l3 + (4 : Int32)).toNatClampNeg) then
    if ¬ ((l3 + (5 : Int32)) < 0 ∨ sl ≤ (l3 + (5 : Int32)).toNatClampNeg) then
    if (ml_K m l1).1 = 10 then
    ml_b2 (fX10_copy l1 (sx (l3 + (1 : Int32)).toNatClampNeg) (sx (l3 + (2 : Int32)).toNatClampNeg) (sx (l3 + (3 : Int32)).toNatClampNeg) (sx (l3 + (4 : Int32)).toNatClampNeg) (sx (l3 + (5 : Int32)).toNatClampNeg) m) fun r4197 m4198 =>
    if ¬ ((l3 + (1 : Int32)) < 0 ∨ sl ≤ (l3 + (1 : Int32)).toNatClampNeg) then
    if ¬ ((l3 + (2 : Int32)) < 0 ∨ sl ≤ (l3 + (2 : Int32)).toNatClampNeg) then
    if ¬ ((l3 + (3 : Int32)) < 0 ∨ sl ≤ (l3 + (3 : Int32)).toNatClampNeg) then
    if ¬ ((l3 + (4 : Int32)) < 0 ∨ sl ≤ (l3 + (4 : Int32)).toNatClampNeg) then
    if ¬ ((l3 + (5 : Int32)) < 0 ∨ sl ≤ (l3 + (5 : Int32)).toNatClampNeg) then
    if (ml_K m4198 l2).1 = 11 then
    ml_b2 (fX11_copy l2 (sx (l3 + (1 : Int32)).toNatClampNeg) (sx (l3 + (2 : Int32)).toNatClampNeg) (sx (l3 + (3 : Int32)).toNatClampNeg) (sx (l3 + (4 : Int32)).toNatClampNeg) (sx (l3 + (5 : Int32)).toNatClampNeg) m4198) fun r4206 m4207 =>
    if r4197 = r4206 then
    fL_law_1572 sl sx (fL_law_18 sl sx fu) l1 l2 l3 m4207
    else
    some ((0 : Int32), m4207)
    else none
    else none
    else none
    else none
    else none
    else none
    else none
    else none
    else none
    else none
    else none
    else none
    else if ((sx l3.toNatClampNeg) &&& (63 : Int32)) = (5 : Int32) then
    if ¬ ((l3 + (1 : Int32)) < 0 ∨ sl ≤ (l3 + (1 : Int32)).toNatClampNeg) then
    if (ml_K m l1).1 = 10 then
    ml_b2 (fX10_mean l1 (sx (l3 + (1 : Int32)).toNatClampNeg) m) fun r4213 m4214 =>
    if ¬ ((l3 + (1 : Int32)) < 0 ∨ sl ≤ (l3 + (1 : Int32)).toNatClampNeg) then
    if (ml_K m4214 l2).1 = 11 then
    ml_b2 (fX11_mean l2 (sx (l3 + (1 : Int32)).toNatClampNeg) m4214) fun r4218 m4219 =>
    if r4213 = r4218 then
    fL_law_1572 sl sx (fL_law_18 sl sx fu) l1 l2 l3 m4219
    else
    some ((0 : Int32), m4219)
    else none
    else none
    else none
    else none
    else if ((sx l3.toNatClampNeg) &&& (63 : Int32)) = (6 : Int32) then
    if ¬ ((l3 + (1 : Int32)) < 0 ∨ sl ≤ (l3 + (1 : Int32)).toNatClampNeg) then
    if ¬ ((l3 + (2 : Int32)) < 0 ∨ sl ≤ (l3 + (2 : Int32)).toNatClampNeg) then
    if (ml_K m l1).1 = 10 then
    ml_b2 (fX10_text l1 (sx (l3 + (1 : Int32)).toNatClampNeg) (sx (l3 + (2 : Int32)).toNatClampNeg) m) fun r4226 m4227 =>
    if ¬ ((l3 + (1 : Int32)) < 0 ∨ sl ≤ (l3 + (1 : Int32)).toNatClampNeg) then
    if ¬ ((l3 + (2 : Int32)) < 0 ∨ sl ≤ (l3 + (2 : Int32)).toNatClampNeg) then
    if (ml_K m4227 l2).1 = 11 then
    ml_b2 (fX11_text l2 (sx (l3 + (1 : Int32)).toNatClampNeg) (sx (l3 + (2 : Int32)).toNatClampNeg) m4227) fun r4232 m4233 =>
    if r4226 = r4232 then
    fL_law_1572 sl sx (fL_law_18 sl sx fu) l1 l2 l3 m4233
    else
    some ((0 : Int32), m4233)
    else none
    else none
    else none
    else none
    else none
    else none
    else if ((sx l3.toNatClampNeg) &&& (63 : Int32)) = (7 : Int32) then
    if ¬ ((l3 + (1 : Int32)) < 0 ∨ sl ≤ (l3 + (1 : Int32)).toNatClampNeg) then
    if ¬ ((l3 + (2 : Int32)) < 0 ∨ sl ≤ (l3 + (2 : Int32)).toNatClampNeg) then
    if ¬ ((l3 + (3 : Int32)) < 0 ∨ sl ≤ (l3 + (3 : Int32)).toNatClampNeg) then
    if (ml_K m l1).1 = 10 then
    ml_b2 (fX10_put l1 (sx (l3 + (1 : Int32)).toNatClampNeg) (sx (l3 + (2 : Int32)).toNatClampNeg) (sx (l3 + (3 : Int32)).toNatClampNeg) m) fun r4241 m4242 =>
    if ¬ ((l3 + (1 : Int32)) < 0 ∨ sl ≤ (l3 + (1 : Int32)).toNatClampNeg) then
    if ¬ ((l3 + (2 : Int32)) < 0 ∨ sl ≤ (l3 + (2 : Int32)).toNatClampNeg) then
    if ¬ ((l3 + (3 : Int32)) < 0 ∨ sl ≤ (l3 + (3 : Int32)).toNatClampNeg) then
    if (ml_K m4242 l2).1 = 11 then
    ml_b2 (fX11_put l2 (sx (l3 + (1 : Int32)).toNatClampNeg) (sx (l3 + (2 : Int32)).toNatClampNeg) (sx (l3 + (3 : Int32)).toNatClampNeg) m4242) fun r4248 m4249 =>
    if r4241 = r4248 then
    fL_law_1572 sl sx (fL_law_18 sl sx fu) l1 l2 l3 m4249
    else
    some ((0 : Int32), m4249)
    else none
    else none
    else none
    else none
    else none
    else none
    else none
    else none
    else if ((sx l3.toNatClampNeg) &&& (63 : Int32)) = (8 : Int32) then
    if ¬ ((l3 + (1 : Int32)) < 0 ∨ sl ≤ (l3 + (1 : Int32)).toNatClampNeg) then
    if (ml_K m l1).1 = 10 then
    ml_b2 (fX10_fault l1 (sx (l3 + (1 : Int32)).toNatClampNeg) m) fun r4255 m4256 =>
    if ¬ ((l3 + (1 : Int32)) < 0 ∨ sl ≤ (l3 + (1 : Int32)).toNatClampNeg) then
    if (ml_K m4256 l2).1 = 11 then
    ml_b2 (fX11_fault l2 (sx (l3 + (1 : Int32)).toNatClampNeg) m4256) fun r4260 m4261 =>
    if r4255 = r4260 then
    fL_law_1572 sl sx (fL_law_18 sl sx fu) l1 l2 l3 m4261
    else
    some ((0 : Int32), m4261)
    else none
    else none
    else none
    else none
    else if ((sx l3.toNatClampNeg) &&& (63 : Int32)) = (9 : Int32) then
    if ¬ ((l3 + (1 : Int32)) < 0 ∨ sl ≤ (l3 + (1 : Int32)).toNatClampNeg) then
    if (ml_K m l1).1 = 10 then
    ml_b2 (fX10_book l1 (sx (l3 + (1 : Int32)).toNatClampNeg) m) fun r4267 m4268 =>
    if ¬ ((l3 + (1 : Int32)) < 0 ∨ sl ≤ (l3 + (1 : Int32)).toNatClampNeg) then
    if (ml_K m4268 l2).1 = 11 then
    ml_b2 (fX11_book l2 (sx (l3 + (1 : Int32)).toNatClampNeg) m4268) fun r4272 m4273 =>
    if r4267 = r4272 then
    fL_law_1572 sl sx (fL_law_18 sl sx fu) l1 l2 l3 m4273
    else
    some ((0 : Int32), m4273)
    else none
    else none
    else none
    else none
    else if ((sx l3.toNatClampNeg) &&& (63 : Int32)) = (10 : Int32) then
    if ¬ ((l3 + (1 : Int32)) < 0 ∨ sl ≤ (l3 + (1 : Int32)).toNatClampNeg) then
    if (ml_K m l1).1 = 10 then
    ml_b2 (fX10_wear l1 (sx (l3 + (1 : Int32)).toNatClampNeg) m) fun r4279 m4280 =>
    if ¬ ((l3 + (1 : Int32)) < 0 ∨ sl ≤ (l3 + (1 : Int32)).toNatClampNeg) then
    if (ml_K m4280 l2).1 = 11 then
    ml_b2 (fX11_wear l2 (sx (l3 + (1 : Int32)).toNatClampNeg) m4280) fun r4284 m4285 =>
    if r4279 = r4284 then
    fL_law_1572 sl sx (fL_law_18 sl sx fu) l1 l2 l3 m4285
    else
    some ((0 : Int32), m4285)
    else none
    else none
    else none
    else none
    else if ((sx l3.toNatClampNeg) &&& (63 : Int32)) = (11 : Int32) then
    if ¬ ((l3 + (1 : Int32)) < 0 ∨ sl ≤ (l3 + (1 : Int32)).toNatClampNeg) then
    if ¬ ((l3 + (2 : Int32)) < 0 ∨ sl ≤ (l3 + (2 : Int32)).toNatClampNeg) then
    if (ml_K m l1).1 = 10 then
    ml_b2 (fX10_lodger l1 (sx (l3 + (1 : Int32)).toNatClampNeg) (sx (l3 + (2 : Int32)).toNatClampNeg) m) fun r4292 m4293 =>
    if ¬ ((l3 + (1 : Int32)) < 0 ∨ sl ≤ (l3 + (1 : Int32)).toNatClampNeg) then
    if ¬ ((l3 + (2 : Int32)) < 0 ∨ sl ≤ (l3 + (2 : Int32)).toNatClampNeg) then
    if (ml_K m4293 l2).1 = 11 then
    ml_b2 (fX11_lodger l2 (sx (l3 + (1 : Int32)).toNatClampNeg) (sx (l3 + (2 : Int32)).toNatClampNeg) m4293) fun r4298 m4299 =>
    if r4292 = r4298 then
    fL_law_1572 sl sx (fL_law_18 sl sx fu) l1 l2 l3 m4299
    else
    some ((0 : Int32), m4299)
    else none
    else none
    else none
    else none
    else none
    else none
    else if ((sx l3.toNatClampNeg) &&& (63 : Int32)) = (12 : Int32) then
    if ¬ ((l3 + (1 : Int32)) < 0 ∨ sl ≤ (l3 + (1 : Int32)).toNatClampNeg) then
    if ¬ ((l3 + (2 : Int32)) < 0 ∨ sl ≤ (l3 + (2 : Int32)).toNatClampNeg) then
    if (ml_K m l1).1 = 10 then
    ml_b2 (fX10_trunk l1 (sx (l3 + (1 : Int32)).toNatClampNeg) (sx (l3 + (2 : Int32)).toNatClampNeg) m) fun r4306 m4307 =>
    if ¬ ((l3 + (1 : Int32)) < 0 ∨ sl ≤ (l3 + (1 : Int32)).toNatClampNeg) then
    if ¬ ((l3 + (2 : Int32)) < 0 ∨ sl ≤ (l3 + (2 : Int32)).toNatClampNeg) then
    if (ml_K m4307 l2).1 = 11 then
    ml_b2 (fX11_trunk l2 (sx (l3 + (1 : Int32)).toNatClampNeg) (sx (l3 + (2 : Int32)).toNatClampNeg) m4307) fun r4312 m4313 =>
    if r4306 = r4312 then
    fL_law_1572 sl sx (fL_law_18 sl sx fu) l1 l2 l3 m4313
    else
    some ((0 : Int32), m4313)
    else none
    else none
    else none
    else none
    else none
    else none
    else if ((sx l3.toNatClampNeg) &&& (63 : Int32)) = (13 : Int32) then
    if ¬ ((l3 + (1 : Int32)) < 0 ∨ sl ≤ (l3 + (1 : Int32)).toNatClampNeg) then
    if ¬ ((l3 + (2 : Int32)) < 0 ∨ sl ≤ (l3 + (2 : Int32)).toNatClampNeg) then
    if ¬ ((l3 + (3 : Int32)) < 0 ∨ sl ≤ (l3 + (3 : Int32)).toNatClampNeg) then
    if ¬ ((l3 + (4 : Int32)) < 0 ∨ sl ≤ (l3 + (4 : Int32)).toNatClampNeg) then
    if ¬ ((l3 + (5 : Int32)) < 0 ∨ sl ≤ (l3 + (5 : Int32)).toNatClampNeg) then
    if (ml_K m l1).1 = 10 then
    ml_b2 (fX10_thing l1 (sx (l3 + (1 : Int32)).toNatClampNeg) (sx (l3 + (2 : Int32)).toNatClampNeg) (sx (l3 + (3 : Int32)).toNatClampNeg) (sx (l3 + (4 : Int32)).toNatClampNeg) (sx (l3 + (5 : Int32)).toNatClampNeg) m) fun r4323 m4324 =>
    if ¬ ((l3 + (1 : Int32)) < 0 ∨ sl ≤ (l3 + (1 : Int32)).toNatClampNeg) then
    if ¬ ((l3 + (2 : Int32)) < 0 ∨ sl ≤ (l3 + (2 : Int32)).toNatClampNeg) then
    if ¬ ((l3 + (3 : Int32)) < 0 ∨ sl ≤ (l3 + (3 : Int32)).toNatClampNeg) then
    if ¬ ((l3 + (4 : Int32)) < 0 ∨ sl ≤ (l3 + (4 : Int32)).toNatClampNeg) then
    if ¬ ((l3 + (5 : Int32)) < 0 ∨ sl ≤ (l3 + (5 : Int32)).toNatClampNeg) then
    if (ml_K m4324 l2).1 = 11 then
    ml_b2 (fX11_thing l2 (sx (l3 + (1 : Int32)).toNatClampNeg) (sx (l3 + (2 : Int32)).toNatClampNeg) (sx (l3 + (3 : Int32)).toNatClampNeg) (sx (l3 + (4 : Int32)).toNatClampNeg) (sx (l3 + (5 : Int32)).toNatClampNeg) m4324) fun r4332 m4333 =>
    if r4323 = r4332 then
    fL_law_1572 sl sx (fL_law_18 sl sx fu) l1 l2 l3 m4333
    else
    some ((0 : Int32), m4333)
    else none
    else none
    else none
    else none
    else none
    else none
    else none
    else none
    else none
    else none
    else none
    else none
    else if ((sx l3.toNatClampNeg) &&& (63 : Int32)) = (14 : Int32) then
    if ¬ ((l3 + (1 : Int32)) < 0 ∨ sl ≤ (l3 + (1 : Int32)).toNatClampNeg) then
    if ¬ ((l3 + (2 : Int32)) < 0 ∨ sl ≤ (l3 + (2 : Int32)).toNatClampNeg) then
    if ¬ ((l3 + (3 : Int32)) < 0 ∨ sl ≤ (l3 + (3 : Int32)).toNatClampNeg) then
    if (sx (l3 + (3 : Int32)).toNatClampNeg) = 0 then
    fL_law_756 sl sx (fL_law_18 sl sx fu) l1 l2 l3 (0 : Int32) (sx (l3 + (2 : Int32)).toNatClampNeg) (sx (l3 + (1 : Int32)).toNatClampNeg) l1 m
    else
    fL_law_756 sl sx (fL_law_18 sl sx fu) l1 l2 l3 (1 : Int32) (sx (l3 + (2 : Int32)).toNatClampNeg) (sx (l3 + (1 : Int32)).toNatClampNeg) l1 m
    else none
    else none
    else none
    else if ((sx l3.toNatClampNeg) &&& (63 : Int32)) = (15 : Int32) then
    if ¬ ((l3 + (1 : Int32)) < 0 ∨ sl ≤ (l3 + (1 : Int32)).toNatClampNeg) then
    if ¬ ((l3 + (2 : Int32)) < 0 ∨ sl ≤ (l3 + (2 : Int32)).toNatClampNeg) then
    if (ml_K m l1).1 = 10 then
    ml_b2 (fX10_told l1 (sx (l3 + (1 : Int32)).toNatClampNeg) (sx (l3 + (2 : Int32)).toNatClampNeg) m) fun r4345 m4346 =>
    if ¬ ((l3 + (1 : Int32)) < 0 ∨ sl ≤ (l3 + (1 : Int32)).toNatClampNeg) then
    if ¬ ((l3 + (2 : Int32)) < 0 ∨ sl ≤ (l3 + (2 : Int32)).toNatClampNeg) then
    if (ml_K m4346 l2).1 = 11 then
    ml_b2 (fX11_told l2 (sx (l3 + (1 : Int32)).toNatClampNeg) (sx (l3 + (2 : Int32)).toNatClampNeg) m4346) fun r4351 m4352 =>
    if r4345 = r4351 then
    fL_law_1572 sl sx (fL_law_18 sl sx fu) l1 l2 l3 m4352
    else
    some ((0 : Int32), m4352)
    else none
    else none
    else none
    else none
    else none
    else none
    else if ((sx l3.toNatClampNeg) &&& (63 : Int32)) = (16 : Int32) then
    if ¬ ((l3 + (1 : Int32)) < 0 ∨ sl ≤ (l3 + (1 : Int32)).toNatClampNeg) then
    if ¬ ((l3 + (2 : Int32)) < 0 ∨ sl ≤ (l3 + (2 : Int32)).toNatClampNeg) then
    if (ml_K m l1).1 = 10 then
    ml_b2 (fX10_mark l1 (sx (l3 + (1 : Int32)).toNatClampNeg) (sx (l3 + (2 : Int32)).toNatClampNeg) m) fun r4359 m4360 =>
    if ¬ ((l3 + (1 : Int32)) < 0 ∨ sl ≤ (l3 + (1 : Int32)).toNatClampNeg) then
    if ¬ ((l3 + (2 : Int32)) < 0 ∨ sl ≤ (l3 + (2 : Int32)).toNatClampNeg) then
    if (ml_K m4360 l2).1 = 11 then
    ml_b2 (fX11_mark l2 (sx (l3 + (1 : Int32)).toNatClampNeg) (sx (l3 + (2 : Int32)).toNatClampNeg) m4360) fun r4365 m4366 =>
    if r4359 = r4365 then
    fL_law_1572 sl sx (fL_law_18 sl sx fu) l1 l2 l3 m4366
    else
    some ((0 : Int32), m4366)
    else none
    else none
    else none
    else none
    else none
    else none
    else if ((sx l3.toNatClampNeg) &&& (63 : Int32)) = (17 : Int32) then
    if ¬ ((l3 + (1 : Int32)) < 0 ∨ sl ≤ (l3 + (1 : Int32)).toNatClampNeg) then
    if (ml_K m l1).1 = 10 then
    ml_b1 (fX10_may l1 (sx (l3 + (1 : Int32)).toNatClampNeg) m) fun r4372 =>
    if ¬ ((l3 + (1 : Int32)) < 0 ∨ sl ≤ (l3 + (1 : Int32)).toNatClampNeg) then
    if (ml_K m l2).1 = 11 then
    ml_b1 (fX11_may l2 (sx (l3 + (1 : Int32)).toNatClampNeg) m) fun r4376 =>
    if r4372 = r4376 then
    fL_law_1572 sl sx (fL_law_18 sl sx fu) l1 l2 l3 m
    else
    some ((0 : Int32), m)
    else none
    else none
    else none
    else none
    else if ((sx l3.toNatClampNeg) &&& (63 : Int32)) = (18 : Int32) then
    if (ml_K m l1).1 = 10 then
    ml_b2 (fX10_fewest l1 m) fun r4381 m4382 =>
    if (ml_K m4382 l2).1 = 11 then
    ml_b2 (fX11_fewest l2 m4382) fun r4385 m4386 =>
    if r4381 = r4385 then
    fL_law_1572 sl sx (fL_law_18 sl sx fu) l1 l2 l3 m4386
    else
    some ((0 : Int32), m4386)
    else none
    else none
    else if ((sx l3.toNatClampNeg) &&& (63 : Int32)) = (19 : Int32) then
    if (ml_K m l1).1 = 10 then
    ml_b2 (fX10_fits l1 m) fun r4391 m4392 =>
    if (ml_K m4392 l2).1 = 11 then
    ml_b2 (fX11_fits l2 m4392) fun r4395 m4396 =>
    if r4391 = r4395 then
    fL_law_1572 sl sx (fL_law_18 sl sx fu) l1 l2 l3 m4396
    else
    some ((0 : Int32), m4396)
    else none
    else none
    else if ((sx l3.toNatClampNeg) &&& (63 : Int32)) = (20 : Int32) then
    if ¬ ((l3 + (1 : Int32)) < 0 ∨ sl ≤ (l3 + (1 : Int32)).toNatClampNeg) then
    if (ml_K m l1).1 = 10 then
    ml_b2 (fX10_opens l1 (sx (l3 + (1 : Int32)).toNatClampNeg) m) fun r4402 m4403 =>
    if ¬ ((l3 + (1 : Int32)) < 0 ∨ sl ≤ (l3 + (1 : Int32)).toNatClampNeg) then
    if (ml_K m4403 l2).1 = 11 then
    ml_b2 (fX11_opens l2 (sx (l3 + (1 : Int32)).toNatClampNeg) m4403) fun r4407 m4408 =>
    if r4402 = r4407 then
    fL_law_1572 sl sx (fL_law_18 sl sx fu) l1 l2 l3 m4408
    else
    some ((0 : Int32), m4408)
    else none
    else none
    else none
    else none
    else if ((sx l3.toNatClampNeg) &&& (63 : Int32)) = (21 : Int32) then
    if (ml_K m l1).1 = 10 then
    ml_b2 (fX10_strange l1 m) fun r4413 m4414 =>
    if (ml_K m4414 l2).1 = 11 then
    ml_b2 (fX11_strange l2 m4414) fun r4417 m4418 =>
    if r4413 = r4417 then
    fL_law_1572 sl sx (fL_law_18 sl sx fu) l1 l2 l3 m4418
    else
    some ((0 : Int32), m4418)
    else none
    else none
    else if ((sx l3.toNatClampNeg) &&& (63 : Int32)) = (22 : Int32) then
    if (ml_K m l1).1 = 10 then
    ml_b2 (fX10_water l1 m) fun r4423 m4424 =>
    if (ml_K m4424 l2).1 = 11 then
    ml_b2 (fX11_water l2 m4424) fun r4427 m4428 =>
    if r4423 = r4427 then
    fL_law_1572 sl sx (fL_law_18 sl sx fu) l1 l2 l3 m4428
    else
    some ((0 : Int32), m4428)
    else none
    else none
    else if ((sx l3.toNatClampNeg) &&& (63 : Int32)) = (23 : Int32) then
    if ¬ ((l3 + (1 : Int32)) < 0 ∨ sl ≤ (l3 + (1 : Int32)).toNatClampNeg) then
    if (ml_K m l1).1 = 10 then
    ml_b2 (fX10_piling l1 (sx (l3 + (1 : Int32)).toNatClampNeg) m) fun r4434 m4435 =>
    if ¬ ((l3 + (1 : Int32)) < 0 ∨ sl ≤ (l3 + (1 : Int32)).toNatClampNeg) then
    if (ml_K m4435 l2).1 = 11 then
    ml_b2 (fX11_piling l2 (sx (l3 + (1 : Int32)).toNatClampNeg) m4435) fun r4439 m4440 =>
    if r4434 = r4439 then
    fL_law_1572 sl sx (fL_law_18 sl sx fu) l1 l2 l3 m4440
    else
    some ((0 : Int32), m4440)
    else none
    else none
    else none
    else none
    else if ((sx l3.toNatClampNeg) &&& (63 : Int32)) = (24 : Int32) then
    if ¬ ((l3 + (1 : Int32)) < 0 ∨ sl ≤ (l3 + (1 : Int32)).toNatClampNeg) then
    if (ml_K m l1).1 = 10 then
    ml_b2 (fX10_share l1 (sx (l3 + (1 : Int32)).toNatClampNeg) m) fun r4446 m4447 =>
    if ¬ ((l3 + (1 : Int32)) < 0 ∨ sl ≤ (l3 + (1 : Int32)).toNatClampNeg) then
    if (ml_K m4447 l2).1 = 11 then
    ml_b2 (fX11_share l2 (sx (l3 + (1 : Int32)).toNatClampNeg) m4447) fun r4451 m4452 =>
    if r4446 = r4451 then
    fL_law_1572 sl sx (fL_law_18 sl sx fu) l1 l2 l3 m4452
    else
    some ((0 : Int32), m4452)
    else none
    else none
    else none
    else none
    else if ((sx l3.toNatClampNeg) &&& (63 : Int32)) = (25 : Int32) then
    if ¬ ((l3 + (1 : Int32)) < 0 ∨ sl ≤ (l3 + (1 : Int32)).toNatClampNeg) then
    if (ml_K m l1).1 = 10 then
    ml_b2 (fX10_ways l1 (sx (l3 + (1 : Int32)).toNatClampNeg) m) fun r4458 m4459 =>
    if ¬ ((l3 + (1 : Int32)) < 0 ∨ sl ≤ (l3 + (1 : Int32)).toNatClampNeg) then
    if (ml_K m4459 l2).1 = 11 then
    ml_b2 (fX11_ways l2 (sx (l3 + (1 : Int32)).toNatClampNeg) m4459) fun r4463 m4464 =>
    if r4458 = r4463 then
    fL_law_1572 sl sx (fL_law_18 sl sx fu) l1 l2 l3 m4464
    else
    some ((0 : Int32), m4464)
    else none
    else none
    else none
    else none
    else if ((sx l3.toNatClampNeg) &&& (63 : Int32)) = (26 : Int32) then
    if ¬ ((l3 + (1 : Int32)) < 0 ∨ sl ≤ (l3 + (1 : Int32)).toNatClampNeg) then
    if ¬ ((l3 + (2 : Int32)) < 0 ∨ sl ≤ (l3 + (2 : Int32)).toNatClampNeg) then
    if (ml_K m l1).1 = 10 then
    ml_b2 (fX10_whose l1 (sx (l3 + (1 : Int32)).toNatClampNeg) (sx (l3 + (2 : Int32)).toNatClampNeg) m) fun r4471 m4472 =>
    if ¬ ((l3 + (1 : Int32)) < 0 ∨ sl ≤ (l3 + (1 : Int32)).toNatClampNeg) then
    if ¬ ((l3 + (2 : Int32)) < 0 ∨ sl ≤ (l3 + (2 : Int32)).toNatClampNeg) then
    if (ml_K m4472 l2).1 = 11 then
    ml_b2 (fX11_whose l2 (sx (l3 + (1 : Int32)).toNatClampNeg) (sx (l3 + (2 : Int32)).toNatClampNeg) m4472) fun r4477 m4478 =>
    if r4471 = r4477 then
    fL_law_1572 sl sx (fL_law_18 sl sx fu) l1 l2 l3 m4478
    else
    some ((0 : Int32), m4478)
    else none
    else none
    else none
    else none
    else none
    else none
    else if ((sx l3.toNatClampNeg) &&& (63 : Int32)) = (27 : Int32) then
    if ¬ ((l3 + (1 : Int32)) < 0 ∨ sl ≤ (l3 + (1 : Int32)).toNatClampNeg) then
    if (ml_K m l1).1 = 10 then
    ml_b2 (fX10_sure l1 (sx (l3 + (1 : Int32)).toNatClampNeg) m) fun r4484 m4485 =>
    if ¬ ((l3 + (1 : Int32)) < 0 ∨ sl ≤ (l3 + (1 : Int32)).toNatClampNeg) then
    if (ml_K m4485 l2).1 = 11 then
    ml_b2 (fX11_sure l2 (sx (l3 + (1 : Int32)).toNatClampNeg) m4485) fun r4489 m4490 =>
    if r4484 = r4489 then
    fL_law_1572 sl sx (fL_law_18 sl sx fu) l1 l2 l3 m4490
    else
    some ((0 : Int32), m4490)
    else none
    else none
    else none
    else none
    else if ((sx l3.toNatClampNeg) &&& (63 : Int32)) = (28 : Int32) then
    if ¬ ((l3 + (1 : Int32)) < 0 ∨ sl ≤ (l3 + (1 : Int32)).toNatClampNeg) then
    if (ml_K m l1).1 = 10 then
    ml_b2 (fX10_next l1 (sx (l3 + (1 : Int32)).toNatClampNeg) m) fun r4496 m4497 =>
    if ¬ ((l3 + (1 : Int32)) < 0 ∨ sl ≤ (l3 + (1 : Int32)).toNatClampNeg) then
    if (ml_K m4497 l2).1 = 11 then
    ml_b2 (fX11_next l2 (sx (l3 + (1 : Int32)).toNatClampNeg) m4497) fun r4501 m4502 =>
    if r4496 = r4501 then
    fL_law_1572 sl sx (fL_law_18 sl sx fu) l1 l2 l3 m4502
    else
    some ((0 : Int32), m4502)
    else none
    else none
    else none
    else none
    else if ((sx l3.toNatClampNeg) &&& (63 : Int32)) = (29 : Int32) then
    if ¬ ((l3 + (1 : Int32)) < 0 ∨ sl ≤ (l3 + (1 : Int32)).toNatClampNeg) then
    if ¬ ((l3 + (2 : Int32)) < 0 ∨ sl ≤ (l3 + (2 : Int32)).toNatClampNeg) then
    if (ml_K m l1).1 = 10 then
    ml_b2 (fX10_moves l1 (sx (l3 + (1 : Int32)).toNatClampNeg) (sx (l3 + (2 : Int32)).toNatClampNeg) m) fun r4509 m4510 =>
    if ¬ ((l3 + (1 : Int32)) < 0 ∨ sl ≤ (l3 + (1 : Int32)).toNatClampNeg) then
    if ¬ ((l3 + (2 : Int32)) < 0 ∨ sl ≤ (l3 + (2 : Int32)).toNatClampNeg) then
    if (ml_K m4510 l2).1 = 11 then
    ml_b2 (fX11_moves l2 (sx (l3 + (1 : Int32)).toNatClampNeg) (sx (l3 + (2 : Int32)).toNatClampNeg) m4510) fun r4515 m4516 =>
    if r4509 = r4515 then
    fL_law_1572 sl sx (fL_law_18 sl sx fu) l1 l2 l3 m4516
    else
    some ((0 : Int32), m4516)
    else none
    else none
    else none
    else none
    else none
    else none
    else if ((sx l3.toNatClampNeg) &&& (63 : Int32)) = (30 : Int32) then
    if ¬ ((l3 + (1 : Int32)) < 0 ∨ sl ≤ (l3 + (1 : Int32)).toNatClampNeg) then
    if ¬ ((l3 + (2 : Int32)) < 0 ∨ sl ≤ (l3 + (2 : Int32)).toNatClampNeg) then
    if ¬ ((l3 + (3 : Int32)) < 0 ∨ sl ≤ (l3 + (3 : Int32)).toNatClampNeg) then
    if (ml_K m l1).1 = 10 then
    ml_b2 (fX10_line l1 (sx (l3 + (1 : Int32)).toNatClampNeg) (sx (l3 + (2 : Int32)).toNatClampNeg) (sx (l3 + (3 : Int32)).toNatClampNeg) m) fun r4524 m4525 =>
    if ¬ ((l3 + (1 : Int32)) < 0 ∨ sl ≤ (l3 + (1 : Int32)).toNatClampNeg) then
    if ¬ ((l3 + (2 : Int32)) < 0 ∨ sl ≤ (l3 + (2 : Int32)).toNatClampNeg) then
    if ¬ ((l3 + (3 : Int32)) < 0 ∨ sl ≤ (l3 + (3 : Int32)).toNatClampNeg) then
    if (ml_K m4525 l2).1 = 11 then
    ml_b2 (fX11_line l2 (sx (l3 + (1 : Int32)).toNatClampNeg) (sx (l3 + (2 : Int32)).toNatClampNeg) (sx (l3 + (3 : Int32)).toNatClampNeg) m4525) fun r4531 m4532 =>
    if r4524 = r4531 then
    fL_law_1572 sl sx (fL_law_18 sl sx fu) l1 l2 l3 m4532
    else
    some ((0 : Int32), m4532)
    else none
    else none
    else none
    else none
    else none
    else none
    else none
    else none
    else if ((sx l3.toNatClampNeg) &&& (63 : Int32)) = (31 : Int32) then
    if (ml_K m l1).1 = 10 then
    ml_b2 (fX10_readings l1 m) fun r4537 m4538 =>
    if (ml_K m4538 l2).1 = 11 then
    ml_b2 (fX11_readings l2 m4538) fun r4541 m4542 =>
    if r4537 = r4541 then
    fL_law_1572 sl sx (fL_law_18 sl sx fu) l1 l2 l3 m4542
    else
    some ((0 : Int32), m4542)
    else none
    else none
    else if ((sx l3.toNatClampNeg) &&& (63 : Int32)) = (32 : Int32) then
    if ¬ ((l3 + (1 : Int32)) < 0 ∨ sl ≤ (l3 + (1 : Int32)).toNatClampNeg) then
    if (ml_K m l1).1 = 10 then
    ml_b2 (fX10_lineOf l1 (sx (l3 + (1 : Int32)).toNatClampNeg) m) fun r4548 m4549 =>
    if ¬ ((l3 + (1 : Int32)) < 0 ∨ sl ≤ (l3 + (1 : Int32)).toNatClampNeg) then
    if (ml_K m4549 l2).1 = 11 then
    ml_b2 (fX11_lineOf l2 (sx (l3 + (1 : Int32)).toNatClampNeg) m4549) fun r4553 m4554 =>
    if r4548 = r4553 then
    fL_law_1572 sl sx (fL_law_18 sl sx fu) l1 l2 l3 m4554
    else
    some ((0 : Int32), m4554)
    else none
    else none
    else none
    else none
    else if ((sx l3.toNatClampNeg) &&& (63 : Int32)) = (33 : Int32) then
    if ¬ ((l3 + (1 : Int32)) < 0 ∨ sl ≤ (l3 + (1 : Int32)).toNatClampNeg) then
    if ¬ ((l3 + (2 : Int32)) < 0 ∨ sl ≤ (l3 + (2 : Int32)).toNatClampNeg) then
    if ¬ ((l3 + (3 : Int32)) < 0 ∨ sl ≤ (l3 + (3 : Int32)).toNatClampNeg) then
    if ¬ ((l3 + (4 : Int32)) < 0 ∨ sl ≤ (l3 + (4 : Int32)).toNatClampNeg) then
    if (ml_K m l1).1 = 10 then
    ml_b2 (fX10_bit l1 (sx (l3 + (1 : Int32)).toNatClampNeg) (sx (l3 + (2 : Int32)).toNatClampNeg) (sx (l3 + (3 : Int32)).toNatClampNeg) (sx (l3 + (4 : Int32)).toNatClampNeg) m) fun r4563 m4564 =>
    if ¬ ((l3 + (1 : Int32)) < 0 ∨ sl ≤ (l3 + (1 : Int32)).toNatClampNeg) then
    if ¬ ((l3 + (2 : Int32)) < 0 ∨ sl ≤ (l3 + (2 : Int32)).toNatClampNeg) then
    if ¬ ((l3 + (3 : Int32)) < 0 ∨ sl ≤ (l3 + (3 : Int32)).toNatClampNeg) then
    if ¬ ((l3 + (4 : Int32)) < 0 ∨ sl ≤ (l3 + (4 : Int32)).toNatClampNeg) then
    if (ml_K m4564 l2).1 = 11 then
    ml_b2 (fX11_bit l2 (sx (l3 + (1 : Int32)).toNatClampNeg) (sx (l3 + (2 : Int32)).toNatClampNeg) (sx (l3 + (3 : Int32)).toNatClampNeg) (sx (l3 + (4 : Int32)).toNatClampNeg) m4564) fun r4571 m4572 =>
    if r4563 = r4571 then
    fL_law_1572 sl sx (fL_law_18 sl sx fu) l1 l2 l3 m4572
    else
    some ((0 : Int32), m4572)
    else none
    else none
    else none
    else none
    else none
    else none
    else none
    else none
    else none
    else none
    else if ((sx l3.toNatClampNeg) &&& (63 : Int32)) = (34 : Int32) then
    if ¬ ((l3 + (1 : Int32)) < 0 ∨ sl ≤ (l3 + (1 : Int32)).toNatClampNeg) then
    if ¬ ((l3 + (2 : Int32)) < 0 ∨ sl ≤ (l3 + (2 : Int32)).toNatClampNeg) then
    if (ml_K m l1).1 = 10 then
    ml_b1 (fX10_joins l1 (sx (l3 + (1 : Int32)).toNatClampNeg) (sx (l3 + (2 : Int32)).toNatClampNeg) m) fun r4579 =>
    if ¬ ((l3 + (1 : Int32)) < 0 ∨ sl ≤ (l3 + (1 : Int32)).toNatClampNeg) then
    if ¬ ((l3 + (2 : Int32)) < 0 ∨ sl ≤ (l3 + (2 : Int32)).toNatClampNeg) then
    if (ml_K m l2).1 = 11 then
    ml_b1 (fX11_joins l2 (sx (l3 + (1 : Int32)).toNatClampNeg) (sx (l3 + (2 : Int32)).toNatClampNeg) m) fun r4584 =>
    if r4579 = r4584 then
    fL_law_1572 sl sx (fL_law_18 sl sx fu) l1 l2 l3 m
    else
    some ((0 : Int32), m)
    else none
    else none
    else none
    else none
    else none
    else none
    else if ((sx l3.toNatClampNeg) &&& (63 : Int32)) = (35 : Int32) then
    if ¬ ((l3 + (1 : Int32)) < 0 ∨ sl ≤ (l3 + (1 : Int32)).toNatClampNeg) then
    if (ml_K m l1).1 = 10 then
    ml_b2 (fX10_sheets l1 (sx (l3 + (1 : Int32)).toNatClampNeg) m) fun r4590 m4591 =>
    if ¬ ((l3 + (1 : Int32)) < 0 ∨ sl ≤ (l3 + (1 : Int32)).toNatClampNeg) then
    if (ml_K m4591 l2).1 = 11 then
    ml_b2 (fX11_sheets l2 (sx (l3 + (1 : Int32)).toNatClampNeg) m4591) fun r4595 m4596 =>
    if r4590 = r4595 then
    fL_law_1572 sl sx (fL_law_18 sl sx fu) l1 l2 l3 m4596
    else
    some ((0 : Int32), m4596)
    else none
    else none
    else none
    else none
    else if ((sx l3.toNatClampNeg) &&& (63 : Int32)) = (36 : Int32) then
    if (ml_K m l1).1 = 10 then
    ml_b2 (fX10_laid l1 m) fun r4601 m4602 =>
    if (ml_K m4602 l2).1 = 11 then
    ml_b2 (fX11_laid l2 m4602) fun r4605 m4606 =>
    if r4601 = r4605 then
    fL_law_1572 sl sx (fL_law_18 sl sx fu) l1 l2 l3 m4606
    else
    some ((0 : Int32), m4606)
    else none
    else none
    else if ((sx l3.toNatClampNeg) &&& (63 : Int32)) = (37 : Int32) then
    if (ml_K m l1).1 = 10 then
    ml_b2 (fX10_travellers l1 m) fun r4611 m4612 =>
    if (ml_K m4612 l2).1 = 11 then
    ml_b2 (fX11_travellers l2 m4612) fun r4615 m4616 =>
    if r4611 = r4615 then
    fL_law_1572 sl sx (fL_law_18 sl sx fu) l1 l2 l3 m4616
    else
    some ((0 : Int32), m4616)
    else none
    else none
    else if ((sx l3.toNatClampNeg) &&& (63 : Int32)) = (38 : Int32) then
    if ¬ ((l3 + (1 : Int32)) < 0 ∨ sl ≤ (l3 + (1 : Int32)).toNatClampNeg) then
    if (ml_K m l1).1 = 10 then
    ml_b2 (fX10_journey l1 (sx (l3 + (1 : Int32)).toNatClampNeg) m) fun r4622 m4623 =>
    if ¬ ((l3 + (1 : Int32)) < 0 ∨ sl ≤ (l3 + (1 : Int32)).toNatClampNeg) then
    if (ml_K m4623 l2).1 = 11 then
    ml_b2 (fX11_journey l2 (sx (l3 + (1 : Int32)).toNatClampNeg) m4623) fun r4627 m4628 =>
    if r4622 = r4627 then
    fL_law_1572 sl sx (fL_law_18 sl sx fu) l1 l2 l3 m4628
    else
    some ((0 : Int32), m4628)
    else none
    else none
    else none
    else none
    else if ((sx l3.toNatClampNeg) &&& (63 : Int32)) = (39 : Int32) then
    if ¬ ((l3 + (1 : Int32)) < 0 ∨ sl ≤ (l3 + (1 : Int32)).toNatClampNeg) then
    if ¬ ((l3 + (2 : Int32)) < 0 ∨ sl ≤ (l3 + (2 : Int32)).toNatClampNeg) then
    if ¬ ((l3 + (3 : Int32)) < 0 ∨ sl ≤ (l3 + (3 : Int32)).toNatClampNeg) then
    if (ml_K m l1).1 = 10 then
    ml_b2 (fX10_claim l1 (sx (l3 + (1 : Int32)).toNatClampNeg) (sx (l3 + (2 : Int32)).toNatClampNeg) (sx (l3 + (3 : Int32)).toNatClampNeg) m) fun r4636 m4637 =>
    if ¬ ((l3 + (1 : Int32)) < 0 ∨ sl ≤ (l3 + (1 : Int32)).toNatClampNeg) then
    if ¬ ((l3 + (2 : Int32)) < 0 ∨ sl ≤ (l3 + (2 : Int32)).toNatClampNeg) then
    if ¬ ((l3 + (3 : Int32)) < 0 ∨ sl ≤ (l3 + (3 : Int32)).toNatClampNeg) then
    if (ml_K m4637 l2).1 = 11 then
    ml_b2 (fX11_claim l2 (sx (l3 + (1 : Int32)).toNatClampNeg) (sx (l3 + (2 : Int32)).toNatClampNeg) (sx (l3 + (3 : Int32)).toNatClampNeg) m4637) fun r4643 m4644 =>
    if r4636 = r4643 then
    fL_law_1572 sl sx (fL_law_18 sl sx fu) l1 l2 l3 m4644
    else
    some ((0 : Int32), m4644)
    else none
    else none
    else none
    else none
    else none
    else none
    else none
    else none
    else if ((sx l3.toNatClampNeg) &&& (63 : Int32)) = (40 : Int32) then
    if ¬ ((l3 + (1 : Int32)) < 0 ∨ sl ≤ (l3 + (1 : Int32)).toNatClampNeg) then
    if (ml_K m l1).1 = 10 then
    ml_b2 (fX10_judge l1 (sx (l3 + (1 : Int32)).toNatClampNeg) m) fun r4650 m4651 =>
    if ¬ ((l3 + (1 : Int32)) < 0 ∨ sl ≤ (l3 + (1 : Int32)).toNatClampNeg) then
    if (ml_K m4651 l2).1 = 11 then
    ml_b2 (fX11_judge l2 (sx (l3 + (1 : Int32)).toNatClampNeg) m4651) fun r4655 m4656 =>
    if r4650 = r4655 then
    fL_law_1572 sl sx (fL_law_18 sl sx fu) l1 l2 l3 m4656
    else
    some ((0 : Int32), m4656)
    else none
    else none
    else none
    else none
    else if ((sx l3.toNatClampNeg) &&& (63 : Int32)) = (41 : Int32) then
    if ¬ ((l3 + (1 : Int32)) < 0 ∨ sl ≤ (l3 + (1 : Int32)).toNatClampNeg) then
    if ¬ ((l3 + (2 : Int32)) < 0 ∨ sl ≤ (l3 + (2 : Int32)).toNatClampNeg) then
    if (ml_K m l1).1 = 10 then
    ml_b2 (fX10_heir l1 (sx (l3 + (1 : Int32)).toNatClampNeg) (sx (l3 + (2 : Int32)).toNatClampNeg) m) fun r4663 m4664 =>
    if ¬ ((l3 + (1 : Int32)) < 0 ∨ sl ≤ (l3 + (1 : Int32)).toNatClampNeg) then
    if ¬ ((l3 + (2 : Int32)) < 0 ∨ sl ≤ (l3 + (2 : Int32)).toNatClampNeg) then
    if (ml_K m4664 l2).1 = 11 then
    ml_b2 (fX11_heir l2 (sx (l3 + (1 : Int32)).toNatClampNeg) (sx (l3 + (2 : Int32)).toNatClampNeg) m4664) fun r4669 m4670 =>
    if r4663 = r4669 then
    fL_law_1572 sl sx (fL_law_18 sl sx fu) l1 l2 l3 m4670
    else
    some ((0 : Int32), m4670)
    else none
    else none
    else none
    else none
    else none
    else none
    else if ((sx l3.toNatClampNeg) &&& (63 : Int32)) = (42 : Int32) then
    if (ml_K m l1).1 = 10 then
    ml_b1 (fX10_asked l1 m) fun r4675 =>
    if (ml_K m l2).1 = 11 then
    ml_b1 (fX11_asked l2 m) fun r4678 =>
    if r4675 = r4678 then
    fL_law_1572 sl sx (fL_law_18 sl sx fu) l1 l2 l3 m
    else
    some ((0 : Int32), m)
    else none
    else none
    else if ((sx l3.toNatClampNeg) &&& (63 : Int32)) = (43 : Int32) then
    if (ml_K m l1).1 = 10 then
    ml_b1 (fX10_many l1 m) fun r4683 =>
    if (ml_K m l2).1 = 11 then
    ml_b1 (fX11_many l2 m) fun r4686 =>
    if (lg_cmp r4683 r4686) = 0 then
    fL_law_1572 sl sx (fL_law_18 sl sx fu) l1 l2 l3 m
    else
    some ((0 : Int32), m)
    else none
    else none
    else if ((sx l3.toNatClampNeg) &&& (63 : Int32)) = (44 : Int32) then
    if ¬ ((l3 + (1 : Int32)) < 0 ∨ sl ≤ (l3 + (1 : Int32)).toNatClampNeg) then
    if (ml_K m l1).1 = 10 then
    ml_b1 (fX10_count l1 (sx (l3 + (1 : Int32)).toNatClampNeg) m) fun r4692 =>
    if ¬ ((l3 + (1 : Int32)) < 0 ∨ sl ≤ (l3 + (1 : Int32)).toNatClampNeg) then
    if (ml_K m l2).1 = 11 then
    ml_b1 (fX11_count l2 (sx (l3 + (1 : Int32)).toNatClampNeg) m) fun r4696 =>
    if r4692 = r4696 then
    fL_law_1572 sl sx (fL_law_18 sl sx fu) l1 l2 l3 m
    else
    some ((0 : Int32), m)
    else none
    else none
    else none
    else none
    else if ((sx l3.toNatClampNeg) &&& (63 : Int32)) = (45 : Int32) then
    if (ml_K m l1).1 = 10 then
    ml_b1 (fX10_finding l1 m) fun r4701 =>
    if (ml_K m l2).1 = 11 then
    ml_b1 (fX11_finding l2 m) fun r4704 =>
    if r4701 = r4704 then
    fL_law_1572 sl sx (fL_law_18 sl sx fu) l1 l2 l3 m
    else
    some ((0 : Int32), m)
    else none
    else none
    else if ((sx l3.toNatClampNeg) &&& (63 : Int32)) = (46 : Int32) then
    if ¬ ((l3 + (1 : Int32)) < 0 ∨ sl ≤ (l3 + (1 : Int32)).toNatClampNeg) then
    if (ml_K m l1).1 = 10 then
    ml_b1 (fX10_findings l1 (sx (l3 + (1 : Int32)).toNatClampNeg) m) fun r4710 =>
    if ¬ ((l3 + (1 : Int32)) < 0 ∨ sl ≤ (l3 + (1 : Int32)).toNatClampNeg) then
    if (ml_K m l2).1 = 11 then
    ml_b1 (fX11_findings l2 (sx (l3 + (1 : Int32)).toNatClampNeg) m) fun r4714 =>
    if r4710 = r4714 then
    fL_law_1572 sl sx (fL_law_18 sl sx fu) l1 l2 l3 m
    else
    some ((0 : Int32), m)
    else none
    else none
    else none
    else none
    else if ((sx l3.toNatClampNeg) &&& (63 : Int32)) = (47 : Int32) then
    if (ml_K m l1).1 = 10 then
    ml_b1 (fX10_digest l1 m) fun r4719 =>
    if (ml_K m l2).1 = 11 then
    ml_b2 (fX11_digest l2 m) fun r4722 m4723 =>
    if (lg_cmp r4719 r4722) = 0 then
    fL_law_1572 sl sx (fL_law_18 sl sx fu) l1 l2 l3 m4723
    else
    some ((0 : Int32), m4723)
    else none
    else none
    else fL_law_1572 sl sx (fL_law_18 sl sx fu) l1 l2 l3 m
    else none
theorem vL_law_18 {E : ml_E} (hL : ml_eL E = 4) {rv : Int32} {rm : ml_M} (hr : ∀ (pc pc' : Nat) (lv : List (Nat × ml_X)), ml_d cL_law pc .ireturn 1 pc' → (rv = 0 ∨ rv = 1) → ml_V E RL cL_law 20 false rm pc lv [ml_i rv]) : ∀ (fu : Nat) (l1 : Nat) (l2 : Nat) (l3 : Int32) (m : ml_M), fL_law_18 (ml_sl (ml_eG E)) (ml_sx (ml_eG E)) fu l1 l2 l3 m = some (rv, rm) → ml_V E RL cL_law 20 false m 18 [(0, ml_q (ml_sb (ml_eG E))), (1, ml_r l1), (2, ml_r l2), (3, ml_i l3)] [] := by
  intro fu
  induction fu with
  | zero => intro l1 l2 l3 m h; exact ml_none h
  | succ fu ih =>
    intro l1 l2 l3 m h
    have hk18 := ih
    unfold fL_law_18 at h
    exact ml_iload_n dL_law_18 3 rfl <| ml_sload dL_law_19 0 rfl <| ml_slen dL_law_20 <| ml_bipush dL_law_21 kc_b6 <| ml_isub dL_law_23 <| ml_icmp_gt dL_law_24 h (fun _ h => ml_iconst dL_law_1578 kc_i1 <| ml_rI (mk := ml_i) hr dL_law_1579 (fun e => Or.inr e.symm) h) (fun _ h => ml_sload dL_law_27 0 rfl <| ml_iload_n dL_law_28 3 rfl <| ml_ck_of h fun hi4133 h => ml_sld dL_law_29 hi4133 <| ml_bipush dL_law_30 kc_b63 <| ml_iand dL_law_32 <| ml_sw_of h (fun hq4146 h => ml_swInC (off := 207) (0 : Int32) hq4146 dL_law_33 ⟨by decide, by decide, by decide⟩ <| ml_aload_n dL_law_240 1 rfl <| ml_sload dL_law_241 0 rfl <| ml_iload_n dL_law_242 3 rfl <| ml_iconst dL_law_243 kc_i1 <| ml_iadd dL_law_244 <| ml_ck_of h fun hi4134 h => ml_sld dL_law_245 hi4134 <| ml_sload dL_law_246 0 rfl <| ml_iload_n dL_law_247 3 rfl <| ml_iconst dL_law_248 kc_i2 <| ml_iadd dL_law_249 <| ml_ck_of h fun hi4135 h => ml_sld dL_law_250 hi4135 <| ml_ck_of h fun hc4137 h => ml_b2_of h fun r4138 m4139 hv4136 h => ml_callV dL_law_251 wm_864 wb_508 hc4137 (sX10_row hv4136) rfl (Nat.le_of_ble_eq_true rfl) (Nat.le_of_ble_eq_true rfl) rfl <| ml_aload_n dL_law_254 2 rfl <| ml_sload dL_law_255 0 rfl <| ml_iload_n dL_law_256 3 rfl <| ml_iconst dL_law_257 kc_i1 <| ml_iadd dL_law_258 <| ml_ck_of h fun hi4140 h => ml_sld dL_law_259 hi4140 <| ml_sload dL_law_260 0 rfl <| ml_iload_n dL_law_261 3 rfl <| ml_iconst dL_law_262 kc_i2 <| ml_iadd dL_law_263 <| ml_ck_of h fun hi4141 h => ml_sld dL_law_264 hi4141 <| ml_ck_of h fun hc4143 h => ml_b2_of h fun r4144 m4145 hv4142 h => ml_callV dL_law_265 wm_868 wb_509 hc4143 (sX11_row hv4142) rfl (Nat.le_of_ble_eq_true rfl) (Nat.le_of_ble_eq_true rfl) rfl <| ml_icmp_eq dL_law_268 h (fun _ h => ml_V.sub [0, 1, 2, 3] rfl (vL_law_1572 hL hr hk18 _ _ _ _ h)) (fun _ h => ml_iconst dL_law_271 kc_i0 <| ml_rI (mk := ml_i) hr dL_law_272 (fun e => Or.inl e.symm) h)) (fun hq4147 h => ml_sw_of h (fun hq4162 h => ml_swInC (off := 240) (1 : Int32) hq4162 dL_law_33 ⟨by decide, by decide, by decide⟩ <| ml_aload_n dL_law_273 1 rfl <| ml_sload dL_law_274 0 rfl <| ml_iload_n dL_law_275 3 rfl <| ml_iconst dL_law_276 kc_i1 <| ml_iadd dL_law_277 <| ml_ck_of h fun hi4148 h => ml_sld dL_law_278 hi4148 <| ml_sload dL_law_279 0 rfl <| ml_iload_n dL_law_280 3 rfl <| ml_iconst dL_law_281 kc_i2 <| ml_iadd dL_law_282 <| ml_ck_of h fun hi4149 h => ml_sld dL_law_283 hi4149 <| ml_sload dL_law_284 0 rfl <| ml_iload_n dL_law_285 3 rfl <| ml_iconst dL_law_286 kc_i3 <| ml_iadd dL_law_287 <| ml_ck_of h fun hi4150 h => ml_sld dL_law_288 hi4150 <| ml_ck_of h fun hc4152 h => ml_b2_of h fun r4153 m4154 hv4151 h => ml_callV dL_law_289 wm_872 wb_510 hc4152 (sX10_lay hv4151) rfl (Nat.le_of_ble_eq_true rfl) (Nat.le_of_ble_eq_true rfl) rfl <| ml_aload_n dL_law_292 2 rfl <| ml_sload dL_law_293 0 rfl <| ml_iload_n dL_law_294 3 rfl <| ml_iconst dL_law_295 kc_i1 <| ml_iadd dL_law_296 <| ml_ck_of h fun hi4155 h => ml_sld dL_law_297 hi4155 <| ml_sload dL_law_298 0 rfl <| ml_iload_n dL_law_299 3 rfl <| ml_iconst dL_law_300 kc_i2 <| ml_iadd dL_law_301 <| ml_ck_of h fun hi4156 h => ml_sld dL_law_302 hi4156 <| ml_sload dL_law_303 0 rfl <| ml_iload_n dL_law_304 3 rfl <| ml_iconst dL_law_305 kc_i3 <| ml_iadd dL_law_306 <| ml_ck_of h fun hi4157 h => ml_sld dL_law_307 hi4157 <| ml_ck_of h fun hc4159 h => ml_b2_of h fun r4160 m4161 hv4158 h => ml_callV dL_law_308 wm_876 wb_511 hc4159 (sX11_lay hv4158) rfl (Nat.le_of_ble_eq_true rfl) (Nat.le_of_ble_eq_true rfl) rfl <| ml_icmp_eq dL_law_311 h (fun _ h => ml_V.sub [0, 1, 2, 3] rfl (vL_law_1572 hL hr hk18 _ _ _ _ h)) (fun _ h => ml_iconst dL_law_314 kc_i0 <| ml_rI (mk := ml_i) hr dL_law_315 (fun e => Or.inl e.symm) h)) (fun hq4163 h => ml_sw_of h (fun hq4176 h => ml_swInC (off := 283) (2 : Int32) hq4176 dL_law_33 ⟨by decide, by decide, by decide⟩ <| ml_aload_n dL_law_316 1 rfl <| ml_sload dL_law_317 0 rfl <| ml_iload_n dL_law_318 3 rfl <| ml_iconst dL_law_319 kc_i1 <| ml_iadd dL_law_320 <| ml_ck_of h fun hi4164 h => ml_sld dL_law_321 hi4164 <| ml_sload dL_law_322 0 rfl <| ml_iload_n dL_law_323 3 rfl <| ml_iconst dL_law_324 kc_i2 <| ml_iadd dL_law_325 <| ml_ck_of h fun hi4165 h => ml_sld dL_law_326 hi4165 <| ml_ck_of h fun hc4167 h => ml_b2_of h fun r4168 m4169 hv4166 h => ml_callV dL_law_327 wm_880 wb_512 hc4167 (sX10_at hv4166) rfl (Nat.le_of_ble_eq_true rfl) (Nat.le_of_ble_eq_true rfl) rfl <| ml_aload_n dL_law_330 2 rfl <| ml_sload dL_law_331 0 rfl <| ml_iload_n dL_law_332 3 rfl <| ml_iconst dL_law_333 kc_i1 <| ml_iadd dL_law_334 <| ml_ck_of h fun hi4170 h => ml_sld dL_law_335 hi4170 <| ml_sload dL_law_336 0 rfl <| ml_iload_n dL_law_337 3 rfl <| ml_iconst dL_law_338 kc_i2 <| ml_iadd dL_law_339 <| ml_ck_of h fun hi4171 h => ml_sld dL_law_340 hi4171 <| ml_ck_of h fun hc4173 h => ml_b2_of h fun r4174 m4175 hv4172 h => ml_callV dL_law_341 wm_884 wb_513 hc4173 (sX11_at hv4172) rfl (Nat.le_of_ble_eq_true rfl) (Nat.le_of_ble_eq_true rfl) rfl <| ml_icmp_eq dL_law_344 h (fun _ h => ml_V.sub [0, 1, 2, 3] rfl (vL_law_1572 hL hr hk18 _ _ _ _ h)) (fun _ h => ml_iconst dL_law_347 kc_i0 <| ml_rI (mk := ml_i) hr dL_law_348 (fun e => Or.inl e.symm) h)) (fun hq4177 h => ml_sw_of h (fun hq4188 h => ml_swInC (off := 316) (3 : Int32) hq4188 dL_law_33 ⟨by decide, by decide, by decide⟩ <| ml_aload_n dL_law_349 1 rfl <| ml_sload dL_law_350 0 rfl <| ml_iload_n dL_law_351 3 rfl <| ml_iconst dL_law_352 kc_i1 <| ml_iadd dL_law_353 <| ml_ck_of h fun hi4178 h => ml_sld dL_law_354 hi4178 <| ml_ck_of h fun hc4180 h => ml_b2_of h fun r4181 m4182 hv4179 h => ml_callV dL_law_355 wm_888 wb_514 hc4180 (sX10_tear hv4179) rfl (Nat.le_of_ble_eq_true rfl) (Nat.le_of_ble_eq_true rfl) rfl <| ml_aload_n dL_law_358 2 rfl <| ml_sload dL_law_359 0 rfl <| ml_iload_n dL_law_360 3 rfl <| ml_iconst dL_law_361 kc_i1 <| ml_iadd dL_law_362 <| ml_ck_of h fun hi4183 h => ml_sld dL_law_363 hi4183 <| ml_ck_of h fun hc4185 h => ml_b2_of h fun r4186 m4187 hv4184 h => ml_callV dL_law_364 wm_892 wb_515 hc4185 (sX11_tear hv4184) rfl (Nat.le_of_ble_eq_true rfl) (Nat.le_of_ble_eq_true rfl) rfl <| ml_icmp_eq dL_law_367 h (fun _ h => ml_V.sub [0, 1, 2, 3] rfl (vL_law_1572 hL hr hk18 _ _ _ _ h)) (fun _ h => ml_iconst dL_law_370 kc_i0 <| ml_rI (mk := ml_i) hr dL_law_371 (fun e => Or.inl e.symm) h)) (fun hq4189 h => ml_sw_of h (fun hq4208 h => ml_swInC (off := 339) (4 : Int32) hq4208 dL_law_33 ⟨by decide, by decide, by decide⟩ <| ml_aload_n dL_law_372 1 rfl <| ml_sload dL_law_373 0 rfl <| ml_iload_n dL_law_374 3 rfl <| ml_iconst dL_law_375 kc_i1 <| ml_iadd dL_law_376 <| ml_ck_of h fun hi4190 h => ml_sld dL_law_377 hi4190 <| ml_sload dL_law_378 0 rfl <| ml_iload_n dL_law_379 3 rfl <| ml_iconst dL_law_380 kc_i2 <| ml_iadd dL_law_381 <| ml_ck_of h fun hi4191 h => ml_sld dL_law_382 hi4191 <| ml_sload dL_law_383 0 rfl <| ml_iload_n dL_law_384 3 rfl <| ml_iconst dL_law_385 kc_i3 <| ml_iadd dL_law_386 <| ml_ck_of h fun hi4192 h => ml_sld dL_law_387 hi4192 <| ml_sload dL_law_388 0 rfl <| ml_iload_n dL_law_389 3 rfl <| ml_iconst dL_law_390 kc_i4 <| ml_iadd dL_law_391 <| ml_ck_of h fun hi4193 h => ml_sld dL_law_392 hi4193 <| ml_sload dL_law_393 0 rfl <| ml_iload_n dL_law_394 3 rfl <| ml_iconst dL_law_395 kc_i5 <| ml_iadd dL_law_396 <| ml_ck_of h fun hi4194 h => ml_sld dL_law_397 hi4194 <| ml_ck_of h fun hc4196 h => ml_b2_of h fun r4197 m4198 hv4195 h => ml_callV dL_law_398 wm_896 wb_516 hc4196 (sX10_copy hv4195) rfl (Nat.le_of_ble_eq_true rfl) (Nat.le_of_ble_eq_true rfl) rfl <| ml_aload_n dL_law_401 2 rfl <| ml_sload dL_law_402 0 rfl <| ml_iload_n dL_law_403 3 rfl <| ml_iconst dL_law_404 kc_i1 <| ml_iadd dL_law_405 <| ml_ck_of h fun hi4199 h => ml_sld dL_law_406 hi4199 <| ml_sload dL_law_407 0 rfl <| ml_iload_n dL_law_408 3 rfl <| ml_iconst dL_law_409 kc_i2 <| ml_iadd dL_law_410 <| ml_ck_of h fun hi4200 h => ml_sld dL_law_411 hi4200 <| ml_sload dL_law_412 0 rfl <| ml_iload_n dL_law_413 3 rfl <| ml_iconst dL_law_414 kc_i3 <| ml_iadd dL_law_415 <| ml_ck_of h fun hi4201 h => ml_sld dL_law_416 hi4201 <| ml_sload dL_law_417 0 rfl <| ml_iload_n dL_law_418 3 rfl <| ml_iconst dL_law_419 kc_i4 <| ml_iadd dL_law_420 <| ml_ck_of h fun hi4202 h => ml_sld dL_law_421 hi4202 <| ml_sload dL_law_422 0 rfl <| ml_iload_n dL_law_423 3 rfl <| ml_iconst dL_law_424 kc_i5 <| ml_iadd dL_law_425 <| ml_ck_of h fun hi4203 h => ml_sld dL_law_426 hi4203 <| ml_ck_of h fun hc4205 h => ml_b2_of h fun r4206 m4207 hv4204 h => ml_callV dL_law_427 wm_900 wb_517 hc4205 (sX11_copy hv4204) rfl (Nat.le_of_ble_eq_true rfl) (Nat.le_of_ble_eq_true rfl) rfl <| ml_icmp_eq dL_law_430 h (fun _ h => ml_V.sub [0, 1, 2, 3] rfl (vL_law_1572 hL hr hk18 _ _ _ _ h)) (fun _ h => ml_iconst dL_law_433 kc_i0 <| ml_rI (mk := ml_i) hr dL_law_434 (fun e => Or.inl e.symm) h)) (fun hq4209 h => ml_sw_of h (fun hq4220 h => ml_swInC (off := 402) (5 : Int32) hq4220 dL_law_33 ⟨by decide, by decide, by decide⟩ <| ml_aload_n dL_law_435 1 rfl <| ml_sload dL_law_436 0 rfl <| ml_iload_n dL_law_437 3 rfl <| ml_iconst dL_law_438 kc_i1 <| ml_iadd dL_law_439 <| ml_ck_of h fun hi4210 h => ml_sld dL_law_440 hi4210 <| ml_ck_of h fun hc4212 h => ml_b2_of h fun r4213 m4214 hv4211 h => ml_callV dL_law_441 wm_904 wb_518 hc4212 (sX10_mean hv4211) rfl (Nat.le_of_ble_eq_true rfl) (Nat.le_of_ble_eq_true rfl) rfl <| ml_aload_n dL_law_444 2 rfl <| ml_sload dL_law_445 0 rfl <| ml_iload_n dL_law_446 3 rfl <| ml_iconst dL_law_447 kc_i1 <| ml_iadd dL_law_448 <| ml_ck_of h fun hi4215 h => ml_sld dL_law_449 hi4215 <| ml_ck_of h fun hc4217 h => ml_b2_of h fun r4218 m4219 hv4216 h => ml_callV dL_law_450 wm_908 wb_519 hc4217 (sX11_mean hv4216) rfl (Nat.le_of_ble_eq_true rfl) (Nat.le_of_ble_eq_true rfl) rfl <| ml_icmp_eq dL_law_453 h (fun _ h => ml_V.sub [0, 1, 2, 3] rfl (vL_law_1572 hL hr hk18 _ _ _ _ h)) (fun _ h => ml_iconst dL_law_456 kc_i0 <| ml_rI (mk := ml_i) hr dL_law_457 (fun e => Or.inl e.symm) h)) (fun hq4221 h => ml_sw_of h (fun hq4234 h => ml_swInC (off := 425) (6 : Int32) hq4234 dL_law_33 ⟨by decide, by decide, by decide⟩ <| ml_aload_n dL_law_458 1 rfl <| ml_sload dL_law_459 0 rfl <| ml_iload_n dL_law_460 3 rfl <| ml_iconst dL_law_461 kc_i1 <| ml_iadd dL_law_462 <| ml_ck_of h fun hi4222 h => ml_sld dL_law_463 hi4222 <| ml_sload dL_law_464 0 rfl <| ml_iload_n dL_law_465 3 rfl <| ml_iconst dL_law_466 kc_i2 <| ml_iadd dL_law_467 <| ml_ck_of h fun hi4223 h => ml_sld dL_law_468 hi4223 <| ml_ck_of h fun hc4225 h => ml_b2_of h fun r4226 m4227 hv4224 h => ml_callV dL_law_469 wm_912 wb_520 hc4225 (sX10_text hv4224) rfl (Nat.le_of_ble_eq_true rfl) (Nat.le_of_ble_eq_true rfl) rfl <| ml_aload_n dL_law_472 2 rfl <| ml_sload dL_law_473 0 rfl <| ml_iload_n dL_law_474 3 rfl <| ml_iconst dL_law_475 kc_i1 <| ml_iadd dL_law_476 <| ml_ck_of h fun hi4228 h => ml_sld dL_law_477 hi4228 <| ml_sload dL_law_478 0 rfl <| ml_iload_n dL_law_479 3 rfl <| ml_iconst dL_law_480 kc_i2 <| ml_iadd dL_law_481 <| ml_ck_of h fun hi4229 h => ml_sld dL_law_482 hi4229 <| ml_ck_of h fun hc4231 h => ml_b2_of h fun r4232 m4233 hv4230 h => ml_callV dL_law_483 wm_916 wb_521 hc4231 (sX11_text hv4230) rfl (Nat.le_of_ble_eq_true rfl) (Nat.le_of_ble_eq_true rfl) rfl <| ml_icmp_eq dL_law_486 h (fun _ h => ml_V.sub [0, 1, 2, 3] rfl (vL_law_1572 hL hr hk18 _ _ _ _ h)) (fun _ h => ml_iconst dL_law_489 kc_i0 <| ml_rI (mk := ml_i) hr dL_law_490 (fun e => Or.inl e.symm) h)) (fun hq4235 h => ml_sw_of h (fun hq4250 h => ml_swInC (off := 458) (7 : Int32) hq4250 dL_law_33 ⟨by decide, by decide, by decide⟩ <| ml_aload_n dL_law_491 1 rfl <| ml_sload dL_law_492 0 rfl <| ml_iload_n dL_law_493 3 rfl <| ml_iconst dL_law_494 kc_i1 <| ml_iadd dL_law_495 <| ml_ck_of h fun hi4236 h => ml_sld dL_law_496 hi4236 <| ml_sload dL_law_497 0 rfl <| ml_iload_n dL_law_498 3 rfl <| ml_iconst dL_law_499 kc_i2 <| ml_iadd dL_law_500 <| ml_ck_of h fun hi4237 h => ml_sld dL_law_501 hi4237 <| ml_sload dL_law_502 0 rfl <| ml_iload_n dL_law_503 3 rfl <| ml_iconst dL_law_504 kc_i3 <| ml_iadd dL_law_505 <| ml_ck_of h fun hi4238 h => ml_sld dL_law_506 hi4238 <| ml_ck_of h fun hc4240 h => ml_b2_of h fun r4241 m4242 hv4239 h => ml_callV dL_law_507 wm_920 wb_522 hc4240 (sX10_put hv4239) rfl (Nat.le_of_ble_eq_true rfl) (Nat.le_of_ble_eq_true rfl) rfl <| ml_aload_n dL_law_510 2 rfl <| ml_sload dL_law_511 0 rfl <| ml_iload_n dL_law_512 3 rfl <| ml_iconst dL_law_513 kc_i1 <| ml_iadd dL_law_514 <| ml_ck_of h fun hi4243 h => ml_sld dL_law_515 hi4243 <| ml_sload dL_law_516 0 rfl <| ml_iload_n dL_law_517 3 rfl <| ml_iconst dL_law_518 kc_i2 <| ml_iadd dL_law_519 <| ml_ck_of h fun hi4244 h => ml_sld dL_law_520 hi4244 <| ml_sload dL_law_521 0 rfl <| ml_iload_n dL_law_522 3 rfl <| ml_iconst dL_law_523 kc_i3 <| ml_iadd dL_law_524 <| ml_ck_of h fun hi4245 h => ml_sld dL_law_525 hi4245 <| ml_ck_of h fun hc4247 h => ml_b2_of h fun r4248 m4249 hv4246 h => ml_callV dL_law_526 wm_924 wb_523 hc4247 (sX11_put hv4246) rfl (Nat.le_of_ble_eq_true rfl) (Nat.le_of_ble_eq_true rfl) rfl <| ml_icmp_eq dL_law_529 h (fun _ h => ml_V.sub [0, 1, 2, 3] rfl (vL_law_1572 hL hr hk18 _ _ _ _ h)) (fun _ h => ml_iconst dL_law_532 kc_i0 <| ml_rI (mk := ml_i) hr dL_law_533 (fun e => Or.inl e.symm) h)) (fun hq4251 h => ml_sw_of h (fun hq4262 h => ml_swInC (off := 501) (8 : Int32) hq4262 dL_law_33 ⟨by decide, by decide, by decide⟩ <| ml_aload_n dL_law_534 1 rfl <| ml_sload dL_law_535 0 rfl <| ml_iload_n dL_law_536 3 rfl <| ml_iconst dL_law_537 kc_i1 <| ml_iadd dL_law_538 <| ml_ck_of h fun hi4252 h => ml_sld dL_law_539 hi4252 <| ml_ck_of h fun hc4254 h => ml_b2_of h fun r4255 m4256 hv4253 h => ml_callV dL_law_540 wm_928 wb_524 hc4254 (sX10_fault hv4253) rfl (Nat.le_of_ble_eq_true rfl) (Nat.le_of_ble_eq_true rfl) rfl <| ml_aload_n dL_law_543 2 rfl <| ml_sload dL_law_544 0 rfl <| ml_iload_n dL_law_545 3 rfl <| ml_iconst dL_law_546 kc_i1 <| ml_iadd dL_law_547 <| ml_ck_of h fun hi4257 h => ml_sld dL_law_548 hi4257 <| ml_ck_of h fun hc4259 h => ml_b2_of h fun r4260 m4261 hv4258 h => ml_callV dL_law_549 wm_932 wb_525 hc4259 (sX11_fault hv4258) rfl (Nat.le_of_ble_eq_true rfl) (Nat.le_of_ble_eq_true rfl) rfl <| ml_icmp_eq dL_law_552 h (fun _ h => ml_V.sub [0, 1, 2, 3] rfl (vL_law_1572 hL hr hk18 _ _ _ _ h)) (fun _ h => ml_iconst dL_law_555 kc_i0 <| ml_rI (mk := ml_i) hr dL_law_556 (fun e => Or.inl e.symm) h)) (fun hq4263 h => ml_sw_of h (fun hq4274 h => ml_swInC (off := 524) (9 : Int32) hq4274 dL_law_33 ⟨by decide, by decide, by decide⟩ <| ml_aload_n dL_law_557 1 rfl <| ml_sload dL_law_558 0 rfl <| ml_iload_n dL_law_559 3 rfl <| ml_iconst dL_law_560 kc_i1 <| ml_iadd dL_law_561 <| ml_ck_of h fun hi4264 h => ml_sld dL_law_562 hi4264 <| ml_ck_of h fun hc4266 h => ml_b2_of h fun r4267 m4268 hv4265 h => ml_callV dL_law_563 wm_936 wb_526 hc4266 (sX10_book hv4265) rfl (Nat.le_of_ble_eq_true rfl) (Nat.le_of_ble_eq_true rfl) rfl <| ml_aload_n dL_law_566 2 rfl <| ml_sload dL_law_567 0 rfl <| ml_iload_n dL_law_568 3 rfl <| ml_iconst dL_law_569 kc_i1 <| ml_iadd dL_law_570 <| ml_ck_of h fun hi4269 h => ml_sld dL_law_571 hi4269 <| ml_ck_of h fun hc4271 h => ml_b2_of h fun r4272 m4273 hv4270 h => ml_callV dL_law_572 wm_940 wb_527 hc4271 (sX11_book hv4270) rfl (Nat.le_of_ble_eq_true rfl) (Nat.le_of_ble_eq_true rfl) rfl <| ml_icmp_eq dL_law_575 h (fun _ h => ml_V.sub [0, 1, 2, 3] rfl (vL_law_1572 hL hr hk18 _ _ _ _ h)) (fun _ h => ml_iconst dL_law_578 kc_i0 <| ml_rI (mk := ml_i) hr dL_law_579 (fun e => Or.inl e.symm) h)) (fun hq4275 h => ml_sw_of h (fun hq4286 h => ml_swInC (off := 547) (10 : Int32) hq4286 dL_law_33 ⟨by decide, by decide, by decide⟩ <| ml_aload_n dL_law_580 1 rfl <| ml_sload dL_law_581 0 rfl <| ml_iload_n dL_law_582 3 rfl <| ml_iconst dL_law_583 kc_i1 <| ml_iadd dL_law_584 <| ml_ck_of h fun hi4276 h => ml_sld dL_law_585 hi4276 <| ml_ck_of h fun hc4278 h => ml_b2_of h fun r4279 m4280 hv4277 h => ml_callV dL_law_586 wm_944 wb_528 hc4278 (sX10_wear hv4277) rfl (Nat.le_of_ble_eq_true rfl) (Nat.le_of_ble_eq_true rfl) rfl <| ml_aload_n dL_law_589 2 rfl <| ml_sload dL_law_590 0 rfl <| ml_iload_n dL_law_591 3 rfl <| ml_iconst dL_law_592 kc_i1 <| ml_iadd dL_law_593 <| ml_ck_of h fun hi4281 h => ml_sld dL_law_594 hi4281 <| ml_ck_of h fun hc4283 h => ml_b2_of h fun r4284 m4285 hv4282 h => ml_callV dL_law_595 wm_948 wb_529 hc4283 (sX11_wear hv4282) rfl (Nat.le_of_ble_eq_true rfl) (Nat.le_of_ble_eq_true rfl) rfl <| ml_icmp_eq dL_law_598 h (fun _ h => ml_V.sub [0, 1, 2, 3] rfl (vL_law_1572 hL hr hk18 _ _ _ _ h)) (fun _ h => ml_iconst dL_law_601 kc_i0 <| ml_rI (mk := ml_i) hr dL_law_602 (fun e => Or.inl e.symm) h)) (fun hq4287 h => ml_sw_of h (fun hq4300 h => ml_swInC (off := 570) (11 : Int32) hq4300 dL_law_33 ⟨by decide, by decide, by decide⟩ <| ml_aload_n dL_law_603 1 rfl <| ml_sload dL_law_604 0 rfl <| ml_iload_n dL_law_605 3 rfl <| ml_iconst dL_law_606 kc_i1 <| ml_iadd dL_law_607 <| ml_ck_of h fun hi4288 h => ml_sld dL_law_608 hi4288 <| ml_sload dL_law_609 0 rfl <| ml_iload_n dL_law_610 3 rfl <| ml_iconst dL_law_611 kc_i2 <| ml_iadd dL_law_612 <| ml_ck_of h fun hi4289 h => ml_sld dL_law_613 hi4289 <| ml_ck_of h fun hc4291 h => ml_b2_of h fun r4292 m4293 hv4290 h => ml_callV dL_law_614 wm_952 wb_530 hc4291 (sX10_lodger hv4290) rfl (Nat.le_of_ble_eq_true rfl) (Nat.le_of_ble_eq_true rfl) rfl <| ml_aload_n dL_law_617 2 rfl <| ml_sload dL_law_618 0 rfl <| ml_iload_n dL_law_619 3 rfl <| ml_iconst dL_law_620 kc_i1 <| ml_iadd dL_law_621 <| ml_ck_of h fun hi4294 h => ml_sld dL_law_622 hi4294 <| ml_sload dL_law_623 0 rfl <| ml_iload_n dL_law_624 3 rfl <| ml_iconst dL_law_625 kc_i2 <| ml_iadd dL_law_626 <| ml_ck_of h fun hi4295 h => ml_sld dL_law_627 hi4295 <| ml_ck_of h fun hc4297 h => ml_b2_of h fun r4298 m4299 hv4296 h => ml_callV dL_law_628 wm_956 wb_531 hc4297 (sX11_lodger hv4296) rfl (Nat.le_of_ble_eq_true rfl) (Nat.le_of_ble_eq_true rfl) rfl <| ml_icmp_eq dL_law_631 h (fun _ h => ml_V.sub [0, 1, 2, 3] rfl (vL_law_1572 hL hr hk18 _ _ _ _ h)) (fun _ h => ml_iconst dL_law_634 kc_i0 <| ml_rI (mk := ml_i) hr dL_law_635 (fun e => Or.inl e.symm) h)) (fun hq4301 h => ml_sw_of h (fun hq4314 h => ml_swInC (off := 603) (12 : Int32) hq4314 dL_law_33 ⟨by decide, by decide, by decide⟩ <| ml_aload_n dL_law_636 1 rfl <| ml_sload dL_law_637 0 rfl <| ml_iload_n dL_law_638 3 rfl <| ml_iconst dL_law_639 kc_i1 <| ml_iadd dL_law_640 <| ml_ck_of h fun hi4302 h => ml_sld dL_law_641 hi4302 <| ml_sload dL_law_642 0 rfl <| ml_iload_n dL_law_643 3 rfl <| ml_iconst dL_law_644 kc_i2 <| ml_iadd dL_law_645 <| ml_ck_of h fun hi4303 h => ml_sld dL_law_646 hi4303 <| ml_ck_of h fun hc4305 h => ml_b2_of h fun r4306 m4307 hv4304 h => ml_callV dL_law_647 wm_960 wb_532 hc4305 (sX10_trunk hv4304) rfl (Nat.le_of_ble_eq_true rfl) (Nat.le_of_ble_eq_true rfl) rfl <| ml_aload_n dL_law_650 2 rfl <| ml_sload dL_law_651 0 rfl <| ml_iload_n dL_law_652 3 rfl <| ml_iconst dL_law_653 kc_i1 <| ml_iadd dL_law_654 <| ml_ck_of h fun hi4308 h => ml_sld dL_law_655 hi4308 <| ml_sload dL_law_656 0 rfl <| ml_iload_n dL_law_657 3 rfl <| ml_iconst dL_law_658 kc_i2 <| ml_iadd dL_law_659 <| ml_ck_of h fun hi4309 h => ml_sld dL_law_660 hi4309 <| ml_ck_of h fun hc4311 h => ml_b2_of h fun r4312 m4313 hv4310 h => ml_callV dL_law_661 wm_964 wb_533 hc4311 (sX11_trunk hv4310) rfl (Nat.le_of_ble_eq_true rfl) (Nat.le_of_ble_eq_true rfl) rfl <| ml_icmp_eq dL_law_664 h (fun _ h => ml_V.sub [0, 1, 2, 3] rfl (vL_law_1572 hL hr hk18 _ _ _ _ h)) (fun _ h => ml_iconst dL_law_667 kc_i0 <| ml_rI (mk := ml_i) hr dL_law_668 (fun e => Or.inl e.symm) h)) (fun hq4315 h => ml_sw_of h (fun hq4334 h => ml_swInC (off := 636) (13 : Int32) hq4334 dL_law_33 ⟨by decide, by decide, by decide⟩ <| ml_aload_n dL_law_669 1 rfl <| ml_sload dL_law_670 0 rfl <| ml_iload_n dL_law_671 3 rfl <| ml_iconst dL_law_672 kc_i1 <| ml_iadd dL_law_673 <| ml_ck_of h fun hi4316 h => ml_sld dL_law_674 hi4316 <| ml_sload dL_law_675 0 rfl <| ml_iload_n dL_law_676 3 rfl <| ml_iconst dL_law_677 kc_i2 <| ml_iadd dL_law_678 <| ml_ck_of h fun hi4317 h => ml_sld dL_law_679 hi4317 <| ml_sload dL_law_680 0 rfl <| ml_iload_n dL_law_681 3 rfl <| ml_iconst dL_law_682 kc_i3 <| ml_iadd dL_law_683 <| ml_ck_of h fun hi4318 h => ml_sld dL_law_684 hi4318 <| ml_sload dL_law_685 0 rfl <| ml_iload_n dL_law_686 3 rfl <| ml_iconst dL_law_687 kc_i4 <| ml_iadd dL_law_688 <| ml_ck_of h fun hi4319 h => ml_sld dL_law_689 hi4319 <| ml_sload dL_law_690 0 rfl <| ml_iload_n dL_law_691 3 rfl <| ml_iconst dL_law_692 kc_i5 <| ml_iadd dL_law_693 <| ml_ck_of h fun hi4320 h => ml_sld dL_law_694 hi4320 <| ml_ck_of h fun hc4322 h => ml_b2_of h fun r4323 m4324 hv4321 h => ml_callV dL_law_695 wm_968 wb_534 hc4322 (sX10_thing hv4321) rfl (Nat.le_of_ble_eq_true rfl) (Nat.le_of_ble_eq_true rfl) rfl <| ml_aload_n dL_law_698 2 rfl <| ml_sload dL_law_699 0 rfl <| ml_iload_n dL_law_700 3 rfl <| ml_iconst dL_law_701 kc_i1 <| ml_iadd dL_law_702 <| ml_ck_of h fun hi4325 h => ml_sld dL_law_703 hi4325 <| ml_sload dL_law_704 0 rfl <| ml_iload_n dL_law_705 3 rfl <| ml_iconst dL_law_706 kc_i2 <| ml_iadd dL_law_707 <| ml_ck_of h fun hi4326 h => ml_sld dL_law_708 hi4326 <| ml_sload dL_law_709 0 rfl <| ml_iload_n dL_law_710 3 rfl <| ml_iconst dL_law_711 kc_i3 <| ml_iadd dL_law_712 <| ml_ck_of h fun hi4327 h => ml_sld dL_law_713 hi4327 <| ml_sload dL_law_714 0 rfl <| ml_iload_n dL_law_715 3 rfl <| ml_iconst dL_law_716 kc_i4 <| ml_iadd dL_law_717 <| ml_ck_of h fun hi4328 h => ml_sld dL_law_718 hi4328 <| ml_sload dL_law_719 0 rfl <| ml_iload_n dL_law_720 3 rfl <| ml_iconst dL_law_721 kc_i5 <| ml_iadd dL_law_722 <| ml_ck_of h fun hi4329 h => ml_sld dL_law_723 hi4329 <| ml_ck_of h fun hc4331 h => ml_b2_of h fun r4332 m4333 hv4330 h => ml_callV dL_law_724 wm_972 wb_535 hc4331 (sX11_thing hv4330) rfl (Nat.le_of_ble_eq_true rfl) (Nat.le_of_ble_eq_true rfl) rfl <| ml_icmp_eq dL_law_727 h (fun _ h => ml_V.sub [0, 1, 2, 3] rfl (vL_law_1572 hL hr hk18 _ _ _ _ h)) (fun _ h => ml_iconst dL_law_730 kc_i0 <| ml_rI (mk := ml_i) hr dL_law_731 (fun e => Or.inl e.symm) h)) (fun hq4335 h => ml_sw_of h (fun hq4339 h => ml_swInC (off := 699) (14 : Int32) hq4339 dL_law_33 ⟨by decide, by decide, by decide⟩ <| ml_aload_n dL_law_732 1 rfl <| ml_sload dL_law_733 0 rfl <| ml_iload_n dL_law_734 3 rfl <| ml_iconst dL_law_735 kc_i1 <| ml_iadd dL_law_736 <| ml_ck_of h fun hi4336 h => ml_sld dL_law_737 hi4336 <| ml_sload dL_law_738 0 rfl <| ml_iload_n dL_law_739 3 rfl <| ml_iconst dL_law_740 kc_i2 <| ml_iadd dL_law_741 <| ml_ck_of h fun hi4337 h => ml_sld dL_law_742 hi4337 <| ml_sload dL_law_743 0 rfl <| ml_iload_n dL_law_744 3 rfl <| ml_iconst dL_law_745 kc_i3 <| ml_iadd dL_law_746 <| ml_ck_of h fun hi4338 h => ml_sld dL_law_747 hi4338 <| ml_if_eq dL_law_748 h (fun _ h => ml_iconst dL_law_755 kc_i0 <| ml_V.sub [0, 1, 2, 3] rfl (vL_law_756 hL hr hk18 _ _ _ _ _ _ _ _ h)) (fun _ h => ml_iconst dL_law_751 kc_i1 <| ml_goto dL_law_752 <| ml_V.sub [0, 1, 2, 3] rfl (vL_law_756 hL hr hk18 _ _ _ _ _ _ _ _ h))) (fun hq4340 h => ml_sw_of h (fun hq4353 h => ml_swInC (off := 758) (15 : Int32) hq4353 dL_law_33 ⟨by decide, by decide, by decide⟩ <| ml_aload_n dL_law_791 1 rfl <| ml_sload dL_law_792 0 rfl <| ml_iload_n dL_law_793 3 rfl <| ml_iconst dL_law_794 kc_i1 <| ml_iadd dL_law_795 <| ml_ck_of h fun hi4341 h => ml_sld dL_law_796 hi4341 <| ml_sload dL_law_797 0 rfl <| ml_iload_n dL_law_798 3 rfl <| ml_iconst dL_law_799 kc_i2 <| ml_iadd dL_law_800 <| ml_ck_of h fun hi4342 h => ml_sld dL_law_801 hi4342 <| ml_ck_of h fun hc4344 h => ml_b2_of h fun r4345 m4346 hv4343 h => ml_callV dL_law_802 wm_976 wb_536 hc4344 (sX10_told hv4343) rfl (Nat.le_of_ble_eq_true rfl) (Nat.le_of_ble_eq_true rfl) rfl <| ml_aload_n dL_law_805 2 rfl <| ml_sload dL_law_806 0 rfl <| ml_iload_n dL_law_807 3 rfl <| ml_iconst dL_law_808 kc_i1 <| ml_iadd dL_law_809 <| ml_ck_of h fun hi4347 h => ml_sld dL_law_810 hi4347 <| ml_sload dL_law_811 0 rfl <| ml_iload_n dL_law_812 3 rfl <| ml_iconst dL_law_813 kc_i2 <| ml_iadd dL_law_814 <| ml_ck_of h fun hi4348 h => ml_sld dL_law_815 hi4348 <| ml_ck_of h fun hc4350 h => ml_b2_of h fun r4351 m4352 hv4349 h => ml_callV dL_law_816 wm_980 wb_537 hc4350 (sX11_told hv4349) rfl (Nat.le_of_ble_eq_true rfl) (Nat.le_of_ble_eq_true rfl) rfl <| ml_icmp_eq dL_law_819 h (fun _ h => ml_V.sub [0, 1, 2, 3] rfl (vL_law_1572 hL hr hk18 _ _ _ _ h)) (fun _ h => ml_iconst dL_law_822 kc_i0 <| ml_rI (mk := ml_i) hr dL_law_823 (fun e => Or.inl e.symm) h)) (fun hq4354 h => ml_sw_of h (fun hq4367 h => ml_swInC (off := 791) (16 : Int32) hq4367 dL_law_33 ⟨by decide, by decide, by decide⟩ <| ml_aload_n dL_law_824 1 rfl <| ml_sload dL_law_825 0 rfl <| ml_iload_n dL_law_826 3 rfl <| ml_iconst dL_law_827 kc_i1 <| ml_iadd dL_law_828 <| ml_ck_of h fun hi4355 h => ml_sld dL_law_829 hi4355 <| ml_sload dL_law_830 0 rfl <| ml_iload_n dL_law_831 3 rfl <| ml_iconst dL_law_832 kc_i2 <| ml_iadd dL_law_833 <| ml_ck_of h fun hi4356 h => ml_sld dL_law_834 hi4356 <| ml_ck_of h fun hc4358 h => ml_b2_of h fun r4359 m4360 hv4357 h => ml_callV dL_law_835 wm_984 wb_538 hc4358 (sX10_mark hv4357) rfl (Nat.le_of_ble_eq_true rfl) (Nat.le_of_ble_eq_true rfl) rfl <| ml_aload_n dL_law_838 2 rfl <| ml_sload dL_law_839 0 rfl <| ml_iload_n dL_law_840 3 rfl <| ml_iconst dL_law_841 kc_i1 <| ml_iadd dL_law_842 <| ml_ck_of h fun hi4361 h => ml_sld dL_law_843 hi4361 <| ml_sload dL_law_844 0 rfl <| ml_iload_n dL_law_845 3 rfl <| ml_iconst dL_law_846 kc_i2 <| ml_iadd dL_law_847 <| ml_ck_of h fun hi4362 h => ml_sld dL_law_848 hi4362 <| ml_ck_of h fun hc4364 h => ml_b2_of h fun r4365 m4366 hv4363 h => ml_callV dL_law_849 wm_988 wb_539 hc4364 (sX11_mark hv4363) rfl (Nat.le_of_ble_eq_true rfl) (Nat.le_of_ble_eq_true rfl) rfl <| ml_icmp_eq dL_law_852 h (fun _ h => ml_V.sub [0, 1, 2, 3] rfl (vL_law_1572 hL hr hk18 _ _ _ _ h)) (fun _ h => ml_iconst dL_law_855 kc_i0 <| ml_rI (mk := ml_i) hr dL_law_856 (fun e => Or.inl e.symm) h)) (fun hq4368 h => ml_sw_of h (fun hq4377 h => ml_swInC (off := 824) (17 : Int32) hq4377 dL_law_33 ⟨by decide, by decide, by decide⟩ <| ml_aload_n dL_law_857 1 rfl <| ml_sload dL_law_858 0 rfl <| ml_iload_n dL_law_859 3 rfl <| ml_iconst dL_law_860 kc_i1 <| ml_iadd dL_law_861 <| ml_ck_of h fun hi4369 h => ml_sld dL_law_862 hi4369 <| ml_ck_of h fun hc4371 h => ml_b1_of h fun r4372 hv4370 h => ml_callV dL_law_863 wm_992 wb_540 hc4371 (sX10_may hv4370) rfl (Nat.le_of_ble_eq_true rfl) (Nat.le_of_ble_eq_true rfl) rfl <| ml_aload_n dL_law_866 2 rfl <| ml_sload dL_law_867 0 rfl <| ml_iload_n dL_law_868 3 rfl <| ml_iconst dL_law_869 kc_i1 <| ml_iadd dL_law_870 <| ml_ck_of h fun hi4373 h => ml_sld dL_law_871 hi4373 <| ml_ck_of h fun hc4375 h => ml_b1_of h fun r4376 hv4374 h => ml_callV dL_law_872 wm_996 wb_541 hc4375 (sX11_may hv4374) rfl (Nat.le_of_ble_eq_true rfl) (Nat.le_of_ble_eq_true rfl) rfl <| ml_icmp_eq dL_law_875 h (fun _ h => ml_V.sub [0, 1, 2, 3] rfl (vL_law_1572 hL hr hk18 _ _ _ _ h)) (fun _ h => ml_iconst dL_law_878 kc_i0 <| ml_rI (mk := ml_i) hr dL_law_879 (fun e => Or.inl e.symm) h)) (fun hq4378 h => ml_sw_of h (fun hq4387 h => ml_swInC (off := 847) (18 : Int32) hq4387 dL_law_33 ⟨by decide, by decide, by decide⟩ <| ml_aload_n dL_law_880 1 rfl <| ml_ck_of h fun hc4380 h => ml_b2_of h fun r4381 m4382 hv4379 h => ml_callV dL_law_881 wm_1000 wb_542 hc4380 (sX10_fewest hv4379) rfl (Nat.le_of_ble_eq_true rfl) (Nat.le_of_ble_eq_true rfl) rfl <| ml_aload_n dL_law_884 2 rfl <| ml_ck_of h fun hc4384 h => ml_b2_of h fun r4385 m4386 hv4383 h => ml_callV dL_law_885 wm_1004 wb_543 hc4384 (sX11_fewest hv4383) rfl (Nat.le_of_ble_eq_true rfl) (Nat.le_of_ble_eq_true rfl) rfl <| ml_icmp_eq dL_law_888 h (fun _ h => ml_V.sub [0, 1, 2, 3] rfl (vL_law_1572 hL hr hk18 _ _ _ _ h)) (fun _ h => ml_iconst dL_law_891 kc_i0 <| ml_rI (mk := ml_i) hr dL_law_892 (fun e => Or.inl e.symm) h)) (fun hq4388 h => ml_sw_of h (fun hq4397 h => ml_swInC (off := 860) (19 : Int32) hq4397 dL_law_33 ⟨by decide, by decide, by decide⟩ <| ml_aload_n dL_law_893 1 rfl <| ml_ck_of h fun hc4390 h => ml_b2_of h fun r4391 m4392 hv4389 h => ml_callV dL_law_894 wm_1008 wb_544 hc4390 (sX10_fits hv4389) rfl (Nat.le_of_ble_eq_true rfl) (Nat.le_of_ble_eq_true rfl) rfl <| ml_aload_n dL_law_897 2 rfl <| ml_ck_of h fun hc4394 h => ml_b2_of h fun r4395 m4396 hv4393 h => ml_callV dL_law_898 wm_1012 wb_545 hc4394 (sX11_fits hv4393) rfl (Nat.le_of_ble_eq_true rfl) (Nat.le_of_ble_eq_true rfl) rfl <| ml_icmp_eq dL_law_901 h (fun _ h => ml_V.sub [0, 1, 2, 3] rfl (vL_law_1572 hL hr hk18 _ _ _ _ h)) (fun _ h => ml_iconst dL_law_904 kc_i0 <| ml_rI (mk := ml_i) hr dL_law_905 (fun e => Or.inl e.symm) h)) (fun hq4398 h => ml_sw_of h (fun hq4409 h => ml_swInC (off := 873) (20 : Int32) hq4409 dL_law_33 ⟨by decide, by decide, by decide⟩ <| ml_aload_n dL_law_906 1 rfl <| ml_sload dL_law_907 0 rfl <| ml_iload_n dL_law_908 3 rfl <| ml_iconst dL_law_909 kc_i1 <| ml_iadd dL_law_910 <| ml_ck_of h fun hi4399 h => ml_sld dL_law_911 hi4399 <| ml_ck_of h fun hc4401 h => ml_b2_of h fun r4402 m4403 hv4400 h => ml_callV dL_law_912 wm_1016 wb_546 hc4401 (sX10_opens hv4400) rfl (Nat.le_of_ble_eq_true rfl) (Nat.le_of_ble_eq_true rfl) rfl <| ml_aload_n dL_law_915 2 rfl <| ml_sload dL_law_916 0 rfl <| ml_iload_n dL_law_917 3 rfl <| ml_iconst dL_law_918 kc_i1 <| ml_iadd dL_law_919 <| ml_ck_of h fun hi4404 h => ml_sld dL_law_920 hi4404 <| ml_ck_of h fun hc4406 h => ml_b2_of h fun r4407 m4408 hv4405 h => ml_callV dL_law_921 wm_1020 wb_547 hc4406 (sX11_opens hv4405) rfl (Nat.le_of_ble_eq_true rfl) (Nat.le_of_ble_eq_true rfl) rfl <| ml_icmp_eq dL_law_924 h (fun _ h => ml_V.sub [0, 1, 2, 3] rfl (vL_law_1572 hL hr hk18 _ _ _ _ h)) (fun _ h => ml_iconst dL_law_927 kc_i0 <| ml_rI (mk := ml_i) hr dL_law_928 (fun e => Or.inl e.symm) h)) (fun hq4410 h => ml_sw_of h (fun hq4419 h => ml_swInC (off := 896) (21 : Int32) hq4419 dL_law_33 ⟨by decide, by decide, by decide⟩ <| ml_aload_n dL_law_929 1 rfl <| ml_ck_of h fun hc4412 h => ml_b2_of h fun r4413 m4414 hv4411 h => ml_callV dL_law_930 wm_1024 wb_548 hc4412 (sX10_strange hv4411) rfl (Nat.le_of_ble_eq_true rfl) (Nat.le_of_ble_eq_true rfl) rfl <| ml_aload_n dL_law_933 2 rfl <| ml_ck_of h fun hc4416 h => ml_b2_of h fun r4417 m4418 hv4415 h => ml_callV dL_law_934 wm_1028 wb_549 hc4416 (sX11_strange hv4415) rfl (Nat.le_of_ble_eq_true rfl) (Nat.le_of_ble_eq_true rfl) rfl <| ml_icmp_eq dL_law_937 h (fun _ h => ml_V.sub [0, 1, 2, 3] rfl (vL_law_1572 hL hr hk18 _ _ _ _ h)) (fun _ h => ml_iconst dL_law_940 kc_i0 <| ml_rI (mk := ml_i) hr dL_law_941 (fun e => Or.inl e.symm) h)) (fun hq4420 h => ml_sw_of h (fun hq4429 h => ml_swInC (off := 909) (22 : Int32) hq4429 dL_law_33 ⟨by decide, by decide, by decide⟩ <| ml_aload_n dL_law_942 1 rfl <| ml_ck_of h fun hc4422 h => ml_b2_of h fun r4423 m4424 hv4421 h => ml_callV dL_law_943 wm_1032 wb_550 hc4422 (sX10_water hv4421) rfl (Nat.le_of_ble_eq_true rfl) (Nat.le_of_ble_eq_true rfl) rfl <| ml_aload_n dL_law_946 2 rfl <| ml_ck_of h fun hc4426 h => ml_b2_of h fun r4427 m4428 hv4425 h => ml_callV dL_law_947 wm_1036 wb_551 hc4426 (sX11_water hv4425) rfl (Nat.le_of_ble_eq_true rfl) (Nat.le_of_ble_eq_true rfl) rfl <| ml_icmp_eq dL_law_950 h (fun _ h => ml_V.sub [0, 1, 2, 3] rfl (vL_law_1572 hL hr hk18 _ _ _ _ h)) (fun _ h => ml_iconst dL_law_953 kc_i0 <| ml_rI (mk := ml_i) hr dL_law_954 (fun e => Or.inl e.symm) h)) (fun hq4430 h => ml_sw_of h (fun hq4441 h => ml_swInC (off := 922) (23 : Int32) hq4441 dL_law_33 ⟨by decide, by decide, by decide⟩ <| ml_aload_n dL_law_955 1 rfl <| ml_sload dL_law_956 0 rfl <| ml_iload_n dL_law_957 3 rfl <| ml_iconst dL_law_958 kc_i1 <| ml_iadd dL_law_959 <| ml_ck_of h fun hi4431 h => ml_sld dL_law_960 hi4431 <| ml_ck_of h fun hc4433 h => ml_b2_of h fun r4434 m4435 hv4432 h => ml_callV dL_law_961 wm_1040 wb_552 hc4433 (sX10_piling hv4432) rfl (Nat.le_of_ble_eq_true rfl) (Nat.le_of_ble_eq_true rfl) rfl <| ml_aload_n dL_law_964 2 rfl <| ml_sload dL_law_965 0 rfl <| ml_iload_n dL_law_966 3 rfl <| ml_iconst dL_law_967 kc_i1 <| ml_iadd dL_law_968 <| ml_ck_of h fun hi4436 h => ml_sld dL_law_969 hi4436 <| ml_ck_of h fun hc4438 h => ml_b2_of h fun r4439 m4440 hv4437 h => ml_callV dL_law_970 wm_1044 wb_553 hc4438 (sX11_piling hv4437) rfl (Nat.le_of_ble_eq_true rfl) (Nat.le_of_ble_eq_true rfl) rfl <| ml_icmp_eq dL_law_973 h (fun _ h => ml_V.sub [0, 1, 2, 3] rfl (vL_law_1572 hL hr hk18 _ _ _ _ h)) (fun _ h => ml_iconst dL_law_976 kc_i0 <| ml_rI (mk := ml_i) hr dL_law_977 (fun e => Or.inl e.symm) h)) (fun hq4442 h => ml_sw_of h (fun hq4453 h => ml_swInC (off := 945) (24 : Int32) hq4453 dL_law_33 ⟨by decide, by decide, by decide⟩ <| ml_aload_n dL_law_978 1 rfl <| ml_sload dL_law_979 0 rfl <| ml_iload_n dL_law_980 3 rfl <| ml_iconst dL_law_981 kc_i1 <| ml_iadd dL_law_982 <| ml_ck_of h fun hi4443 h => ml_sld dL_law_983 hi4443 <| ml_ck_of h fun hc4445 h => ml_b2_of h fun r4446 m4447 hv4444 h => ml_callV dL_law_984 wm_1048 wb_554 hc4445 (sX10_share hv4444) rfl (Nat.le_of_ble_eq_true rfl) (Nat.le_of_ble_eq_true rfl) rfl <| ml_aload_n dL_law_987 2 rfl <| ml_sload dL_law_988 0 rfl <| ml_iload_n dL_law_989 3 rfl <| ml_iconst dL_law_990 kc_i1 <| ml_iadd dL_law_991 <| ml_ck_of h fun hi4448 h => ml_sld dL_law_992 hi4448 <| ml_ck_of h fun hc4450 h => ml_b2_of h fun r4451 m4452 hv4449 h => ml_callV dL_law_993 wm_1052 wb_555 hc4450 (sX11_share hv4449) rfl (Nat.le_of_ble_eq_true rfl) (Nat.le_of_ble_eq_true rfl) rfl <| ml_icmp_eq dL_law_996 h (fun _ h => ml_V.sub [0, 1, 2, 3] rfl (vL_law_1572 hL hr hk18 _ _ _ _ h)) (fun _ h => ml_iconst dL_law_999 kc_i0 <| ml_rI (mk := ml_i) hr dL_law_1000 (fun e => Or.inl e.symm) h)) (fun hq4454 h => ml_sw_of h (fun hq4465 h => ml_swInC (off := 968) (25 : Int32) hq4465 dL_law_33 ⟨by decide, by decide, by decide⟩ <| ml_aload_n dL_law_1001 1 rfl <| ml_sload dL_law_1002 0 rfl <| ml_iload_n dL_law_1003 3 rfl <| ml_iconst dL_law_1004 kc_i1 <| ml_iadd dL_law_1005 <| ml_ck_of h fun hi4455 h => ml_sld dL_law_1006 hi4455 <| ml_ck_of h fun hc4457 h => ml_b2_of h fun r4458 m4459 hv4456 h => ml_callV dL_law_1007 wm_1056 wb_556 hc4457 (sX10_ways hv4456) rfl (Nat.le_of_ble_eq_true rfl) (Nat.le_of_ble_eq_true rfl) rfl <| ml_aload_n dL_law_1010 2 rfl <| ml_sload dL_law_1011 0 rfl <| ml_iload_n dL_law_1012 3 rfl <| ml_iconst dL_law_1013 kc_i1 <| ml_iadd dL_law_1014 <| ml_ck_of h fun hi4460 h => ml_sld dL_law_1015 hi4460 <| ml_ck_of h fun hc4462 h => ml_b2_of h fun r4463 m4464 hv4461 h => ml_callV dL_law_1016 wm_1060 wb_557 hc4462 (sX11_ways hv4461) rfl (Nat.le_of_ble_eq_true rfl) (Nat.le_of_ble_eq_true rfl) rfl <| ml_icmp_eq dL_law_1019 h (fun _ h => ml_V.sub [0, 1, 2, 3] rfl (vL_law_1572 hL hr hk18 _ _ _ _ h)) (fun _ h => ml_iconst dL_law_1022 kc_i0 <| ml_rI (mk := ml_i) hr dL_law_1023 (fun e => Or.inl e.symm) h)) (fun hq4466 h => ml_sw_of h (fun hq4479 h => ml_swInC (off := 991) (26 : Int32) hq4479 dL_law_33 ⟨by decide, by decide, by decide⟩ <| ml_aload_n dL_law_1024 1 rfl <| ml_sload dL_law_1025 0 rfl <| ml_iload_n dL_law_1026 3 rfl <| ml_iconst dL_law_1027 kc_i1 <| ml_iadd dL_law_1028 <| ml_ck_of h fun hi4467 h => ml_sld dL_law_1029 hi4467 <| ml_sload dL_law_1030 0 rfl <| ml_iload_n dL_law_1031 3 rfl <| ml_iconst dL_law_1032 kc_i2 <| ml_iadd dL_law_1033 <| ml_ck_of h fun hi4468 h => ml_sld dL_law_1034 hi4468 <| ml_ck_of h fun hc4470 h => ml_b2_of h fun r4471 m4472 hv4469 h => ml_callV dL_law_1035 wm_1064 wb_558 hc4470 (sX10_whose hv4469) rfl (Nat.le_of_ble_eq_true rfl) (Nat.le_of_ble_eq_true rfl) rfl <| ml_aload_n dL_law_1038 2 rfl <| ml_sload dL_law_1039 0 rfl <| ml_iload_n dL_law_1040 3 rfl <| ml_iconst dL_law_1041 kc_i1 <| ml_iadd dL_law_1042 <| ml_ck_of h fun hi4473 h => ml_sld dL_law_1043 hi4473 <| ml_sload dL_law_1044 0 rfl <| ml_iload_n dL_law_1045 3 rfl <| ml_iconst dL_law_1046 kc_i2 <| ml_iadd dL_law_1047 <| ml_ck_of h fun hi4474 h => ml_sld dL_law_1048 hi4474 <| ml_ck_of h fun hc4476 h => ml_b2_of h fun r4477 m4478 hv4475 h => ml_callV dL_law_1049 wm_1068 wb_559 hc4476 (sX11_whose hv4475) rfl (Nat.le_of_ble_eq_true rfl) (Nat.le_of_ble_eq_true rfl) rfl <| ml_icmp_eq dL_law_1052 h (fun _ h => ml_V.sub [0, 1, 2, 3] rfl (vL_law_1572 hL hr hk18 _ _ _ _ h)) (fun _ h => ml_iconst dL_law_1055 kc_i0 <| ml_rI (mk := ml_i) hr dL_law_1056 (fun e => Or.inl e.symm) h)) (fun hq4480 h => ml_sw_of h (fun hq4491 h => ml_swInC (off := 1024) (27 : Int32) hq4491 dL_law_33 ⟨by decide, by decide, by decide⟩ <| ml_aload_n dL_law_1057 1 rfl <| ml_sload dL_law_1058 0 rfl <| ml_iload_n dL_law_1059 3 rfl <| ml_iconst dL_law_1060 kc_i1 <| ml_iadd dL_law_1061 <| ml_ck_of h fun hi4481 h => ml_sld dL_law_1062 hi4481 <| ml_ck_of h fun hc4483 h => ml_b2_of h fun r4484 m4485 hv4482 h => ml_callV dL_law_1063 wm_1072 wb_560 hc4483 (sX10_sure hv4482) rfl (Nat.le_of_ble_eq_true rfl) (Nat.le_of_ble_eq_true rfl) rfl <| ml_aload_n dL_law_1066 2 rfl <| ml_sload dL_law_1067 0 rfl <| ml_iload_n dL_law_1068 3 rfl <| ml_iconst dL_law_1069 kc_i1 <| ml_iadd dL_law_1070 <| ml_ck_of h fun hi4486 h => ml_sld dL_law_1071 hi4486 <| ml_ck_of h fun hc4488 h => ml_b2_of h fun r4489 m4490 hv4487 h => ml_callV dL_law_1072 wm_1076 wb_561 hc4488 (sX11_sure hv4487) rfl (Nat.le_of_ble_eq_true rfl) (Nat.le_of_ble_eq_true rfl) rfl <| ml_icmp_eq dL_law_1075 h (fun _ h => ml_V.sub [0, 1, 2, 3] rfl (vL_law_1572 hL hr hk18 _ _ _ _ h)) (fun _ h => ml_iconst dL_law_1078 kc_i0 <| ml_rI (mk := ml_i) hr dL_law_1079 (fun e => Or.inl e.symm) h)) (fun hq4492 h => ml_sw_of h (fun hq4503 h => ml_swInC (off := 1047) (28 : Int32) hq4503 dL_law_33 ⟨by decide, by decide, by decide⟩ <| ml_aload_n dL_law_1080 1 rfl <| ml_sload dL_law_1081 0 rfl <| ml_iload_n dL_law_1082 3 rfl <| ml_iconst dL_law_1083 kc_i1 <| ml_iadd dL_law_1084 <| ml_ck_of h fun hi4493 h => ml_sld dL_law_1085 hi4493 <| ml_ck_of h fun hc4495 h => ml_b2_of h fun r4496 m4497 hv4494 h => ml_callV dL_law_1086 wm_1080 wb_562 hc4495 (sX10_next hv4494) rfl (Nat.le_of_ble_eq_true rfl) (Nat.le_of_ble_eq_true rfl) rfl <| ml_aload_n dL_law_1089 2 rfl <| ml_sload dL_law_1090 0 rfl <| ml_iload_n dL_law_1091 3 rfl <| ml_iconst dL_law_1092 kc_i1 <| ml_iadd dL_law_1093 <| ml_ck_of h fun hi4498 h => ml_sld dL_law_1094 hi4498 <| ml_ck_of h fun hc4500 h => ml_b2_of h fun r4501 m4502 hv4499 h => ml_callV dL_law_1095 wm_1084 wb_563 hc4500 (sX11_next hv4499) rfl (Nat.le_of_ble_eq_true rfl) (Nat.le_of_ble_eq_true rfl) rfl <| ml_icmp_eq dL_law_1098 h (fun _ h => ml_V.sub [0, 1, 2, 3] rfl (vL_law_1572 hL hr hk18 _ _ _ _ h)) (fun _ h => ml_iconst dL_law_1101 kc_i0 <| ml_rI (mk := ml_i) hr dL_law_1102 (fun e => Or.inl e.symm) h)) (fun hq4504 h => ml_sw_of h (fun hq4517 h => ml_swInC (off := 1070) (29 : Int32) hq4517 dL_law_33 ⟨by decide, by decide, by decide⟩ <| ml_aload_n dL_law_1103 1 rfl <| ml_sload dL_law_1104 0 rfl <| ml_iload_n dL_law_1105 3 rfl <| ml_iconst dL_law_1106 kc_i1 <| ml_iadd dL_law_1107 <| ml_ck_of h fun hi4505 h => ml_sld dL_law_1108 hi4505 <| ml_sload dL_law_1109 0 rfl <| ml_iload_n dL_law_1110 3 rfl <| ml_iconst dL_law_1111 kc_i2 <| ml_iadd dL_law_1112 <| ml_ck_of h fun hi4506 h => ml_sld dL_law_1113 hi4506 <| ml_ck_of h fun hc4508 h => ml_b2_of h fun r4509 m4510 hv4507 h => ml_callV dL_law_1114 wm_1088 wb_564 hc4508 (sX10_moves hv4507) rfl (Nat.le_of_ble_eq_true rfl) (Nat.le_of_ble_eq_true rfl) rfl <| ml_aload_n dL_law_1117 2 rfl <| ml_sload dL_law_1118 0 rfl <| ml_iload_n dL_law_1119 3 rfl <| ml_iconst dL_law_1120 kc_i1 <| ml_iadd dL_law_1121 <| ml_ck_of h fun hi4511 h => ml_sld dL_law_1122 hi4511 <| ml_sload dL_law_1123 0 rfl <| ml_iload_n dL_law_1124 3 rfl <| ml_iconst dL_law_1125 kc_i2 <| ml_iadd dL_law_1126 <| ml_ck_of h fun hi4512 h => ml_sld dL_law_1127 hi4512 <| ml_ck_of h fun hc4514 h => ml_b2_of h fun r4515 m4516 hv4513 h => ml_callV dL_law_1128 wm_1092 wb_565 hc4514 (sX11_moves hv4513) rfl (Nat.le_of_ble_eq_true rfl) (Nat.le_of_ble_eq_true rfl) rfl <| ml_icmp_eq dL_law_1131 h (fun _ h => ml_V.sub [0, 1, 2, 3] rfl (vL_law_1572 hL hr hk18 _ _ _ _ h)) (fun _ h => ml_iconst dL_law_1134 kc_i0 <| ml_rI (mk := ml_i) hr dL_law_1135 (fun e => Or.inl e.symm) h)) (fun hq4518 h => ml_sw_of h (fun hq4533 h => ml_swInC (off := 1103) (30 : Int32) hq4533 dL_law_33 ⟨by decide, by decide, by decide⟩ <| ml_aload_n dL_law_1136 1 rfl <| ml_sload dL_law_1137 0 rfl <| ml_iload_n dL_law_1138 3 rfl <| ml_iconst dL_law_1139 kc_i1 <| ml_iadd dL_law_1140 <| ml_ck_of h fun hi4519 h => ml_sld dL_law_1141 hi4519 <| ml_sload dL_law_1142 0 rfl <| ml_iload_n dL_law_1143 3 rfl <| ml_iconst dL_law_1144 kc_i2 <| ml_iadd dL_law_1145 <| ml_ck_of h fun hi4520 h => ml_sld dL_law_1146 hi4520 <| ml_sload dL_law_1147 0 rfl <| ml_iload_n dL_law_1148 3 rfl <| ml_iconst dL_law_1149 kc_i3 <| ml_iadd dL_law_1150 <| ml_ck_of h fun hi4521 h => ml_sld dL_law_1151 hi4521 <| ml_ck_of h fun hc4523 h => ml_b2_of h fun r4524 m4525 hv4522 h => ml_callV dL_law_1152 wm_1096 wb_566 hc4523 (sX10_line hv4522) rfl (Nat.le_of_ble_eq_true rfl) (Nat.le_of_ble_eq_true rfl) rfl <| ml_aload_n dL_law_1155 2 rfl <| ml_sload dL_law_1156 0 rfl <| ml_iload_n dL_law_1157 3 rfl <| ml_iconst dL_law_1158 kc_i1 <| ml_iadd dL_law_1159 <| ml_ck_of h fun hi4526 h => ml_sld dL_law_1160 hi4526 <| ml_sload dL_law_1161 0 rfl <| ml_iload_n dL_law_1162 3 rfl <| ml_iconst dL_law_1163 kc_i2 <| ml_iadd dL_law_1164 <| ml_ck_of h fun hi4527 h => ml_sld dL_law_1165 hi4527 <| ml_sload dL_law_1166 0 rfl <| ml_iload_n dL_law_1167 3 rfl <| ml_iconst dL_law_1168 kc_i3 <| ml_iadd dL_law_1169 <| ml_ck_of h fun hi4528 h => ml_sld dL_law_1170 hi4528 <| ml_ck_of h fun hc4530 h => ml_b2_of h fun r4531 m4532 hv4529 h => ml_callV dL_law_1171 wm_1100 wb_567 hc4530 (sX11_line hv4529) rfl (Nat.le_of_ble_eq_true rfl) (Nat.le_of_ble_eq_true rfl) rfl <| ml_icmp_eq dL_law_1174 h (fun _ h => ml_V.sub [0, 1, 2, 3] rfl (vL_law_1572 hL hr hk18 _ _ _ _ h)) (fun _ h => ml_iconst dL_law_1177 kc_i0 <| ml_rI (mk := ml_i) hr dL_law_1178 (fun e => Or.inl e.symm) h)) (fun hq4534 h => ml_sw_of h (fun hq4543 h => ml_swInC (off := 1146) (31 : Int32) hq4543 dL_law_33 ⟨by decide, by decide, by decide⟩ <| ml_aload_n dL_law_1179 1 rfl <| ml_ck_of h fun hc4536 h => ml_b2_of h fun r4537 m4538 hv4535 h => ml_callV dL_law_1180 wm_1104 wb_568 hc4536 (sX10_readings hv4535) rfl (Nat.le_of_ble_eq_true rfl) (Nat.le_of_ble_eq_true rfl) rfl <| ml_aload_n dL_law_1183 2 rfl <| ml_ck_of h fun hc4540 h => ml_b2_of h fun r4541 m4542 hv4539 h => ml_callV dL_law_1184 wm_1108 wb_569 hc4540 (sX11_readings hv4539) rfl (Nat.le_of_ble_eq_true rfl) (Nat.le_of_ble_eq_true rfl) rfl <| ml_icmp_eq dL_law_1187 h (fun _ h => ml_V.sub [0, 1, 2, 3] rfl (vL_law_1572 hL hr hk18 _ _ _ _ h)) (fun _ h => ml_iconst dL_law_1190 kc_i0 <| ml_rI (mk := ml_i) hr dL_law_1191 (fun e => Or.inl e.symm) h)) (fun hq4544 h => ml_sw_of h (fun hq4555 h => ml_swInC (off := 1159) (32 : Int32) hq4555 dL_law_33 ⟨by decide, by decide, by decide⟩ <| ml_aload_n dL_law_1192 1 rfl <| ml_sload dL_law_1193 0 rfl <| ml_iload_n dL_law_1194 3 rfl <| ml_iconst dL_law_1195 kc_i1 <| ml_iadd dL_law_1196 <| ml_ck_of h fun hi4545 h => ml_sld dL_law_1197 hi4545 <| ml_ck_of h fun hc4547 h => ml_b2_of h fun r4548 m4549 hv4546 h => ml_callV dL_law_1198 wm_1112 wb_570 hc4547 (sX10_lineOf hv4546) rfl (Nat.le_of_ble_eq_true rfl) (Nat.le_of_ble_eq_true rfl) rfl <| ml_aload_n dL_law_1201 2 rfl <| ml_sload dL_law_1202 0 rfl <| ml_iload_n dL_law_1203 3 rfl <| ml_iconst dL_law_1204 kc_i1 <| ml_iadd dL_law_1205 <| ml_ck_of h fun hi4550 h => ml_sld dL_law_1206 hi4550 <| ml_ck_of h fun hc4552 h => ml_b2_of h fun r4553 m4554 hv4551 h => ml_callV dL_law_1207 wm_1116 wb_571 hc4552 (sX11_lineOf hv4551) rfl (Nat.le_of_ble_eq_true rfl) (Nat.le_of_ble_eq_true rfl) rfl <| ml_icmp_eq dL_law_1210 h (fun _ h => ml_V.sub [0, 1, 2, 3] rfl (vL_law_1572 hL hr hk18 _ _ _ _ h)) (fun _ h => ml_iconst dL_law_1213 kc_i0 <| ml_rI (mk := ml_i) hr dL_law_1214 (fun e => Or.inl e.symm) h)) (fun hq4556 h => ml_sw_of h (fun hq4573 h => ml_swInC (off := 1182) (33 : Int32) hq4573 dL_law_33 ⟨by decide, by decide, by decide⟩ <| ml_aload_n dL_law_1215 1 rfl <| ml_sload dL_law_1216 0 rfl <| ml_iload_n dL_law_1217 3 rfl <| ml_iconst dL_law_1218 kc_i1 <| ml_iadd dL_law_1219 <| ml_ck_of h fun hi4557 h => ml_sld dL_law_1220 hi4557 <| ml_sload dL_law_1221 0 rfl <| ml_iload_n dL_law_1222 3 rfl <| ml_iconst dL_law_1223 kc_i2 <| ml_iadd dL_law_1224 <| ml_ck_of h fun hi4558 h => ml_sld dL_law_1225 hi4558 <| ml_sload dL_law_1226 0 rfl <| ml_iload_n dL_law_1227 3 rfl <| ml_iconst dL_law_1228 kc_i3 <| ml_iadd dL_law_1229 <| ml_ck_of h fun hi4559 h => ml_sld dL_law_1230 hi4559 <| ml_sload dL_law_1231 0 rfl <| ml_iload_n dL_law_1232 3 rfl <| ml_iconst dL_law_1233 kc_i4 <| ml_iadd dL_law_1234 <| ml_ck_of h fun hi4560 h => ml_sld dL_law_1235 hi4560 <| ml_ck_of h fun hc4562 h => ml_b2_of h fun r4563 m4564 hv4561 h => ml_callV dL_law_1236 wm_1120 wb_572 hc4562 (sX10_bit hv4561) rfl (Nat.le_of_ble_eq_true rfl) (Nat.le_of_ble_eq_true rfl) rfl <| ml_aload_n dL_law_1239 2 rfl <| ml_sload dL_law_1240 0 rfl <| ml_iload_n dL_law_1241 3 rfl <| ml_iconst dL_law_1242 kc_i1 <| ml_iadd dL_law_1243 <| ml_ck_of h fun hi4565 h => ml_sld dL_law_1244 hi4565 <| ml_sload dL_law_1245 0 rfl <| ml_iload_n dL_law_1246 3 rfl <| ml_iconst dL_law_1247 kc_i2 <| ml_iadd dL_law_1248 <| ml_ck_of h fun hi4566 h => ml_sld dL_law_1249 hi4566 <| ml_sload dL_law_1250 0 rfl <| ml_iload_n dL_law_1251 3 rfl <| ml_iconst dL_law_1252 kc_i3 <| ml_iadd dL_law_1253 <| ml_ck_of h fun hi4567 h => ml_sld dL_law_1254 hi4567 <| ml_sload dL_law_1255 0 rfl <| ml_iload_n dL_law_1256 3 rfl <| ml_iconst dL_law_1257 kc_i4 <| ml_iadd dL_law_1258 <| ml_ck_of h fun hi4568 h => ml_sld dL_law_1259 hi4568 <| ml_ck_of h fun hc4570 h => ml_b2_of h fun r4571 m4572 hv4569 h => ml_callV dL_law_1260 wm_1124 wb_573 hc4570 (sX11_bit hv4569) rfl (Nat.le_of_ble_eq_true rfl) (Nat.le_of_ble_eq_true rfl) rfl <| ml_icmp_eq dL_law_1263 h (fun _ h => ml_V.sub [0, 1, 2, 3] rfl (vL_law_1572 hL hr hk18 _ _ _ _ h)) (fun _ h => ml_iconst dL_law_1266 kc_i0 <| ml_rI (mk := ml_i) hr dL_law_1267 (fun e => Or.inl e.symm) h)) (fun hq4574 h => ml_sw_of h (fun hq4585 h => ml_swInC (off := 1235) (34 : Int32) hq4585 dL_law_33 ⟨by decide, by decide, by decide⟩ <| ml_aload_n dL_law_1268 1 rfl <| ml_sload dL_law_1269 0 rfl <| ml_iload_n dL_law_1270 3 rfl <| ml_iconst dL_law_1271 kc_i1 <| ml_iadd dL_law_1272 <| ml_ck_of h fun hi4575 h => ml_sld dL_law_1273 hi4575 <| ml_sload dL_law_1274 0 rfl <| ml_iload_n dL_law_1275 3 rfl <| ml_iconst dL_law_1276 kc_i2 <| ml_iadd dL_law_1277 <| ml_ck_of h fun hi4576 h => ml_sld dL_law_1278 hi4576 <| ml_ck_of h fun hc4578 h => ml_b1_of h fun r4579 hv4577 h => ml_callV dL_law_1279 wm_1128 wb_574 hc4578 (sX10_joins hv4577) rfl (Nat.le_of_ble_eq_true rfl) (Nat.le_of_ble_eq_true rfl) rfl <| ml_aload_n dL_law_1282 2 rfl <| ml_sload dL_law_1283 0 rfl <| ml_iload_n dL_law_1284 3 rfl <| ml_iconst dL_law_1285 kc_i1 <| ml_iadd dL_law_1286 <| ml_ck_of h fun hi4580 h => ml_sld dL_law_1287 hi4580 <| ml_sload dL_law_1288 0 rfl <| ml_iload_n dL_law_1289 3 rfl <| ml_iconst dL_law_1290 kc_i2 <| ml_iadd dL_law_1291 <| ml_ck_of h fun hi4581 h => ml_sld dL_law_1292 hi4581 <| ml_ck_of h fun hc4583 h => ml_b1_of h fun r4584 hv4582 h => ml_callV dL_law_1293 wm_1132 wb_575 hc4583 (sX11_joins hv4582) rfl (Nat.le_of_ble_eq_true rfl) (Nat.le_of_ble_eq_true rfl) rfl <| ml_icmp_eq dL_law_1296 h (fun _ h => ml_V.sub [0, 1, 2, 3] rfl (vL_law_1572 hL hr hk18 _ _ _ _ h)) (fun _ h => ml_iconst dL_law_1299 kc_i0 <| ml_rI (mk := ml_i) hr dL_law_1300 (fun e => Or.inl e.symm) h)) (fun hq4586 h => ml_sw_of h (fun hq4597 h => ml_swInC (off := 1268) (35 : Int32) hq4597 dL_law_33 ⟨by decide, by decide, by decide⟩ <| ml_aload_n dL_law_1301 1 rfl <| ml_sload dL_law_1302 0 rfl <| ml_iload_n dL_law_1303 3 rfl <| ml_iconst dL_law_1304 kc_i1 <| ml_iadd dL_law_1305 <| ml_ck_of h fun hi4587 h => ml_sld dL_law_1306 hi4587 <| ml_ck_of h fun hc4589 h => ml_b2_of h fun r4590 m4591 hv4588 h => ml_callV dL_law_1307 wm_1136 wb_576 hc4589 (sX10_sheets hv4588) rfl (Nat.le_of_ble_eq_true rfl) (Nat.le_of_ble_eq_true rfl) rfl <| ml_aload_n dL_law_1310 2 rfl <| ml_sload dL_law_1311 0 rfl <| ml_iload_n dL_law_1312 3 rfl <| ml_iconst dL_law_1313 kc_i1 <| ml_iadd dL_law_1314 <| ml_ck_of h fun hi4592 h => ml_sld dL_law_1315 hi4592 <| ml_ck_of h fun hc4594 h => ml_b2_of h fun r4595 m4596 hv4593 h => ml_callV dL_law_1316 wm_1140 wb_577 hc4594 (sX11_sheets hv4593) rfl (Nat.le_of_ble_eq_true rfl) (Nat.le_of_ble_eq_true rfl) rfl <| ml_icmp_eq dL_law_1319 h (fun _ h => ml_V.sub [0, 1, 2, 3] rfl (vL_law_1572 hL hr hk18 _ _ _ _ h)) (fun _ h => ml_iconst dL_law_1322 kc_i0 <| ml_rI (mk := ml_i) hr dL_law_1323 (fun e => Or.inl e.symm) h)) (fun hq4598 h => ml_sw_of h (fun hq4607 h => ml_swInC (off := 1291) (36 : Int32) hq4607 dL_law_33 ⟨by decide, by decide, by decide⟩ <| ml_aload_n dL_law_1324 1 rfl <| ml_ck_of h fun hc4600 h => ml_b2_of h fun r4601 m4602 hv4599 h => ml_callV dL_law_1325 wm_1144 wb_578 hc4600 (sX10_laid hv4599) rfl (Nat.le_of_ble_eq_true rfl) (Nat.le_of_ble_eq_true rfl) rfl <| ml_aload_n dL_law_1328 2 rfl <| ml_ck_of h fun hc4604 h => ml_b2_of h fun r4605 m4606 hv4603 h => ml_callV dL_law_1329 wm_1148 wb_579 hc4604 (sX11_laid hv4603) rfl (Nat.le_of_ble_eq_true rfl) (Nat.le_of_ble_eq_true rfl) rfl <| ml_icmp_eq dL_law_1332 h (fun _ h => ml_V.sub [0, 1, 2, 3] rfl (vL_law_1572 hL hr hk18 _ _ _ _ h)) (fun _ h => ml_iconst dL_law_1335 kc_i0 <| ml_rI (mk := ml_i) hr dL_law_1336 (fun e => Or.inl e.symm) h)) (fun hq4608 h => ml_sw_of h (fun hq4617 h => ml_swInC (off := 1304) (37 : Int32) hq4617 dL_law_33 ⟨by decide, by decide, by decide⟩ <| ml_aload_n dL_law_1337 1 rfl <| ml_ck_of h fun hc4610 h => ml_b2_of h fun r4611 m4612 hv4609 h => ml_callV dL_law_1338 wm_1152 wb_580 hc4610 (sX10_travellers hv4609) rfl (Nat.le_of_ble_eq_true rfl) (Nat.le_of_ble_eq_true rfl) rfl <| ml_aload_n dL_law_1341 2 rfl <| ml_ck_of h fun hc4614 h => ml_b2_of h fun r4615 m4616 hv4613 h => ml_callV dL_law_1342 wm_1156 wb_581 hc4614 (sX11_travellers hv4613) rfl (Nat.le_of_ble_eq_true rfl) (Nat.le_of_ble_eq_true rfl) rfl <| ml_icmp_eq dL_law_1345 h (fun _ h => ml_V.sub [0, 1, 2, 3] rfl (vL_law_1572 hL hr hk18 _ _ _ _ h)) (fun _ h => ml_iconst dL_law_1348 kc_i0 <| ml_rI (mk := ml_i) hr dL_law_1349 (fun e => Or.inl e.symm) h)) (fun hq4618 h => ml_sw_of h (fun hq4629 h => ml_swInC (off := 1317) (38 : Int32) hq4629 dL_law_33 ⟨by decide, by decide, by decide⟩ <| ml_aload_n dL_law_1350 1 rfl <| ml_sload dL_law_1351 0 rfl <| ml_iload_n dL_law_1352 3 rfl <| ml_iconst dL_law_1353 kc_i1 <| ml_iadd dL_law_1354 <| ml_ck_of h fun hi4619 h => ml_sld dL_law_1355 hi4619 <| ml_ck_of h fun hc4621 h => ml_b2_of h fun r4622 m4623 hv4620 h => ml_callV dL_law_1356 wm_1160 wb_582 hc4621 (sX10_journey hv4620) rfl (Nat.le_of_ble_eq_true rfl) (Nat.le_of_ble_eq_true rfl) rfl <| ml_aload_n dL_law_1359 2 rfl <| ml_sload dL_law_1360 0 rfl <| ml_iload_n dL_law_1361 3 rfl <| ml_iconst dL_law_1362 kc_i1 <| ml_iadd dL_law_1363 <| ml_ck_of h fun hi4624 h => ml_sld dL_law_1364 hi4624 <| ml_ck_of h fun hc4626 h => ml_b2_of h fun r4627 m4628 hv4625 h => ml_callV dL_law_1365 wm_1164 wb_583 hc4626 (sX11_journey hv4625) rfl (Nat.le_of_ble_eq_true rfl) (Nat.le_of_ble_eq_true rfl) rfl <| ml_icmp_eq dL_law_1368 h (fun _ h => ml_V.sub [0, 1, 2, 3] rfl (vL_law_1572 hL hr hk18 _ _ _ _ h)) (fun _ h => ml_iconst dL_law_1371 kc_i0 <| ml_rI (mk := ml_i) hr dL_law_1372 (fun e => Or.inl e.symm) h)) (fun hq4630 h => ml_sw_of h (fun hq4645 h => ml_swInC (off := 1340) (39 : Int32) hq4645 dL_law_33 ⟨by decide, by decide, by decide⟩ <| ml_aload_n dL_law_1373 1 rfl <| ml_sload dL_law_1374 0 rfl <| ml_iload_n dL_law_1375 3 rfl <| ml_iconst dL_law_1376 kc_i1 <| ml_iadd dL_law_1377 <| ml_ck_of h fun hi4631 h => ml_sld dL_law_1378 hi4631 <| ml_sload dL_law_1379 0 rfl <| ml_iload_n dL_law_1380 3 rfl <| ml_iconst dL_law_1381 kc_i2 <| ml_iadd dL_law_1382 <| ml_ck_of h fun hi4632 h => ml_sld dL_law_1383 hi4632 <| ml_sload dL_law_1384 0 rfl <| ml_iload_n dL_law_1385 3 rfl <| ml_iconst dL_law_1386 kc_i3 <| ml_iadd dL_law_1387 <| ml_ck_of h fun hi4633 h => ml_sld dL_law_1388 hi4633 <| ml_ck_of h fun hc4635 h => ml_b2_of h fun r4636 m4637 hv4634 h => ml_callV dL_law_1389 wm_1168 wb_584 hc4635 (sX10_claim hv4634) rfl (Nat.le_of_ble_eq_true rfl) (Nat.le_of_ble_eq_true rfl) rfl <| ml_aload_n dL_law_1392 2 rfl <| ml_sload dL_law_1393 0 rfl <| ml_iload_n dL_law_1394 3 rfl <| ml_iconst dL_law_1395 kc_i1 <| ml_iadd dL_law_1396 <| ml_ck_of h fun hi4638 h => ml_sld dL_law_1397 hi4638 <| ml_sload dL_law_1398 0 rfl <| ml_iload_n dL_law_1399 3 rfl <| ml_iconst dL_law_1400 kc_i2 <| ml_iadd dL_law_1401 <| ml_ck_of h fun hi4639 h => ml_sld dL_law_1402 hi4639 <| ml_sload dL_law_1403 0 rfl <| ml_iload_n dL_law_1404 3 rfl <| ml_iconst dL_law_1405 kc_i3 <| ml_iadd dL_law_1406 <| ml_ck_of h fun hi4640 h => ml_sld dL_law_1407 hi4640 <| ml_ck_of h fun hc4642 h => ml_b2_of h fun r4643 m4644 hv4641 h => ml_callV dL_law_1408 wm_1172 wb_585 hc4642 (sX11_claim hv4641) rfl (Nat.le_of_ble_eq_true rfl) (Nat.le_of_ble_eq_true rfl) rfl <| ml_icmp_eq dL_law_1411 h (fun _ h => ml_V.sub [0, 1, 2, 3] rfl (vL_law_1572 hL hr hk18 _ _ _ _ h)) (fun _ h => ml_iconst dL_law_1414 kc_i0 <| ml_rI (mk := ml_i) hr dL_law_1415 (fun e => Or.inl e.symm) h)) (fun hq4646 h => ml_sw_of h (fun hq4657 h => ml_swInC (off := 1383) (40 : Int32) hq4657 dL_law_33 ⟨by decide, by decide, by decide⟩ <| ml_aload_n dL_law_1416 1 rfl <| ml_sload dL_law_1417 0 rfl <| ml_iload_n dL_law_1418 3 rfl <| ml_iconst dL_law_1419 kc_i1 <| ml_iadd dL_law_1420 <| ml_ck_of h fun hi4647 h => ml_sld dL_law_1421 hi4647 <| ml_ck_of h fun hc4649 h => ml_b2_of h fun r4650 m4651 hv4648 h => ml_callV dL_law_1422 wm_1176 wb_586 hc4649 (sX10_judge hv4648) rfl (Nat.le_of_ble_eq_true rfl) (Nat.le_of_ble_eq_true rfl) rfl <| ml_aload_n dL_law_1425 2 rfl <| ml_sload dL_law_1426 0 rfl <| ml_iload_n dL_law_1427 3 rfl <| ml_iconst dL_law_1428 kc_i1 <| ml_iadd dL_law_1429 <| ml_ck_of h fun hi4652 h => ml_sld dL_law_1430 hi4652 <| ml_ck_of h fun hc4654 h => ml_b2_of h fun r4655 m4656 hv4653 h => ml_callV dL_law_1431 wm_1180 wb_587 hc4654 (sX11_judge hv4653) rfl (Nat.le_of_ble_eq_true rfl) (Nat.le_of_ble_eq_true rfl) rfl <| ml_icmp_eq dL_law_1434 h (fun _ h => ml_V.sub [0, 1, 2, 3] rfl (vL_law_1572 hL hr hk18 _ _ _ _ h)) (fun _ h => ml_iconst dL_law_1437 kc_i0 <| ml_rI (mk := ml_i) hr dL_law_1438 (fun e => Or.inl e.symm) h)) (fun hq4658 h => ml_sw_of h (fun hq4671 h => ml_swInC (off := 1406) (41 : Int32) hq4671 dL_law_33 ⟨by decide, by decide, by decide⟩ <| ml_aload_n dL_law_1439 1 rfl <| ml_sload dL_law_1440 0 rfl <| ml_iload_n dL_law_1441 3 rfl <| ml_iconst dL_law_1442 kc_i1 <| ml_iadd dL_law_1443 <| ml_ck_of h fun hi4659 h => ml_sld dL_law_1444 hi4659 <| ml_sload dL_law_1445 0 rfl <| ml_iload_n dL_law_1446 3 rfl <| ml_iconst dL_law_1447 kc_i2 <| ml_iadd dL_law_1448 <| ml_ck_of h fun hi4660 h => ml_sld dL_law_1449 hi4660 <| ml_ck_of h fun hc4662 h => ml_b2_of h fun r4663 m4664 hv4661 h => ml_callV dL_law_1450 wm_1184 wb_588 hc4662 (sX10_heir hv4661) rfl (Nat.le_of_ble_eq_true rfl) (Nat.le_of_ble_eq_true rfl) rfl <| ml_aload_n dL_law_1453 2 rfl <| ml_sload dL_law_1454 0 rfl <| ml_iload_n dL_law_1455 3 rfl <| ml_iconst dL_law_1456 kc_i1 <| ml_iadd dL_law_1457 <| ml_ck_of h fun hi4665 h => ml_sld dL_law_1458 hi4665 <| ml_sload dL_law_1459 0 rfl <| ml_iload_n dL_law_1460 3 rfl <| ml_iconst dL_law_1461 kc_i2 <| ml_iadd dL_law_1462 <| ml_ck_of h fun hi4666 h => ml_sld dL_law_1463 hi4666 <| ml_ck_of h fun hc4668 h => ml_b2_of h fun r4669 m4670 hv4667 h => ml_callV dL_law_1464 wm_1188 wb_589 hc4668 (sX11_heir hv4667) rfl (Nat.le_of_ble_eq_true rfl) (Nat.le_of_ble_eq_true rfl) rfl <| ml_icmp_eq dL_law_1467 h (fun _ h => ml_V.sub [0, 1, 2, 3] rfl (vL_law_1572 hL hr hk18 _ _ _ _ h)) (fun _ h => ml_iconst dL_law_1470 kc_i0 <| ml_rI (mk := ml_i) hr dL_law_1471 (fun e => Or.inl e.symm) h)) (fun hq4672 h => ml_sw_of h (fun hq4679 h => ml_swInC (off := 1439) (42 : Int32) hq4679 dL_law_33 ⟨by decide, by decide, by decide⟩ <| ml_aload_n dL_law_1472 1 rfl <| ml_ck_of h fun hc4674 h => ml_b1_of h fun r4675 hv4673 h => ml_callV dL_law_1473 wm_1192 wb_590 hc4674 (sX10_asked hv4673) rfl (Nat.le_of_ble_eq_true rfl) (Nat.le_of_ble_eq_true rfl) rfl <| ml_aload_n dL_law_1476 2 rfl <| ml_ck_of h fun hc4677 h => ml_b1_of h fun r4678 hv4676 h => ml_callV dL_law_1477 wm_1196 wb_591 hc4677 (sX11_asked hv4676) rfl (Nat.le_of_ble_eq_true rfl) (Nat.le_of_ble_eq_true rfl) rfl <| ml_icmp_eq dL_law_1480 h (fun _ h => ml_V.sub [0, 1, 2, 3] rfl (vL_law_1572 hL hr hk18 _ _ _ _ h)) (fun _ h => ml_iconst dL_law_1483 kc_i0 <| ml_rI (mk := ml_i) hr dL_law_1484 (fun e => Or.inl e.symm) h)) (fun hq4680 h => ml_sw_of h (fun hq4687 h => ml_swInC (off := 1452) (43 : Int32) hq4687 dL_law_33 ⟨by decide, by decide, by decide⟩ <| ml_aload_n dL_law_1485 1 rfl <| ml_ck_of h fun hc4682 h => ml_b1_of h fun r4683 hv4681 h => ml_callV dL_law_1486 wm_1200 wb_592 hc4682 (sX10_many hv4681) rfl (Nat.le_of_ble_eq_true rfl) (Nat.le_of_ble_eq_true rfl) rfl <| ml_aload_n dL_law_1489 2 rfl <| ml_ck_of h fun hc4685 h => ml_b1_of h fun r4686 hv4684 h => ml_callV dL_law_1490 wm_1204 wb_593 hc4685 (sX11_many hv4684) rfl (Nat.le_of_ble_eq_true rfl) (Nat.le_of_ble_eq_true rfl) rfl <| ml_lcmp dL_law_1493 <| ml_if_eq dL_law_1494 h (fun _ h => ml_V.sub [0, 1, 2, 3] rfl (vL_law_1572 hL hr hk18 _ _ _ _ h)) (fun _ h => ml_iconst dL_law_1497 kc_i0 <| ml_rI (mk := ml_i) hr dL_law_1498 (fun e => Or.inl e.symm) h)) (fun hq4688 h => ml_sw_of h (fun hq4697 h => ml_swInC (off := 1466) (44 : Int32) hq4697 dL_law_33 ⟨by decide, by decide, by decide⟩ <| ml_aload_n dL_law_1499 1 rfl <| ml_sload dL_law_1500 0 rfl <| ml_iload_n dL_law_1501 3 rfl <| ml_iconst dL_law_1502 kc_i1 <| ml_iadd dL_law_1503 <| ml_ck_of h fun hi4689 h => ml_sld dL_law_1504 hi4689 <| ml_ck_of h fun hc4691 h => ml_b1_of h fun r4692 hv4690 h => ml_callV dL_law_1505 wm_1205 wb_501 hc4691 (sX10_count hv4690) rfl (Nat.le_of_ble_eq_true rfl) (Nat.le_of_ble_eq_true rfl) rfl <| ml_aload_n dL_law_1508 2 rfl <| ml_sload dL_law_1509 0 rfl <| ml_iload_n dL_law_1510 3 rfl <| ml_iconst dL_law_1511 kc_i1 <| ml_iadd dL_law_1512 <| ml_ck_of h fun hi4693 h => ml_sld dL_law_1513 hi4693 <| ml_ck_of h fun hc4695 h => ml_b1_of h fun r4696 hv4694 h => ml_callV dL_law_1514 wm_1209 wb_594 hc4695 (sX11_count hv4694) rfl (Nat.le_of_ble_eq_true rfl) (Nat.le_of_ble_eq_true rfl) rfl <| ml_icmp_eq dL_law_1517 h (fun _ h => ml_V.sub [0, 1, 2, 3] rfl (vL_law_1572 hL hr hk18 _ _ _ _ h)) (fun _ h => ml_iconst dL_law_1520 kc_i0 <| ml_rI (mk := ml_i) hr dL_law_1521 (fun e => Or.inl e.symm) h)) (fun hq4698 h => ml_sw_of h (fun hq4705 h => ml_swInC (off := 1489) (45 : Int32) hq4705 dL_law_33 ⟨by decide, by decide, by decide⟩ <| ml_aload_n dL_law_1522 1 rfl <| ml_ck_of h fun hc4700 h => ml_b1_of h fun r4701 hv4699 h => ml_callV dL_law_1523 wm_1213 wb_595 hc4700 (sX10_finding hv4699) rfl (Nat.le_of_ble_eq_true rfl) (Nat.le_of_ble_eq_true rfl) rfl <| ml_aload_n dL_law_1526 2 rfl <| ml_ck_of h fun hc4703 h => ml_b1_of h fun r4704 hv4702 h => ml_callV dL_law_1527 wm_1217 wb_596 hc4703 (sX11_finding hv4702) rfl (Nat.le_of_ble_eq_true rfl) (Nat.le_of_ble_eq_true rfl) rfl <| ml_icmp_eq dL_law_1530 h (fun _ h => ml_V.sub [0, 1, 2, 3] rfl (vL_law_1572 hL hr hk18 _ _ _ _ h)) (fun _ h => ml_iconst dL_law_1533 kc_i0 <| ml_rI (mk := ml_i) hr dL_law_1534 (fun e => Or.inl e.symm) h)) (fun hq4706 h => ml_sw_of h (fun hq4715 h => ml_swInC (off := 1502) (46 : Int32) hq4715 dL_law_33 ⟨by decide, by decide, by decide⟩ <| ml_aload_n dL_law_1535 1 rfl <| ml_sload dL_law_1536 0 rfl <| ml_iload_n dL_law_1537 3 rfl <| ml_iconst dL_law_1538 kc_i1 <| ml_iadd dL_law_1539 <| ml_ck_of h fun hi4707 h => ml_sld dL_law_1540 hi4707 <| ml_ck_of h fun hc4709 h => ml_b1_of h fun r4710 hv4708 h => ml_callV dL_law_1541 wm_1221 wb_597 hc4709 (sX10_findings hv4708) rfl (Nat.le_of_ble_eq_true rfl) (Nat.le_of_ble_eq_true rfl) rfl <| ml_aload_n dL_law_1544 2 rfl <| ml_sload dL_law_1545 0 rfl <| ml_iload_n dL_law_1546 3 rfl <| ml_iconst dL_law_1547 kc_i1 <| ml_iadd dL_law_1548 <| ml_ck_of h fun hi4711 h => ml_sld dL_law_1549 hi4711 <| ml_ck_of h fun hc4713 h => ml_b1_of h fun r4714 hv4712 h => ml_callV dL_law_1550 wm_1225 wb_598 hc4713 (sX11_findings hv4712) rfl (Nat.le_of_ble_eq_true rfl) (Nat.le_of_ble_eq_true rfl) rfl <| ml_icmp_eq dL_law_1553 h (fun _ h => ml_V.sub [0, 1, 2, 3] rfl (vL_law_1572 hL hr hk18 _ _ _ _ h)) (fun _ h => ml_iconst dL_law_1556 kc_i0 <| ml_rI (mk := ml_i) hr dL_law_1557 (fun e => Or.inl e.symm) h)) (fun hq4716 h => ml_sw_of h (fun hq4724 h => ml_swInC (off := 1525) (47 : Int32) hq4724 dL_law_33 ⟨by decide, by decide, by decide⟩ <| ml_aload_n dL_law_1558 1 rfl <| ml_ck_of h fun hc4718 h => ml_b1_of h fun r4719 hv4717 h => ml_callV dL_law_1559 wm_1229 wb_599 hc4718 (sX10_digest hv4717) rfl (Nat.le_of_ble_eq_true rfl) (Nat.le_of_ble_eq_true rfl) rfl <| ml_aload_n dL_law_1562 2 rfl <| ml_ck_of h fun hc4721 h => ml_b2_of h fun r4722 m4723 hv4720 h => ml_callV dL_law_1563 wm_1233 wb_600 hc4721 (sX11_digest hv4720) rfl (Nat.le_of_ble_eq_true rfl) (Nat.le_of_ble_eq_true rfl) rfl <| ml_lcmp dL_law_1566 <| ml_if_eq dL_law_1567 h (fun _ h => ml_V.sub [0, 1, 2, 3] rfl (vL_law_1572 hL hr hk18 _ _ _ _ h)) (fun _ h => ml_iconst dL_law_1570 kc_i0 <| ml_rI (mk := ml_i) hr dL_law_1571 (fun e => Or.inl e.symm) h)) (fun hq4725 h => ml_swOut dL_law_33 (by have w0 := lv_neT hq4147 (show (0 : Int32).toInt = 0 from by decide); have w1 := lv_neT hq4163 (show (1 : Int32).toInt = 1 from by decide); have w2 := lv_neT hq4177 (show (2 : Int32).toInt = 2 from by decide); have w3 := lv_neT hq4189 (show (3 : Int32).toInt = 3 from by decide); have w4 := lv_neT hq4209 (show (4 : Int32).toInt = 4 from by decide); have w5 := lv_neT hq4221 (show (5 : Int32).toInt = 5 from by decide); have w6 := lv_neT hq4235 (show (6 : Int32).toInt = 6 from by decide); have w7 := lv_neT hq4251 (show (7 : Int32).toInt = 7 from by decide); have w8 := lv_neT hq4263 (show (8 : Int32).toInt = 8 from by decide); have w9 := lv_neT hq4275 (show (9 : Int32).toInt = 9 from by decide); have w10 := lv_neT hq4287 (show (10 : Int32).toInt = 10 from by decide); have w11 := lv_neT hq4301 (show (11 : Int32).toInt = 11 from by decide); have w12 := lv_neT hq4315 (show (12 : Int32).toInt = 12 from by decide); have w13 := lv_neT hq4335 (show (13 : Int32).toInt = 13 from by decide); have w14 := lv_neT hq4340 (show (14 : Int32).toInt = 14 from by decide); have w15 := lv_neT hq4354 (show (15 : Int32).toInt = 15 from by decide); have w16 := lv_neT hq4368 (show (16 : Int32).toInt = 16 from by decide); have w17 := lv_neT hq4378 (show (17 : Int32).toInt = 17 from by decide); have w18 := lv_neT hq4388 (show (18 : Int32).toInt = 18 from by decide); have w19 := lv_neT hq4398 (show (19 : Int32).toInt = 19 from by decide); have w20 := lv_neT hq4410 (show (20 : Int32).toInt = 20 from by decide); have w21 := lv_neT hq4420 (show (21 : Int32).toInt = 21 from by decide); have w22 := lv_neT hq4430 (show (22 : Int32).toInt = 22 from by decide); have w23 := lv_neT hq4442 (show (23 : Int32).toInt = 23 from by decide); have w24 := lv_neT hq4454 (show (24 : Int32).toInt = 24 from by decide); have w25 := lv_neT hq4466 (show (25 : Int32).toInt = 25 from by decide); have w26 := lv_neT hq4480 (show (26 : Int32).toInt = 26 from by decide); have w27 := lv_neT hq4492 (show (27 : Int32).toInt = 27 from by decide); have w28 := lv_neT hq4504 (show (28 : Int32).toInt = 28 from by decide); have w29 := lv_neT hq4518 (show (29 : Int32).toInt = 29 from by decide); have w30 := lv_neT hq4534 (show (30 : Int32).toInt = 30 from by decide); have w31 := lv_neT hq4544 (show (31 : Int32).toInt = 31 from by decide); have w32 := lv_neT hq4556 (show (32 : Int32).toInt = 32 from by decide); have w33 := lv_neT hq4574 (show (33 : Int32).toInt = 33 from by decide); have w34 := lv_neT hq4586 (show (34 : Int32).toInt = 34 from by decide); have w35 := lv_neT hq4598 (show (35 : Int32).toInt = 35 from by decide); have w36 := lv_neT hq4608 (show (36 : Int32).toInt = 36 from by decide); have w37 := lv_neT hq4618 (show (37 : Int32).toInt = 37 from by decide); have w38 := lv_neT hq4630 (show (38 : Int32).toInt = 38 from by decide); have w39 := lv_neT hq4646 (show (39 : Int32).toInt = 39 from by decide); have w40 := lv_neT hq4658 (show (40 : Int32).toInt = 40 from by decide); have w41 := lv_neT hq4672 (show (41 : Int32).toInt = 41 from by decide); have w42 := lv_neT hq4680 (show (42 : Int32).toInt = 42 from by decide); have w43 := lv_neT hq4688 (show (43 : Int32).toInt = 43 from by decide); have w44 := lv_neT hq4698 (show (44 : Int32).toInt = 44 from by decide); have w45 := lv_neT hq4706 (show (45 : Int32).toInt = 45 from by decide); have w46 := lv_neT hq4716 (show (46 : Int32).toInt = 46 from by decide); have w47 := lv_neT hq4725 (show (47 : Int32).toInt = 47 from by decide); omega) (by decide) <| ml_V.sub [0, 1, 2, 3] rfl (vL_law_1572 hL hr hk18 _ _ _ _ h))))))))))))))))))))))))))))))))))))))))))))))))))
def fL_law (sl : Nat) (sx : Nat → Int32) (m : ml_M) : Option (Int32 × ml_M) :=
    ml_let (ml_n m + 1) fun a4726 =>
    ml_let (ml_al m 10 0 19) fun m4727 =>
    ml_b1 (fX10_init a4726 m4727) fun m4731 =>
    ml_let (ml_n m4731 + 1) fun a4732 =>
    ml_let (ml_al m4731 11 0 49) fun m4733 =>
    ml_b1 (fX11_init a4732 m4733) fun m4737 =>
    fL_law_18 sl sx ml_fu a4726 a4732 (0 : Int32) m4737
theorem wL_law_0 {E : ml_E} (hL : ml_eL E = 4) {rv : Int32} {rm : ml_M} (hr : ∀ (pc pc' : Nat) (lv : List (Nat × ml_X)), ml_d cL_law pc .ireturn 1 pc' → (rv = 0 ∨ rv = 1) → ml_V E RL cL_law 20 false rm pc lv [ml_i rv]) : ∀  (m : ml_M), fL_law (ml_sl (ml_eG E)) (ml_sx (ml_eG E))  m = some (rv, rm) → ml_V E RL cL_law 20 false m 0 [(0, ml_q (ml_sb (ml_eG E)))] [] := by
  intro  m h
  unfold fL_law at h
  exact ml_newOs dL_law_0 wb_601 h fun a4726 m4727 hn4728 hc4729 h => ml_dup dL_law_3 rfl <| ml_b1_of h fun m4731 hv4730 h => ml_callI dL_law_4 wm_1238 wb_602 hn4728 (sX10_init hv4730) rfl (Nat.le_of_ble_eq_true rfl) (Nat.le_of_ble_eq_true rfl) rfl <| ml_astore_n (lv' := [(1, ml_r a4726), (0, ml_q (ml_sb (ml_eG E)))]) dL_law_7 (ml_hn hL rfl) rfl <| ml_newOs dL_law_8 wb_603 h fun a4732 m4733 hn4734 hc4735 h => ml_dup dL_law_11 rfl <| ml_b1_of h fun m4737 hv4736 h => ml_callI dL_law_12 wm_1243 wb_604 hn4734 (sX11_init hv4736) rfl (Nat.le_of_ble_eq_true rfl) (Nat.le_of_ble_eq_true rfl) rfl <| ml_astore_n (lv' := [(2, ml_r a4732), (1, ml_r a4726), (0, ml_q (ml_sb (ml_eG E)))]) dL_law_15 (ml_hn hL rfl) rfl <| ml_iconst dL_law_16 kc_i0 <| ml_istore_n (lv' := [(3, ml_i (0 : Int32)), (2, ml_r a4732), (1, ml_r a4726), (0, ml_q (ml_sb (ml_eG E)))]) dL_law_17 (ml_hn hL rfl) rfl <| ml_V.sub [3, 2, 1, 0] rfl (vL_law_18 hL hr  ml_fu _ _ _ _ h)
