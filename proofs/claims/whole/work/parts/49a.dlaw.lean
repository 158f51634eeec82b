theorem dl_0 : decode code 0 = .ok (.new 7, 3) := by decide +kernel
theorem dl_3 : decode code 3 = .ok (.dup, 1) := by decide +kernel
theorem dl_4 : decode code 4 = .ok (.invokespecial 9, 3) := by decide +kernel
theorem dl_7 : decode code 7 = .ok (.astore_n 1, 1) := by decide +kernel
theorem dl_8 : decode code 8 = .ok (.new 10, 3) := by decide +kernel
theorem dl_11 : decode code 11 = .ok (.dup, 1) := by decide +kernel
theorem dl_12 : decode code 12 = .ok (.invokespecial 12, 3) := by decide +kernel
theorem dl_15 : decode code 15 = .ok (.astore_n 2, 1) := by decide +kernel
theorem dl_16 : decode code 16 = .ok (.iconst 0, 1) := by decide +kernel
theorem dl_17 : decode code 17 = .ok (.istore_n 3, 1) := by decide +kernel
theorem dl_18 : decode code 18 = .ok (.iload_n 3, 1) := by decide +kernel
theorem dl_19 : decode code 19 = .ok (.aload_n 0, 1) := by decide +kernel
theorem dl_20 : decode code 20 = .ok (.arraylength, 1) := by decide +kernel
theorem dl_21 : decode code 21 = .ok (.bipush 6, 2) := by decide +kernel
theorem dl_23 : decode code 23 = .ok (.isub, 1) := by decide +kernel
theorem dl_24 : decode code 24 = .ok (.if_icmp .gt 1316, 3) := by decide +kernel
theorem dl_27 : decode code 27 = .ok (.aload_n 0, 1) := by decide +kernel
theorem dl_28 : decode code 28 = .ok (.iload_n 3, 1) := by decide +kernel
theorem dl_29 : decode code 29 = .ok (.iaload, 1) := by decide +kernel
theorem dl_30 : decode code 30 = .ok (.bipush 63, 2) := by decide +kernel
theorem dl_32 : decode code 32 = .ok (.iand, 1) := by decide +kernel
theorem dl_33 : decode code 33 = .ok (.tableswitch 1301 0 37 #[167, 210, 253, 276, 319, 362, 395, 408, 421, 434, 457, 470, 523, 556, 579, 592, 615, 648, 661, 704, 727, 740, 783, 826, 869, 892, 905, 918, 941, 974, 1037, 1060, 1103, 1146, 1189, 1222, 1255, 1278], 167) := by decide +kernel
theorem dl_200 : decode code 200 = .ok (.aload_n 1, 1) := by decide +kernel
theorem dl_201 : decode code 201 = .ok (.aload_n 0, 1) := by decide +kernel
theorem dl_202 : decode code 202 = .ok (.iload_n 3, 1) := by decide +kernel
theorem dl_203 : decode code 203 = .ok (.iconst 1, 1) := by decide +kernel
theorem dl_204 : decode code 204 = .ok (.iadd, 1) := by decide +kernel
theorem dl_205 : decode code 205 = .ok (.iaload, 1) := by decide +kernel
theorem dl_206 : decode code 206 = .ok (.aload_n 0, 1) := by decide +kernel
theorem dl_207 : decode code 207 = .ok (.iload_n 3, 1) := by decide +kernel
theorem dl_208 : decode code 208 = .ok (.iconst 2, 1) := by decide +kernel
theorem dl_209 : decode code 209 = .ok (.iadd, 1) := by decide +kernel
theorem dl_210 : decode code 210 = .ok (.iaload, 1) := by decide +kernel
theorem dl_211 : decode code 211 = .ok (.aload_n 0, 1) := by decide +kernel
theorem dl_212 : decode code 212 = .ok (.iload_n 3, 1) := by decide +kernel
theorem dl_213 : decode code 213 = .ok (.iconst 3, 1) := by decide +kernel
theorem dl_214 : decode code 214 = .ok (.iadd, 1) := by decide +kernel
theorem dl_215 : decode code 215 = .ok (.iaload, 1) := by decide +kernel
theorem dl_216 : decode code 216 = .ok (.invokevirtual 13, 3) := by decide +kernel
theorem dl_219 : decode code 219 = .ok (.aload_n 2, 1) := by decide +kernel
theorem dl_220 : decode code 220 = .ok (.aload_n 0, 1) := by decide +kernel
theorem dl_221 : decode code 221 = .ok (.iload_n 3, 1) := by decide +kernel
theorem dl_222 : decode code 222 = .ok (.iconst 1, 1) := by decide +kernel
theorem dl_223 : decode code 223 = .ok (.iadd, 1) := by decide +kernel
theorem dl_224 : decode code 224 = .ok (.iaload, 1) := by decide +kernel
theorem dl_225 : decode code 225 = .ok (.aload_n 0, 1) := by decide +kernel
theorem dl_226 : decode code 226 = .ok (.iload_n 3, 1) := by decide +kernel
theorem dl_227 : decode code 227 = .ok (.iconst 2, 1) := by decide +kernel
theorem dl_228 : decode code 228 = .ok (.iadd, 1) := by decide +kernel
theorem dl_229 : decode code 229 = .ok (.iaload, 1) := by decide +kernel
theorem dl_230 : decode code 230 = .ok (.aload_n 0, 1) := by decide +kernel
theorem dl_231 : decode code 231 = .ok (.iload_n 3, 1) := by decide +kernel
theorem dl_232 : decode code 232 = .ok (.iconst 3, 1) := by decide +kernel
theorem dl_233 : decode code 233 = .ok (.iadd, 1) := by decide +kernel
theorem dl_234 : decode code 234 = .ok (.iaload, 1) := by decide +kernel
theorem dl_235 : decode code 235 = .ok (.invokevirtual 17, 3) := by decide +kernel
theorem dl_238 : decode code 238 = .ok (.if_icmp .eq 1096, 3) := by decide +kernel
theorem dl_241 : decode code 241 = .ok (.iconst 0, 1) := by decide +kernel
theorem dl_242 : decode code 242 = .ok (.ireturn, 1) := by decide +kernel
theorem dl_243 : decode code 243 = .ok (.aload_n 1, 1) := by decide +kernel
theorem dl_244 : decode code 244 = .ok (.aload_n 0, 1) := by decide +kernel
theorem dl_245 : decode code 245 = .ok (.iload_n 3, 1) := by decide +kernel
theorem dl_246 : decode code 246 = .ok (.iconst 1, 1) := by decide +kernel
theorem dl_247 : decode code 247 = .ok (.iadd, 1) := by decide +kernel
theorem dl_248 : decode code 248 = .ok (.iaload, 1) := by decide +kernel
theorem dl_249 : decode code 249 = .ok (.aload_n 0, 1) := by decide +kernel
theorem dl_250 : decode code 250 = .ok (.iload_n 3, 1) := by decide +kernel
theorem dl_251 : decode code 251 = .ok (.iconst 2, 1) := by decide +kernel
theorem dl_252 : decode code 252 = .ok (.iadd, 1) := by decide +kernel
theorem dl_253 : decode code 253 = .ok (.iaload, 1) := by decide +kernel
theorem dl_254 : decode code 254 = .ok (.aload_n 0, 1) := by decide +kernel
theorem dl_255 : decode code 255 = .ok (.iload_n 3, 1) := by decide +kernel
theorem dl_256 : decode code 256 = .ok (.iconst 3, 1) := by decide +kernel
theorem dl_257 : decode code 257 = .ok (.iadd, 1) := by decide +kernel
theorem dl_258 : decode code 258 = .ok (.iaload, 1) := by decide +kernel
theorem dl_259 : decode code 259 = .ok (.invokevirtual 18, 3) := by decide +kernel
theorem dl_262 : decode code 262 = .ok (.aload_n 2, 1) := by decide +kernel
theorem dl_263 : decode code 263 = .ok (.aload_n 0, 1) := by decide +kernel
theorem dl_264 : decode code 264 = .ok (.iload_n 3, 1) := by decide +kernel
theorem dl_265 : decode code 265 = .ok (.iconst 1, 1) := by decide +kernel
theorem dl_266 : decode code 266 = .ok (.iadd, 1) := by decide +kernel
theorem dl_267 : decode code 267 = .ok (.iaload, 1) := by decide +kernel
theorem dl_268 : decode code 268 = .ok (.aload_n 0, 1) := by decide +kernel
theorem dl_269 : decode code 269 = .ok (.iload_n 3, 1) := by decide +kernel
theorem dl_270 : decode code 270 = .ok (.iconst 2, 1) := by decide +kernel
theorem dl_271 : decode code 271 = .ok (.iadd, 1) := by decide +kernel
theorem dl_272 : decode code 272 = .ok (.iaload, 1) := by decide +kernel
theorem dl_273 : decode code 273 = .ok (.aload_n 0, 1) := by decide +kernel
theorem dl_274 : decode code 274 = .ok (.iload_n 3, 1) := by decide +kernel
theorem dl_275 : decode code 275 = .ok (.iconst 3, 1) := by decide +kernel
theorem dl_276 : decode code 276 = .ok (.iadd, 1) := by decide +kernel
theorem dl_277 : decode code 277 = .ok (.iaload, 1) := by decide +kernel
theorem dl_278 : decode code 278 = .ok (.invokevirtual 21, 3) := by decide +kernel
theorem dl_281 : decode code 281 = .ok (.if_icmp .eq 1053, 3) := by decide +kernel
theorem dl_284 : decode code 284 = .ok (.iconst 0, 1) := by decide +kernel
theorem dl_285 : decode code 285 = .ok (.ireturn, 1) := by decide +kernel
theorem dl_286 : decode code 286 = .ok (.aload_n 1, 1) := by decide +kernel
theorem dl_287 : decode code 287 = .ok (.aload_n 0, 1) := by decide +kernel
theorem dl_288 : decode code 288 = .ok (.iload_n 3, 1) := by decide +kernel
theorem dl_289 : decode code 289 = .ok (.iconst 1, 1) := by decide +kernel
theorem dl_290 : decode code 290 = .ok (.iadd, 1) := by decide +kernel
theorem dl_291 : decode code 291 = .ok (.iaload, 1) := by decide +kernel
theorem dl_292 : decode code 292 = .ok (.invokevirtual 22, 3) := by decide +kernel
theorem dl_295 : decode code 295 = .ok (.aload_n 2, 1) := by decide +kernel
theorem dl_296 : decode code 296 = .ok (.aload_n 0, 1) := by decide +kernel
theorem dl_297 : decode code 297 = .ok (.iload_n 3, 1) := by decide +kernel
theorem dl_298 : decode code 298 = .ok (.iconst 1, 1) := by decide +kernel
theorem dl_299 : decode code 299 = .ok (.iadd, 1) := by decide +kernel
theorem dl_300 : decode code 300 = .ok (.iaload, 1) := by decide +kernel
theorem dl_301 : decode code 301 = .ok (.invokevirtual 26, 3) := by decide +kernel
theorem dl_304 : decode code 304 = .ok (.if_icmp .eq 1030, 3) := by decide +kernel
theorem dl_307 : decode code 307 = .ok (.iconst 0, 1) := by decide +kernel
theorem dl_308 : decode code 308 = .ok (.ireturn, 1) := by decide +kernel
theorem dl_309 : decode code 309 = .ok (.aload_n 1, 1) := by decide +kernel
theorem dl_310 : decode code 310 = .ok (.aload_n 0, 1) := by decide +kernel
theorem dl_311 : decode code 311 = .ok (.iload_n 3, 1) := by decide +kernel
theorem dl_312 : decode code 312 = .ok (.iconst 1, 1) := by decide +kernel
theorem dl_313 : decode code 313 = .ok (.iadd, 1) := by decide +kernel
theorem dl_314 : decode code 314 = .ok (.iaload, 1) := by decide +kernel
theorem dl_315 : decode code 315 = .ok (.aload_n 0, 1) := by decide +kernel
theorem dl_316 : decode code 316 = .ok (.iload_n 3, 1) := by decide +kernel
theorem dl_317 : decode code 317 = .ok (.iconst 2, 1) := by decide +kernel
theorem dl_318 : decode code 318 = .ok (.iadd, 1) := by decide +kernel
theorem dl_319 : decode code 319 = .ok (.iaload, 1) := by decide +kernel
theorem dl_320 : decode code 320 = .ok (.aload_n 0, 1) := by decide +kernel
theorem dl_321 : decode code 321 = .ok (.iload_n 3, 1) := by decide +kernel
theorem dl_322 : decode code 322 = .ok (.iconst 3, 1) := by decide +kernel
theorem dl_323 : decode code 323 = .ok (.iadd, 1) := by decide +kernel
theorem dl_324 : decode code 324 = .ok (.iaload, 1) := by decide +kernel
theorem dl_325 : decode code 325 = .ok (.invokevirtual 27, 3) := by decide +kernel
theorem dl_328 : decode code 328 = .ok (.aload_n 2, 1) := by decide +kernel
theorem dl_329 : decode code 329 = .ok (.aload_n 0, 1) := by decide +kernel
theorem dl_330 : decode code 330 = .ok (.iload_n 3, 1) := by decide +kernel
theorem dl_331 : decode code 331 = .ok (.iconst 1, 1) := by decide +kernel
theorem dl_332 : decode code 332 = .ok (.iadd, 1) := by decide +kernel
theorem dl_333 : decode code 333 = .ok (.iaload, 1) := by decide +kernel
theorem dl_334 : decode code 334 = .ok (.aload_n 0, 1) := by decide +kernel
theorem dl_335 : decode code 335 = .ok (.iload_n 3, 1) := by decide +kernel
theorem dl_336 : decode code 336 = .ok (.iconst 2, 1) := by decide +kernel
theorem dl_337 : decode code 337 = .ok (.iadd, 1) := by decide +kernel
theorem dl_338 : decode code 338 = .ok (.iaload, 1) := by decide +kernel
theorem dl_339 : decode code 339 = .ok (.aload_n 0, 1) := by decide +kernel
theorem dl_340 : decode code 340 = .ok (.iload_n 3, 1) := by decide +kernel
theorem dl_341 : decode code 341 = .ok (.iconst 3, 1) := by decide +kernel
theorem dl_342 : decode code 342 = .ok (.iadd, 1) := by decide +kernel
theorem dl_343 : decode code 343 = .ok (.iaload, 1) := by decide +kernel
theorem dl_344 : decode code 344 = .ok (.invokevirtual 30, 3) := by decide +kernel
theorem dl_347 : decode code 347 = .ok (.if_icmp .eq 987, 3) := by decide +kernel
theorem dl_350 : decode code 350 = .ok (.iconst 0, 1) := by decide +kernel
theorem dl_351 : decode code 351 = .ok (.ireturn, 1) := by decide +kernel
theorem dl_352 : decode code 352 = .ok (.aload_n 1, 1) := by decide +kernel
theorem dl_353 : decode code 353 = .ok (.aload_n 0, 1) := by decide +kernel
theorem dl_354 : decode code 354 = .ok (.iload_n 3, 1) := by decide +kernel
theorem dl_355 : decode code 355 = .ok (.iconst 1, 1) := by decide +kernel
theorem dl_356 : decode code 356 = .ok (.iadd, 1) := by decide +kernel
theorem dl_357 : decode code 357 = .ok (.iaload, 1) := by decide +kernel
theorem dl_358 : decode code 358 = .ok (.aload_n 0, 1) := by decide +kernel
theorem dl_359 : decode code 359 = .ok (.iload_n 3, 1) := by decide +kernel
theorem dl_360 : decode code 360 = .ok (.iconst 2, 1) := by decide +kernel
theorem dl_361 : decode code 361 = .ok (.iadd, 1) := by decide +kernel
theorem dl_362 : decode code 362 = .ok (.iaload, 1) := by decide +kernel
theorem dl_363 : decode code 363 = .ok (.aload_n 0, 1) := by decide +kernel
theorem dl_364 : decode code 364 = .ok (.iload_n 3, 1) := by decide +kernel
theorem dl_365 : decode code 365 = .ok (.iconst 3, 1) := by decide +kernel
theorem dl_366 : decode code 366 = .ok (.iadd, 1) := by decide +kernel
theorem dl_367 : decode code 367 = .ok (.iaload, 1) := by decide +kernel
theorem dl_368 : decode code 368 = .ok (.invokevirtual 31, 3) := by decide +kernel
theorem dl_371 : decode code 371 = .ok (.aload_n 2, 1) := by decide +kernel
theorem dl_372 : decode code 372 = .ok (.aload_n 0, 1) := by decide +kernel
theorem dl_373 : decode code 373 = .ok (.iload_n 3, 1) := by decide +kernel
theorem dl_374 : decode code 374 = .ok (.iconst 1, 1) := by decide +kernel
theorem dl_375 : decode code 375 = .ok (.iadd, 1) := by decide +kernel
theorem dl_376 : decode code 376 = .ok (.iaload, 1) := by decide +kernel
theorem dl_377 : decode code 377 = .ok (.aload_n 0, 1) := by decide +kernel
theorem dl_378 : decode code 378 = .ok (.iload_n 3, 1) := by decide +kernel
theorem dl_379 : decode code 379 = .ok (.iconst 2, 1) := by decide +kernel
theorem dl_380 : decode code 380 = .ok (.iadd, 1) := by decide +kernel
theorem dl_381 : decode code 381 = .ok (.iaload, 1) := by decide +kernel
theorem dl_382 : decode code 382 = .ok (.aload_n 0, 1) := by decide +kernel
theorem dl_383 : decode code 383 = .ok (.iload_n 3, 1) := by decide +kernel
theorem dl_384 : decode code 384 = .ok (.iconst 3, 1) := by decide +kernel
theorem dl_385 : decode code 385 = .ok (.iadd, 1) := by decide +kernel
theorem dl_386 : decode code 386 = .ok (.iaload, 1) := by decide +kernel
theorem dl_387 : decode code 387 = .ok (.invokevirtual 34, 3) := by decide +kernel
theorem dl_390 : decode code 390 = .ok (.if_icmp .eq 944, 3) := by decide +kernel
theorem dl_393 : decode code 393 = .ok (.iconst 0, 1) := by decide +kernel
theorem dl_394 : decode code 394 = .ok (.ireturn, 1) := by decide +kernel
theorem dl_395 : decode code 395 = .ok (.aload_n 1, 1) := by decide +kernel
theorem dl_396 : decode code 396 = .ok (.aload_n 0, 1) := by decide +kernel
theorem dl_397 : decode code 397 = .ok (.iload_n 3, 1) := by decide +kernel
theorem dl_398 : decode code 398 = .ok (.iconst 1, 1) := by decide +kernel
theorem dl_399 : decode code 399 = .ok (.iadd, 1) := by decide +kernel
theorem dl_400 : decode code 400 = .ok (.iaload, 1) := by decide +kernel
theorem dl_401 : decode code 401 = .ok (.aload_n 0, 1) := by decide +kernel
theorem dl_402 : decode code 402 = .ok (.iload_n 3, 1) := by decide +kernel
theorem dl_403 : decode code 403 = .ok (.iconst 2, 1) := by decide +kernel
theorem dl_404 : decode code 404 = .ok (.iadd, 1) := by decide +kernel
theorem dl_405 : decode code 405 = .ok (.iaload, 1) := by decide +kernel
theorem dl_406 : decode code 406 = .ok (.invokevirtual 35, 3) := by decide +kernel
theorem dl_409 : decode code 409 = .ok (.aload_n 2, 1) := by decide +kernel
theorem dl_410 : decode code 410 = .ok (.aload_n 0, 1) := by decide +kernel
theorem dl_411 : decode code 411 = .ok (.iload_n 3, 1) := by decide +kernel
theorem dl_412 : decode code 412 = .ok (.iconst 1, 1) := by decide +kernel
theorem dl_413 : decode code 413 = .ok (.iadd, 1) := by decide +kernel
theorem dl_414 : decode code 414 = .ok (.iaload, 1) := by decide +kernel
theorem dl_415 : decode code 415 = .ok (.aload_n 0, 1) := by decide +kernel
theorem dl_416 : decode code 416 = .ok (.iload_n 3, 1) := by decide +kernel
theorem dl_417 : decode code 417 = .ok (.iconst 2, 1) := by decide +kernel
theorem dl_418 : decode code 418 = .ok (.iadd, 1) := by decide +kernel
theorem dl_419 : decode code 419 = .ok (.iaload, 1) := by decide +kernel
theorem dl_420 : decode code 420 = .ok (.invokevirtual 39, 3) := by decide +kernel
theorem dl_423 : decode code 423 = .ok (.if_icmp .eq 911, 3) := by decide +kernel
theorem dl_426 : decode code 426 = .ok (.iconst 0, 1) := by decide +kernel
theorem dl_427 : decode code 427 = .ok (.ireturn, 1) := by decide +kernel
theorem dl_428 : decode code 428 = .ok (.aload_n 1, 1) := by decide +kernel
theorem dl_429 : decode code 429 = .ok (.invokevirtual 40, 3) := by decide +kernel
theorem dl_432 : decode code 432 = .ok (.aload_n 2, 1) := by decide +kernel
theorem dl_433 : decode code 433 = .ok (.invokevirtual 44, 3) := by decide +kernel
theorem dl_436 : decode code 436 = .ok (.if_icmp .eq 898, 3) := by decide +kernel
theorem dl_439 : decode code 439 = .ok (.iconst 0, 1) := by decide +kernel
theorem dl_440 : decode code 440 = .ok (.ireturn, 1) := by decide +kernel
theorem dl_441 : decode code 441 = .ok (.aload_n 1, 1) := by decide +kernel
theorem dl_442 : decode code 442 = .ok (.invokevirtual 45, 3) := by decide +kernel
theorem dl_445 : decode code 445 = .ok (.aload_n 2, 1) := by decide +kernel
theorem dl_446 : decode code 446 = .ok (.invokevirtual 48, 3) := by decide +kernel
theorem dl_449 : decode code 449 = .ok (.if_icmp .eq 885, 3) := by decide +kernel
theorem dl_452 : decode code 452 = .ok (.iconst 0, 1) := by decide +kernel
theorem dl_453 : decode code 453 = .ok (.ireturn, 1) := by decide +kernel
theorem dl_454 : decode code 454 = .ok (.aload_n 1, 1) := by decide +kernel
theorem dl_455 : decode code 455 = .ok (.invokevirtual 49, 3) := by decide +kernel
theorem dl_458 : decode code 458 = .ok (.aload_n 2, 1) := by decide +kernel
theorem dl_459 : decode code 459 = .ok (.invokevirtual 52, 3) := by decide +kernel
theorem dl_462 : decode code 462 = .ok (.if_icmp .eq 872, 3) := by decide +kernel
