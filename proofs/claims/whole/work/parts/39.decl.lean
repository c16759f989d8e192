theorem dL_law_0 : decode code 0 = .ok (.new 7, 3) := by decide +kernel
theorem dL_law_3 : decode code 3 = .ok (.dup, 1) := by decide +kernel
theorem dL_law_4 : decode code 4 = .ok (.invokespecial 9, 3) := by decide +kernel
theorem dL_law_7 : decode code 7 = .ok (.astore_n 1, 1) := by decide +kernel
theorem dL_law_8 : decode code 8 = .ok (.new 10, 3) := by decide +kernel
theorem dL_law_11 : decode code 11 = .ok (.dup, 1) := by decide +kernel
theorem dL_law_12 : decode code 12 = .ok (.invokespecial 12, 3) := by decide +kernel
theorem dL_law_15 : decode code 15 = .ok (.astore_n 2, 1) := by decide +kernel
theorem dL_law_16 : decode code 16 = .ok (.iconst 0, 1) := by decide +kernel
theorem dL_law_17 : decode code 17 = .ok (.istore_n 3, 1) := by decide +kernel
theorem dL_law_18 : decode code 18 = .ok (.iload_n 3, 1) := by decide +kernel
theorem dL_law_19 : decode code 19 = .ok (.aload_n 0, 1) := by decide +kernel
theorem dL_law_20 : decode code 20 = .ok (.arraylength, 1) := by decide +kernel
theorem dL_law_21 : decode code 21 = .ok (.iconst 5, 1) := by decide +kernel
theorem dL_law_22 : decode code 22 = .ok (.isub, 1) := by decide +kernel
theorem dL_law_23 : decode code 23 = .ok (.if_icmp .gt 966, 3) := by decide +kernel
theorem dL_law_26 : decode code 26 = .ok (.aload_n 0, 1) := by decide +kernel
theorem dL_law_27 : decode code 27 = .ok (.iload_n 3, 1) := by decide +kernel
theorem dL_law_28 : decode code 28 = .ok (.iaload, 1) := by decide +kernel
theorem dL_law_29 : decode code 29 = .ok (.bipush 31, 2) := by decide +kernel
theorem dL_law_31 : decode code 31 = .ok (.iand, 1) := by decide +kernel
theorem dL_law_32 : decode code 32 = .ok (.tableswitch 951 0 31 #[144, 177, 210, 233, 256, 279, 302, 355, 378, 411, 424, 447, 470, 483, 506, 539, 572, 605, 648, 681, 714, 747, 780, 813, 826, 839, 852, 875, 888, 901, 914, 937], 144) := by decide +kernel
theorem dL_law_176 : decode code 176 = .ok (.aload_n 1, 1) := by decide +kernel
theorem dL_law_177 : decode code 177 = .ok (.aload_n 0, 1) := by decide +kernel
theorem dL_law_178 : decode code 178 = .ok (.iload_n 3, 1) := by decide +kernel
theorem dL_law_179 : decode code 179 = .ok (.iconst 1, 1) := by decide +kernel
theorem dL_law_180 : decode code 180 = .ok (.iadd, 1) := by decide +kernel
theorem dL_law_181 : decode code 181 = .ok (.iaload, 1) := by decide +kernel
theorem dL_law_182 : decode code 182 = .ok (.aload_n 0, 1) := by decide +kernel
theorem dL_law_183 : decode code 183 = .ok (.iload_n 3, 1) := by decide +kernel
theorem dL_law_184 : decode code 184 = .ok (.iconst 2, 1) := by decide +kernel
theorem dL_law_185 : decode code 185 = .ok (.iadd, 1) := by decide +kernel
theorem dL_law_186 : decode code 186 = .ok (.iaload, 1) := by decide +kernel
theorem dL_law_187 : decode code 187 = .ok (.invokevirtual 13, 3) := by decide +kernel
theorem dL_law_190 : decode code 190 = .ok (.aload_n 2, 1) := by decide +kernel
theorem dL_law_191 : decode code 191 = .ok (.aload_n 0, 1) := by decide +kernel
theorem dL_law_192 : decode code 192 = .ok (.iload_n 3, 1) := by decide +kernel
theorem dL_law_193 : decode code 193 = .ok (.iconst 1, 1) := by decide +kernel
theorem dL_law_194 : decode code 194 = .ok (.iadd, 1) := by decide +kernel
theorem dL_law_195 : decode code 195 = .ok (.iaload, 1) := by decide +kernel
theorem dL_law_196 : decode code 196 = .ok (.aload_n 0, 1) := by decide +kernel
theorem dL_law_197 : decode code 197 = .ok (.iload_n 3, 1) := by decide +kernel
theorem dL_law_198 : decode code 198 = .ok (.iconst 2, 1) := by decide +kernel
theorem dL_law_199 : decode code 199 = .ok (.iadd, 1) := by decide +kernel
theorem dL_law_200 : decode code 200 = .ok (.iaload, 1) := by decide +kernel
theorem dL_law_201 : decode code 201 = .ok (.invokevirtual 17, 3) := by decide +kernel
theorem dL_law_204 : decode code 204 = .ok (.if_icmp .eq 779, 3) := by decide +kernel
theorem dL_law_207 : decode code 207 = .ok (.iconst 0, 1) := by decide +kernel
theorem dL_law_208 : decode code 208 = .ok (.ireturn, 1) := by decide +kernel
theorem dL_law_209 : decode code 209 = .ok (.aload_n 1, 1) := by decide +kernel
theorem dL_law_210 : decode code 210 = .ok (.aload_n 0, 1) := by decide +kernel
theorem dL_law_211 : decode code 211 = .ok (.iload_n 3, 1) := by decide +kernel
theorem dL_law_212 : decode code 212 = .ok (.iconst 1, 1) := by decide +kernel
theorem dL_law_213 : decode code 213 = .ok (.iadd, 1) := by decide +kernel
theorem dL_law_214 : decode code 214 = .ok (.iaload, 1) := by decide +kernel
theorem dL_law_215 : decode code 215 = .ok (.aload_n 0, 1) := by decide +kernel
theorem dL_law_216 : decode code 216 = .ok (.iload_n 3, 1) := by decide +kernel
theorem dL_law_217 : decode code 217 = .ok (.iconst 2, 1) := by decide +kernel
theorem dL_law_218 : decode code 218 = .ok (.iadd, 1) := by decide +kernel
theorem dL_law_219 : decode code 219 = .ok (.iaload, 1) := by decide +kernel
theorem dL_law_220 : decode code 220 = .ok (.invokevirtual 18, 3) := by decide +kernel
theorem dL_law_223 : decode code 223 = .ok (.aload_n 2, 1) := by decide +kernel
theorem dL_law_224 : decode code 224 = .ok (.aload_n 0, 1) := by decide +kernel
theorem dL_law_225 : decode code 225 = .ok (.iload_n 3, 1) := by decide +kernel
theorem dL_law_226 : decode code 226 = .ok (.iconst 1, 1) := by decide +kernel
theorem dL_law_227 : decode code 227 = .ok (.iadd, 1) := by decide +kernel
theorem dL_law_228 : decode code 228 = .ok (.iaload, 1) := by decide +kernel
theorem dL_law_229 : decode code 229 = .ok (.aload_n 0, 1) := by decide +kernel
theorem dL_law_230 : decode code 230 = .ok (.iload_n 3, 1) := by decide +kernel
theorem dL_law_231 : decode code 231 = .ok (.iconst 2, 1) := by decide +kernel
theorem dL_law_232 : decode code 232 = .ok (.iadd, 1) := by decide +kernel
theorem dL_law_233 : decode code 233 = .ok (.iaload, 1) := by decide +kernel
theorem dL_law_234 : decode code 234 = .ok (.invokevirtual 21, 3) := by decide +kernel
theorem dL_law_237 : decode code 237 = .ok (.if_icmp .eq 746, 3) := by decide +kernel
theorem dL_law_240 : decode code 240 = .ok (.iconst 0, 1) := by decide +kernel
theorem dL_law_241 : decode code 241 = .ok (.ireturn, 1) := by decide +kernel
theorem dL_law_242 : decode code 242 = .ok (.aload_n 1, 1) := by decide +kernel
theorem dL_law_243 : decode code 243 = .ok (.aload_n 0, 1) := by decide +kernel
theorem dL_law_244 : decode code 244 = .ok (.iload_n 3, 1) := by decide +kernel
theorem dL_law_245 : decode code 245 = .ok (.iconst 1, 1) := by decide +kernel
theorem dL_law_246 : decode code 246 = .ok (.iadd, 1) := by decide +kernel
theorem dL_law_247 : decode code 247 = .ok (.iaload, 1) := by decide +kernel
theorem dL_law_248 : decode code 248 = .ok (.invokevirtual 22, 3) := by decide +kernel
theorem dL_law_251 : decode code 251 = .ok (.aload_n 2, 1) := by decide +kernel
theorem dL_law_252 : decode code 252 = .ok (.aload_n 0, 1) := by decide +kernel
theorem dL_law_253 : decode code 253 = .ok (.iload_n 3, 1) := by decide +kernel
theorem dL_law_254 : decode code 254 = .ok (.iconst 1, 1) := by decide +kernel
theorem dL_law_255 : decode code 255 = .ok (.iadd, 1) := by decide +kernel
theorem dL_law_256 : decode code 256 = .ok (.iaload, 1) := by decide +kernel
theorem dL_law_257 : decode code 257 = .ok (.invokevirtual 26, 3) := by decide +kernel
theorem dL_law_260 : decode code 260 = .ok (.if_icmp .eq 723, 3) := by decide +kernel
theorem dL_law_263 : decode code 263 = .ok (.iconst 0, 1) := by decide +kernel
theorem dL_law_264 : decode code 264 = .ok (.ireturn, 1) := by decide +kernel
theorem dL_law_265 : decode code 265 = .ok (.aload_n 1, 1) := by decide +kernel
theorem dL_law_266 : decode code 266 = .ok (.aload_n 0, 1) := by decide +kernel
theorem dL_law_267 : decode code 267 = .ok (.iload_n 3, 1) := by decide +kernel
theorem dL_law_268 : decode code 268 = .ok (.iconst 1, 1) := by decide +kernel
theorem dL_law_269 : decode code 269 = .ok (.iadd, 1) := by decide +kernel
theorem dL_law_270 : decode code 270 = .ok (.iaload, 1) := by decide +kernel
theorem dL_law_271 : decode code 271 = .ok (.invokevirtual 27, 3) := by decide +kernel
theorem dL_law_274 : decode code 274 = .ok (.aload_n 2, 1) := by decide +kernel
theorem dL_law_275 : decode code 275 = .ok (.aload_n 0, 1) := by decide +kernel
theorem dL_law_276 : decode code 276 = .ok (.iload_n 3, 1) := by decide +kernel
theorem dL_law_277 : decode code 277 = .ok (.iconst 1, 1) := by decide +kernel
theorem dL_law_278 : decode code 278 = .ok (.iadd, 1) := by decide +kernel
theorem dL_law_279 : decode code 279 = .ok (.iaload, 1) := by decide +kernel
theorem dL_law_280 : decode code 280 = .ok (.invokevirtual 30, 3) := by decide +kernel
theorem dL_law_283 : decode code 283 = .ok (.if_icmp .eq 700, 3) := by decide +kernel
theorem dL_law_286 : decode code 286 = .ok (.iconst 0, 1) := by decide +kernel
theorem dL_law_287 : decode code 287 = .ok (.ireturn, 1) := by decide +kernel
theorem dL_law_288 : decode code 288 = .ok (.aload_n 1, 1) := by decide +kernel
theorem dL_law_289 : decode code 289 = .ok (.aload_n 0, 1) := by decide +kernel
theorem dL_law_290 : decode code 290 = .ok (.iload_n 3, 1) := by decide +kernel
theorem dL_law_291 : decode code 291 = .ok (.iconst 1, 1) := by decide +kernel
theorem dL_law_292 : decode code 292 = .ok (.iadd, 1) := by decide +kernel
theorem dL_law_293 : decode code 293 = .ok (.iaload, 1) := by decide +kernel
theorem dL_law_294 : decode code 294 = .ok (.invokevirtual 31, 3) := by decide +kernel
theorem dL_law_297 : decode code 297 = .ok (.aload_n 2, 1) := by decide +kernel
theorem dL_law_298 : decode code 298 = .ok (.aload_n 0, 1) := by decide +kernel
theorem dL_law_299 : decode code 299 = .ok (.iload_n 3, 1) := by decide +kernel
theorem dL_law_300 : decode code 300 = .ok (.iconst 1, 1) := by decide +kernel
theorem dL_law_301 : decode code 301 = .ok (.iadd, 1) := by decide +kernel
theorem dL_law_302 : decode code 302 = .ok (.iaload, 1) := by decide +kernel
theorem dL_law_303 : decode code 303 = .ok (.invokevirtual 34, 3) := by decide +kernel
theorem dL_law_306 : decode code 306 = .ok (.if_icmp .eq 677, 3) := by decide +kernel
theorem dL_law_309 : decode code 309 = .ok (.iconst 0, 1) := by decide +kernel
theorem dL_law_310 : decode code 310 = .ok (.ireturn, 1) := by decide +kernel
theorem dL_law_311 : decode code 311 = .ok (.aload_n 1, 1) := by decide +kernel
theorem dL_law_312 : decode code 312 = .ok (.aload_n 0, 1) := by decide +kernel
theorem dL_law_313 : decode code 313 = .ok (.iload_n 3, 1) := by decide +kernel
theorem dL_law_314 : decode code 314 = .ok (.iconst 1, 1) := by decide +kernel
theorem dL_law_315 : decode code 315 = .ok (.iadd, 1) := by decide +kernel
theorem dL_law_316 : decode code 316 = .ok (.iaload, 1) := by decide +kernel
theorem dL_law_317 : decode code 317 = .ok (.invokevirtual 35, 3) := by decide +kernel
theorem dL_law_320 : decode code 320 = .ok (.aload_n 2, 1) := by decide +kernel
theorem dL_law_321 : decode code 321 = .ok (.aload_n 0, 1) := by decide +kernel
theorem dL_law_322 : decode code 322 = .ok (.iload_n 3, 1) := by decide +kernel
theorem dL_law_323 : decode code 323 = .ok (.iconst 1, 1) := by decide +kernel
theorem dL_law_324 : decode code 324 = .ok (.iadd, 1) := by decide +kernel
theorem dL_law_325 : decode code 325 = .ok (.iaload, 1) := by decide +kernel
theorem dL_law_326 : decode code 326 = .ok (.invokevirtual 38, 3) := by decide +kernel
theorem dL_law_329 : decode code 329 = .ok (.if_icmp .eq 654, 3) := by decide +kernel
theorem dL_law_332 : decode code 332 = .ok (.iconst 0, 1) := by decide +kernel
theorem dL_law_333 : decode code 333 = .ok (.ireturn, 1) := by decide +kernel
theorem dL_law_334 : decode code 334 = .ok (.aload_n 1, 1) := by decide +kernel
theorem dL_law_335 : decode code 335 = .ok (.aload_n 0, 1) := by decide +kernel
theorem dL_law_336 : decode code 336 = .ok (.iload_n 3, 1) := by decide +kernel
theorem dL_law_337 : decode code 337 = .ok (.iconst 1, 1) := by decide +kernel
theorem dL_law_338 : decode code 338 = .ok (.iadd, 1) := by decide +kernel
theorem dL_law_339 : decode code 339 = .ok (.iaload, 1) := by decide +kernel
theorem dL_law_340 : decode code 340 = .ok (.aload_n 0, 1) := by decide +kernel
theorem dL_law_341 : decode code 341 = .ok (.iload_n 3, 1) := by decide +kernel
theorem dL_law_342 : decode code 342 = .ok (.iconst 2, 1) := by decide +kernel
theorem dL_law_343 : decode code 343 = .ok (.iadd, 1) := by decide +kernel
theorem dL_law_344 : decode code 344 = .ok (.iaload, 1) := by decide +kernel
theorem dL_law_345 : decode code 345 = .ok (.aload_n 0, 1) := by decide +kernel
theorem dL_law_346 : decode code 346 = .ok (.iload_n 3, 1) := by decide +kernel
theorem dL_law_347 : decode code 347 = .ok (.iconst 3, 1) := by decide +kernel
theorem dL_law_348 : decode code 348 = .ok (.iadd, 1) := by decide +kernel
theorem dL_law_349 : decode code 349 = .ok (.iaload, 1) := by decide +kernel
theorem dL_law_350 : decode code 350 = .ok (.aload_n 0, 1) := by decide +kernel
theorem dL_law_351 : decode code 351 = .ok (.iload_n 3, 1) := by decide +kernel
theorem dL_law_352 : decode code 352 = .ok (.iconst 4, 1) := by decide +kernel
theorem dL_law_353 : decode code 353 = .ok (.iadd, 1) := by decide +kernel
theorem dL_law_354 : decode code 354 = .ok (.iaload, 1) := by decide +kernel
theorem dL_law_355 : decode code 355 = .ok (.invokevirtual 39, 3) := by decide +kernel
theorem dL_law_358 : decode code 358 = .ok (.aload_n 2, 1) := by decide +kernel
theorem dL_law_359 : decode code 359 = .ok (.aload_n 0, 1) := by decide +kernel
theorem dL_law_360 : decode code 360 = .ok (.iload_n 3, 1) := by decide +kernel
theorem dL_law_361 : decode code 361 = .ok (.iconst 1, 1) := by decide +kernel
theorem dL_law_362 : decode code 362 = .ok (.iadd, 1) := by decide +kernel
theorem dL_law_363 : decode code 363 = .ok (.iaload, 1) := by decide +kernel
theorem dL_law_364 : decode code 364 = .ok (.aload_n 0, 1) := by decide +kernel
theorem dL_law_365 : decode code 365 = .ok (.iload_n 3, 1) := by decide +kernel
theorem dL_law_366 : decode code 366 = .ok (.iconst 2, 1) := by decide +kernel
theorem dL_law_367 : decode code 367 = .ok (.iadd, 1) := by decide +kernel
theorem dL_law_368 : decode code 368 = .ok (.iaload, 1) := by decide +kernel
theorem dL_law_369 : decode code 369 = .ok (.aload_n 0, 1) := by decide +kernel
theorem dL_law_370 : decode code 370 = .ok (.iload_n 3, 1) := by decide +kernel
theorem dL_law_371 : decode code 371 = .ok (.iconst 3, 1) := by decide +kernel
theorem dL_law_372 : decode code 372 = .ok (.iadd, 1) := by decide +kernel
theorem dL_law_373 : decode code 373 = .ok (.iaload, 1) := by decide +kernel
theorem dL_law_374 : decode code 374 = .ok (.aload_n 0, 1) := by decide +kernel
theorem dL_law_375 : decode code 375 = .ok (.iload_n 3, 1) := by decide +kernel
theorem dL_law_376 : decode code 376 = .ok (.iconst 4, 1) := by decide +kernel
theorem dL_law_377 : decode code 377 = .ok (.iadd, 1) := by decide +kernel
theorem dL_law_378 : decode code 378 = .ok (.iaload, 1) := by decide +kernel
theorem dL_law_379 : decode code 379 = .ok (.invokevirtual 43, 3) := by decide +kernel
theorem dL_law_382 : decode code 382 = .ok (.if_icmp .eq 601, 3) := by decide +kernel
theorem dL_law_385 : decode code 385 = .ok (.iconst 0, 1) := by decide +kernel
theorem dL_law_386 : decode code 386 = .ok (.ireturn, 1) := by decide +kernel
theorem dL_law_387 : decode code 387 = .ok (.aload_n 1, 1) := by decide +kernel
theorem dL_law_388 : decode code 388 = .ok (.aload_n 0, 1) := by decide +kernel
theorem dL_law_389 : decode code 389 = .ok (.iload_n 3, 1) := by decide +kernel
theorem dL_law_390 : decode code 390 = .ok (.iconst 1, 1) := by decide +kernel
theorem dL_law_391 : decode code 391 = .ok (.iadd, 1) := by decide +kernel
theorem dL_law_392 : decode code 392 = .ok (.iaload, 1) := by decide +kernel
theorem dL_law_393 : decode code 393 = .ok (.invokevirtual 44, 3) := by decide +kernel
theorem dL_law_396 : decode code 396 = .ok (.aload_n 2, 1) := by decide +kernel
theorem dL_law_397 : decode code 397 = .ok (.aload_n 0, 1) := by decide +kernel
theorem dL_law_398 : decode code 398 = .ok (.iload_n 3, 1) := by decide +kernel
theorem dL_law_399 : decode code 399 = .ok (.iconst 1, 1) := by decide +kernel
theorem dL_law_400 : decode code 400 = .ok (.iadd, 1) := by decide +kernel
theorem dL_law_401 : decode code 401 = .ok (.iaload, 1) := by decide +kernel
theorem dL_law_402 : decode code 402 = .ok (.invokevirtual 47, 3) := by decide +kernel
theorem dL_law_405 : decode code 405 = .ok (.if_icmp .eq 578, 3) := by decide +kernel
theorem dL_law_408 : decode code 408 = .ok (.iconst 0, 1) := by decide +kernel
theorem dL_law_409 : decode code 409 = .ok (.ireturn, 1) := by decide +kernel
theorem dL_law_410 : decode code 410 = .ok (.aload_n 1, 1) := by decide +kernel
theorem dL_law_411 : decode code 411 = .ok (.aload_n 0, 1) := by decide +kernel
theorem dL_law_412 : decode code 412 = .ok (.iload_n 3, 1) := by decide +kernel
theorem dL_law_413 : decode code 413 = .ok (.iconst 1, 1) := by decide +kernel
theorem dL_law_414 : decode code 414 = .ok (.iadd, 1) := by decide +kernel
theorem dL_law_415 : decode code 415 = .ok (.iaload, 1) := by decide +kernel
theorem dL_law_416 : decode code 416 = .ok (.aload_n 0, 1) := by decide +kernel
theorem dL_law_417 : decode code 417 = .ok (.iload_n 3, 1) := by decide +kernel
theorem dL_law_418 : decode code 418 = .ok (.iconst 2, 1) := by decide +kernel
theorem dL_law_419 : decode code 419 = .ok (.iadd, 1) := by decide +kernel
theorem dL_law_420 : decode code 420 = .ok (.iaload, 1) := by decide +kernel
theorem dL_law_421 : decode code 421 = .ok (.invokevirtual 48, 3) := by decide +kernel
theorem dL_law_424 : decode code 424 = .ok (.aload_n 2, 1) := by decide +kernel
theorem dL_law_425 : decode code 425 = .ok (.aload_n 0, 1) := by decide +kernel
theorem dL_law_426 : decode code 426 = .ok (.iload_n 3, 1) := by decide +kernel
theorem dL_law_427 : decode code 427 = .ok (.iconst 1, 1) := by decide +kernel
theorem dL_law_428 : decode code 428 = .ok (.iadd, 1) := by decide +kernel
theorem dL_law_429 : decode code 429 = .ok (.iaload, 1) := by decide +kernel
theorem dL_law_430 : decode code 430 = .ok (.aload_n 0, 1) := by decide +kernel
theorem dL_law_431 : decode code 431 = .ok (.iload_n 3, 1) := by decide +kernel
theorem dL_law_432 : decode code 432 = .ok (.iconst 2, 1) := by decide +kernel
theorem dL_law_433 : decode code 433 = .ok (.iadd, 1) := by decide +kernel
theorem dL_law_434 : decode code 434 = .ok (.iaload, 1) := by decide +kernel
theorem dL_law_435 : decode code 435 = .ok (.invokevirtual 51, 3) := by decide +kernel
theorem dL_law_438 : decode code 438 = .ok (.if_icmp .eq 545, 3) := by decide +kernel
theorem dL_law_441 : decode code 441 = .ok (.iconst 0, 1) := by decide +kernel
theorem dL_law_442 : decode code 442 = .ok (.ireturn, 1) := by decide +kernel
theorem dL_law_443 : decode code 443 = .ok (.aload_n 1, 1) := by decide +kernel
theorem dL_law_444 : decode code 444 = .ok (.invokevirtual 52, 3) := by decide +kernel
theorem dL_law_447 : decode code 447 = .ok (.aload_n 2, 1) := by decide +kernel
theorem dL_law_448 : decode code 448 = .ok (.invokevirtual 56, 3) := by decide +kernel
theorem dL_law_451 : decode code 451 = .ok (.if_icmp .eq 532, 3) := by decide +kernel
theorem dL_law_454 : decode code 454 = .ok (.iconst 0, 1) := by decide +kernel
theorem dL_law_455 : decode code 455 = .ok (.ireturn, 1) := by decide +kernel
theorem dL_law_456 : decode code 456 = .ok (.aload_n 1, 1) := by decide +kernel
theorem dL_law_457 : decode code 457 = .ok (.aload_n 0, 1) := by decide +kernel
theorem dL_law_458 : decode code 458 = .ok (.iload_n 3, 1) := by decide +kernel
theorem dL_law_459 : decode code 459 = .ok (.iconst 1, 1) := by decide +kernel
theorem dL_law_460 : decode code 460 = .ok (.iadd, 1) := by decide +kernel
theorem dL_law_461 : decode code 461 = .ok (.iaload, 1) := by decide +kernel
theorem dL_law_462 : decode code 462 = .ok (.invokevirtual 57, 3) := by decide +kernel
theorem dL_law_465 : decode code 465 = .ok (.aload_n 2, 1) := by decide +kernel
theorem dL_law_466 : decode code 466 = .ok (.aload_n 0, 1) := by decide +kernel
theorem dL_law_467 : decode code 467 = .ok (.iload_n 3, 1) := by decide +kernel
theorem dL_law_468 : decode code 468 = .ok (.iconst 1, 1) := by decide +kernel
theorem dL_law_469 : decode code 469 = .ok (.iadd, 1) := by decide +kernel
theorem dL_law_470 : decode code 470 = .ok (.iaload, 1) := by decide +kernel
theorem dL_law_471 : decode code 471 = .ok (.invokevirtual 60, 3) := by decide +kernel
theorem dL_law_474 : decode code 474 = .ok (.if_icmp .eq 509, 3) := by decide +kernel
theorem dL_law_477 : decode code 477 = .ok (.iconst 0, 1) := by decide +kernel
theorem dL_law_478 : decode code 478 = .ok (.ireturn, 1) := by decide +kernel
theorem dL_law_479 : decode code 479 = .ok (.aload_n 1, 1) := by decide +kernel
theorem dL_law_480 : decode code 480 = .ok (.aload_n 0, 1) := by decide +kernel
theorem dL_law_481 : decode code 481 = .ok (.iload_n 3, 1) := by decide +kernel
theorem dL_law_482 : decode code 482 = .ok (.iconst 1, 1) := by decide +kernel
theorem dL_law_483 : decode code 483 = .ok (.iadd, 1) := by decide +kernel
theorem dL_law_484 : decode code 484 = .ok (.iaload, 1) := by decide +kernel
theorem dL_law_485 : decode code 485 = .ok (.invokevirtual 61, 3) := by decide +kernel
theorem dL_law_488 : decode code 488 = .ok (.aload_n 2, 1) := by decide +kernel
theorem dL_law_489 : decode code 489 = .ok (.aload_n 0, 1) := by decide +kernel
theorem dL_law_490 : decode code 490 = .ok (.iload_n 3, 1) := by decide +kernel
theorem dL_law_491 : decode code 491 = .ok (.iconst 1, 1) := by decide +kernel
theorem dL_law_492 : decode code 492 = .ok (.iadd, 1) := by decide +kernel
theorem dL_law_493 : decode code 493 = .ok (.iaload, 1) := by decide +kernel
theorem dL_law_494 : decode code 494 = .ok (.invokevirtual 64, 3) := by decide +kernel
theorem dL_law_497 : decode code 497 = .ok (.if_icmp .eq 486, 3) := by decide +kernel
theorem dL_law_500 : decode code 500 = .ok (.iconst 0, 1) := by decide +kernel
theorem dL_law_501 : decode code 501 = .ok (.ireturn, 1) := by decide +kernel
theorem dL_law_502 : decode code 502 = .ok (.aload_n 1, 1) := by decide +kernel
theorem dL_law_503 : decode code 503 = .ok (.invokevirtual 65, 3) := by decide +kernel
theorem dL_law_506 : decode code 506 = .ok (.aload_n 2, 1) := by decide +kernel
theorem dL_law_507 : decode code 507 = .ok (.invokevirtual 68, 3) := by decide +kernel
theorem dL_law_510 : decode code 510 = .ok (.if_icmp .eq 473, 3) := by decide +kernel
theorem dL_law_513 : decode code 513 = .ok (.iconst 0, 1) := by decide +kernel
theorem dL_law_514 : decode code 514 = .ok (.ireturn, 1) := by decide +kernel
theorem dL_law_515 : decode code 515 = .ok (.aload_n 1, 1) := by decide +kernel
theorem dL_law_516 : decode code 516 = .ok (.aload_n 0, 1) := by decide +kernel
theorem dL_law_517 : decode code 517 = .ok (.iload_n 3, 1) := by decide +kernel
theorem dL_law_518 : decode code 518 = .ok (.iconst 1, 1) := by decide +kernel
theorem dL_law_519 : decode code 519 = .ok (.iadd, 1) := by decide +kernel
theorem dL_law_520 : decode code 520 = .ok (.iaload, 1) := by decide +kernel
theorem dL_law_521 : decode code 521 = .ok (.invokevirtual 69, 3) := by decide +kernel
theorem dL_law_524 : decode code 524 = .ok (.aload_n 2, 1) := by decide +kernel
theorem dL_law_525 : decode code 525 = .ok (.aload_n 0, 1) := by decide +kernel
theorem dL_law_526 : decode code 526 = .ok (.iload_n 3, 1) := by decide +kernel
theorem dL_law_527 : decode code 527 = .ok (.iconst 1, 1) := by decide +kernel
theorem dL_law_528 : decode code 528 = .ok (.iadd, 1) := by decide +kernel
theorem dL_law_529 : decode code 529 = .ok (.iaload, 1) := by decide +kernel
theorem dL_law_530 : decode code 530 = .ok (.invokevirtual 72, 3) := by decide +kernel
theorem dL_law_533 : decode code 533 = .ok (.if_icmp .eq 450, 3) := by decide +kernel
theorem dL_law_536 : decode code 536 = .ok (.iconst 0, 1) := by decide +kernel
theorem dL_law_537 : decode code 537 = .ok (.ireturn, 1) := by decide +kernel
theorem dL_law_538 : decode code 538 = .ok (.aload_n 1, 1) := by decide +kernel
theorem dL_law_539 : decode code 539 = .ok (.aload_n 0, 1) := by decide +kernel
theorem dL_law_540 : decode code 540 = .ok (.iload_n 3, 1) := by decide +kernel
theorem dL_law_541 : decode code 541 = .ok (.iconst 1, 1) := by decide +kernel
theorem dL_law_542 : decode code 542 = .ok (.iadd, 1) := by decide +kernel
theorem dL_law_543 : decode code 543 = .ok (.iaload, 1) := by decide +kernel
theorem dL_law_544 : decode code 544 = .ok (.aload_n 0, 1) := by decide +kernel
theorem dL_law_545 : decode code 545 = .ok (.iload_n 3, 1) := by decide +kernel
theorem dL_law_546 : decode code 546 = .ok (.iconst 2, 1) := by decide +kernel
theorem dL_law_547 : decode code 547 = .ok (.iadd, 1) := by decide +kernel
theorem dL_law_548 : decode code 548 = .ok (.iaload, 1) := by decide +kernel
theorem dL_law_549 : decode code 549 = .ok (.invokevirtual 73, 3) := by decide +kernel
theorem dL_law_552 : decode code 552 = .ok (.aload_n 2, 1) := by decide +kernel
theorem dL_law_553 : decode code 553 = .ok (.aload_n 0, 1) := by decide +kernel
theorem dL_law_554 : decode code 554 = .ok (.iload_n 3, 1) := by decide +kernel
theorem dL_law_555 : decode code 555 = .ok (.iconst 1, 1) := by decide +kernel
theorem dL_law_556 : decode code 556 = .ok (.iadd, 1) := by decide +kernel
theorem dL_law_557 : decode code 557 = .ok (.iaload, 1) := by decide +kernel
theorem dL_law_558 : decode code 558 = .ok (.aload_n 0, 1) := by decide +kernel
theorem dL_law_559 : decode code 559 = .ok (.iload_n 3, 1) := by decide +kernel
theorem dL_law_560 : decode code 560 = .ok (.iconst 2, 1) := by decide +kernel
theorem dL_law_561 : decode code 561 = .ok (.iadd, 1) := by decide +kernel
theorem dL_law_562 : decode code 562 = .ok (.iaload, 1) := by decide +kernel
theorem dL_law_563 : decode code 563 = .ok (.invokevirtual 76, 3) := by decide +kernel
theorem dL_law_566 : decode code 566 = .ok (.if_icmp .eq 417, 3) := by decide +kernel
theorem dL_law_569 : decode code 569 = .ok (.iconst 0, 1) := by decide +kernel
theorem dL_law_570 : decode code 570 = .ok (.ireturn, 1) := by decide +kernel
theorem dL_law_571 : decode code 571 = .ok (.aload_n 1, 1) := by decide +kernel
theorem dL_law_572 : decode code 572 = .ok (.aload_n 0, 1) := by decide +kernel
theorem dL_law_573 : decode code 573 = .ok (.iload_n 3, 1) := by decide +kernel
theorem dL_law_574 : decode code 574 = .ok (.iconst 1, 1) := by decide +kernel
theorem dL_law_575 : decode code 575 = .ok (.iadd, 1) := by decide +kernel
theorem dL_law_576 : decode code 576 = .ok (.iaload, 1) := by decide +kernel
theorem dL_law_577 : decode code 577 = .ok (.aload_n 0, 1) := by decide +kernel
theorem dL_law_578 : decode code 578 = .ok (.iload_n 3, 1) := by decide +kernel
theorem dL_law_579 : decode code 579 = .ok (.iconst 2, 1) := by decide +kernel
theorem dL_law_580 : decode code 580 = .ok (.iadd, 1) := by decide +kernel
theorem dL_law_581 : decode code 581 = .ok (.iaload, 1) := by decide +kernel
theorem dL_law_582 : decode code 582 = .ok (.invokevirtual 77, 3) := by decide +kernel
theorem dL_law_585 : decode code 585 = .ok (.aload_n 2, 1) := by decide +kernel
theorem dL_law_586 : decode code 586 = .ok (.aload_n 0, 1) := by decide +kernel
theorem dL_law_587 : decode code 587 = .ok (.iload_n 3, 1) := by decide +kernel
theorem dL_law_588 : decode code 588 = .ok (.iconst 1, 1) := by decide +kernel
theorem dL_law_589 : decode code 589 = .ok (.iadd, 1) := by decide +kernel
theorem dL_law_590 : decode code 590 = .ok (.iaload, 1) := by decide +kernel
theorem dL_law_591 : decode code 591 = .ok (.aload_n 0, 1) := by decide +kernel
theorem dL_law_592 : decode code 592 = .ok (.iload_n 3, 1) := by decide +kernel
theorem dL_law_593 : decode code 593 = .ok (.iconst 2, 1) := by decide +kernel
theorem dL_law_594 : decode code 594 = .ok (.iadd, 1) := by decide +kernel
theorem dL_law_595 : decode code 595 = .ok (.iaload, 1) := by decide +kernel
theorem dL_law_596 : decode code 596 = .ok (.invokevirtual 80, 3) := by decide +kernel
theorem dL_law_599 : decode code 599 = .ok (.if_icmp .eq 384, 3) := by decide +kernel
theorem dL_law_602 : decode code 602 = .ok (.iconst 0, 1) := by decide +kernel
theorem dL_law_603 : decode code 603 = .ok (.ireturn, 1) := by decide +kernel
theorem dL_law_604 : decode code 604 = .ok (.aload_n 1, 1) := by decide +kernel
theorem dL_law_605 : decode code 605 = .ok (.aload_n 0, 1) := by decide +kernel
theorem dL_law_606 : decode code 606 = .ok (.iload_n 3, 1) := by decide +kernel
theorem dL_law_607 : decode code 607 = .ok (.iconst 1, 1) := by decide +kernel
theorem dL_law_608 : decode code 608 = .ok (.iadd, 1) := by decide +kernel
theorem dL_law_609 : decode code 609 = .ok (.iaload, 1) := by decide +kernel
theorem dL_law_610 : decode code 610 = .ok (.aload_n 0, 1) := by decide +kernel
theorem dL_law_611 : decode code 611 = .ok (.iload_n 3, 1) := by decide +kernel
theorem dL_law_612 : decode code 612 = .ok (.iconst 2, 1) := by decide +kernel
theorem dL_law_613 : decode code 613 = .ok (.iadd, 1) := by decide +kernel
theorem dL_law_614 : decode code 614 = .ok (.iaload, 1) := by decide +kernel
theorem dL_law_615 : decode code 615 = .ok (.invokevirtual 81, 3) := by decide +kernel
theorem dL_law_618 : decode code 618 = .ok (.aload_n 2, 1) := by decide +kernel
theorem dL_law_619 : decode code 619 = .ok (.aload_n 0, 1) := by decide +kernel
theorem dL_law_620 : decode code 620 = .ok (.iload_n 3, 1) := by decide +kernel
theorem dL_law_621 : decode code 621 = .ok (.iconst 1, 1) := by decide +kernel
theorem dL_law_622 : decode code 622 = .ok (.iadd, 1) := by decide +kernel
theorem dL_law_623 : decode code 623 = .ok (.iaload, 1) := by decide +kernel
theorem dL_law_624 : decode code 624 = .ok (.aload_n 0, 1) := by decide +kernel
theorem dL_law_625 : decode code 625 = .ok (.iload_n 3, 1) := by decide +kernel
theorem dL_law_626 : decode code 626 = .ok (.iconst 2, 1) := by decide +kernel
theorem dL_law_627 : decode code 627 = .ok (.iadd, 1) := by decide +kernel
theorem dL_law_628 : decode code 628 = .ok (.iaload, 1) := by decide +kernel
theorem dL_law_629 : decode code 629 = .ok (.invokevirtual 84, 3) := by decide +kernel
theorem dL_law_632 : decode code 632 = .ok (.if_icmp .eq 351, 3) := by decide +kernel
theorem dL_law_635 : decode code 635 = .ok (.iconst 0, 1) := by decide +kernel
theorem dL_law_636 : decode code 636 = .ok (.ireturn, 1) := by decide +kernel
theorem dL_law_637 : decode code 637 = .ok (.aload_n 1, 1) := by decide +kernel
theorem dL_law_638 : decode code 638 = .ok (.aload_n 0, 1) := by decide +kernel
theorem dL_law_639 : decode code 639 = .ok (.iload_n 3, 1) := by decide +kernel
theorem dL_law_640 : decode code 640 = .ok (.iconst 1, 1) := by decide +kernel
theorem dL_law_641 : decode code 641 = .ok (.iadd, 1) := by decide +kernel
theorem dL_law_642 : decode code 642 = .ok (.iaload, 1) := by decide +kernel
theorem dL_law_643 : decode code 643 = .ok (.aload_n 0, 1) := by decide +kernel
theorem dL_law_644 : decode code 644 = .ok (.iload_n 3, 1) := by decide +kernel
theorem dL_law_645 : decode code 645 = .ok (.iconst 2, 1) := by decide +kernel
theorem dL_law_646 : decode code 646 = .ok (.iadd, 1) := by decide +kernel
theorem dL_law_647 : decode code 647 = .ok (.iaload, 1) := by decide +kernel
theorem dL_law_648 : decode code 648 = .ok (.aload_n 0, 1) := by decide +kernel
theorem dL_law_649 : decode code 649 = .ok (.iload_n 3, 1) := by decide +kernel
theorem dL_law_650 : decode code 650 = .ok (.iconst 3, 1) := by decide +kernel
theorem dL_law_651 : decode code 651 = .ok (.iadd, 1) := by decide +kernel
theorem dL_law_652 : decode code 652 = .ok (.iaload, 1) := by decide +kernel
theorem dL_law_653 : decode code 653 = .ok (.invokevirtual 85, 3) := by decide +kernel
theorem dL_law_656 : decode code 656 = .ok (.aload_n 2, 1) := by decide +kernel
theorem dL_law_657 : decode code 657 = .ok (.aload_n 0, 1) := by decide +kernel
theorem dL_law_658 : decode code 658 = .ok (.iload_n 3, 1) := by decide +kernel
theorem dL_law_659 : decode code 659 = .ok (.iconst 1, 1) := by decide +kernel
theorem dL_law_660 : decode code 660 = .ok (.iadd, 1) := by decide +kernel
theorem dL_law_661 : decode code 661 = .ok (.iaload, 1) := by decide +kernel
theorem dL_law_662 : decode code 662 = .ok (.aload_n 0, 1) := by decide +kernel
theorem dL_law_663 : decode code 663 = .ok (.iload_n 3, 1) := by decide +kernel
theorem dL_law_664 : decode code 664 = .ok (.iconst 2, 1) := by decide +kernel
theorem dL_law_665 : decode code 665 = .ok (.iadd, 1) := by decide +kernel
theorem dL_law_666 : decode code 666 = .ok (.iaload, 1) := by decide +kernel
theorem dL_law_667 : decode code 667 = .ok (.aload_n 0, 1) := by decide +kernel
theorem dL_law_668 : decode code 668 = .ok (.iload_n 3, 1) := by decide +kernel
theorem dL_law_669 : decode code 669 = .ok (.iconst 3, 1) := by decide +kernel
theorem dL_law_670 : decode code 670 = .ok (.iadd, 1) := by decide +kernel
theorem dL_law_671 : decode code 671 = .ok (.iaload, 1) := by decide +kernel
theorem dL_law_672 : decode code 672 = .ok (.invokevirtual 89, 3) := by decide +kernel
theorem dL_law_675 : decode code 675 = .ok (.if_icmp .eq 308, 3) := by decide +kernel
theorem dL_law_678 : decode code 678 = .ok (.iconst 0, 1) := by decide +kernel
theorem dL_law_679 : decode code 679 = .ok (.ireturn, 1) := by decide +kernel
theorem dL_law_680 : decode code 680 = .ok (.aload_n 1, 1) := by decide +kernel
theorem dL_law_681 : decode code 681 = .ok (.aload_n 0, 1) := by decide +kernel
theorem dL_law_682 : decode code 682 = .ok (.iload_n 3, 1) := by decide +kernel
theorem dL_law_683 : decode code 683 = .ok (.iconst 1, 1) := by decide +kernel
theorem dL_law_684 : decode code 684 = .ok (.iadd, 1) := by decide +kernel
theorem dL_law_685 : decode code 685 = .ok (.iaload, 1) := by decide +kernel
theorem dL_law_686 : decode code 686 = .ok (.aload_n 0, 1) := by decide +kernel
theorem dL_law_687 : decode code 687 = .ok (.iload_n 3, 1) := by decide +kernel
theorem dL_law_688 : decode code 688 = .ok (.iconst 2, 1) := by decide +kernel
theorem dL_law_689 : decode code 689 = .ok (.iadd, 1) := by decide +kernel
theorem dL_law_690 : decode code 690 = .ok (.iaload, 1) := by decide +kernel
theorem dL_law_691 : decode code 691 = .ok (.invokevirtual 90, 3) := by decide +kernel
theorem dL_law_694 : decode code 694 = .ok (.aload_n 2, 1) := by decide +kernel
theorem dL_law_695 : decode code 695 = .ok (.aload_n 0, 1) := by decide +kernel
theorem dL_law_696 : decode code 696 = .ok (.iload_n 3, 1) := by decide +kernel
theorem dL_law_697 : decode code 697 = .ok (.iconst 1, 1) := by decide +kernel
theorem dL_law_698 : decode code 698 = .ok (.iadd, 1) := by decide +kernel
theorem dL_law_699 : decode code 699 = .ok (.iaload, 1) := by decide +kernel
theorem dL_law_700 : decode code 700 = .ok (.aload_n 0, 1) := by decide +kernel
theorem dL_law_701 : decode code 701 = .ok (.iload_n 3, 1) := by decide +kernel
theorem dL_law_702 : decode code 702 = .ok (.iconst 2, 1) := by decide +kernel
theorem dL_law_703 : decode code 703 = .ok (.iadd, 1) := by decide +kernel
theorem dL_law_704 : decode code 704 = .ok (.iaload, 1) := by decide +kernel
theorem dL_law_705 : decode code 705 = .ok (.invokevirtual 93, 3) := by decide +kernel
theorem dL_law_708 : decode code 708 = .ok (.if_icmp .eq 275, 3) := by decide +kernel
theorem dL_law_711 : decode code 711 = .ok (.iconst 0, 1) := by decide +kernel
theorem dL_law_712 : decode code 712 = .ok (.ireturn, 1) := by decide +kernel
theorem dL_law_713 : decode code 713 = .ok (.aload_n 1, 1) := by decide +kernel
theorem dL_law_714 : decode code 714 = .ok (.aload_n 0, 1) := by decide +kernel
theorem dL_law_715 : decode code 715 = .ok (.iload_n 3, 1) := by decide +kernel
theorem dL_law_716 : decode code 716 = .ok (.iconst 1, 1) := by decide +kernel
theorem dL_law_717 : decode code 717 = .ok (.iadd, 1) := by decide +kernel
theorem dL_law_718 : decode code 718 = .ok (.iaload, 1) := by decide +kernel
theorem dL_law_719 : decode code 719 = .ok (.aload_n 0, 1) := by decide +kernel
theorem dL_law_720 : decode code 720 = .ok (.iload_n 3, 1) := by decide +kernel
theorem dL_law_721 : decode code 721 = .ok (.iconst 2, 1) := by decide +kernel
theorem dL_law_722 : decode code 722 = .ok (.iadd, 1) := by decide +kernel
theorem dL_law_723 : decode code 723 = .ok (.iaload, 1) := by decide +kernel
theorem dL_law_724 : decode code 724 = .ok (.invokevirtual 94, 3) := by decide +kernel
theorem dL_law_727 : decode code 727 = .ok (.aload_n 2, 1) := by decide +kernel
theorem dL_law_728 : decode code 728 = .ok (.aload_n 0, 1) := by decide +kernel
theorem dL_law_729 : decode code 729 = .ok (.iload_n 3, 1) := by decide +kernel
theorem dL_law_730 : decode code 730 = .ok (.iconst 1, 1) := by decide +kernel
theorem dL_law_731 : decode code 731 = .ok (.iadd, 1) := by decide +kernel
theorem dL_law_732 : decode code 732 = .ok (.iaload, 1) := by decide +kernel
theorem dL_law_733 : decode code 733 = .ok (.aload_n 0, 1) := by decide +kernel
theorem dL_law_734 : decode code 734 = .ok (.iload_n 3, 1) := by decide +kernel
theorem dL_law_735 : decode code 735 = .ok (.iconst 2, 1) := by decide +kernel
theorem dL_law_736 : decode code 736 = .ok (.iadd, 1) := by decide +kernel
theorem dL_law_737 : decode code 737 = .ok (.iaload, 1) := by decide +kernel
theorem dL_law_738 : decode code 738 = .ok (.invokevirtual 97, 3) := by decide +kernel
theorem dL_law_741 : decode code 741 = .ok (.if_icmp .eq 242, 3) := by decide +kernel
theorem dL_law_744 : decode code 744 = .ok (.iconst 0, 1) := by decide +kernel
theorem dL_law_745 : decode code 745 = .ok (.ireturn, 1) := by decide +kernel
theorem dL_law_746 : decode code 746 = .ok (.aload_n 1, 1) := by decide +kernel
theorem dL_law_747 : decode code 747 = .ok (.aload_n 0, 1) := by decide +kernel
theorem dL_law_748 : decode code 748 = .ok (.iload_n 3, 1) := by decide +kernel
theorem dL_law_749 : decode code 749 = .ok (.iconst 1, 1) := by decide +kernel
theorem dL_law_750 : decode code 750 = .ok (.iadd, 1) := by decide +kernel
theorem dL_law_751 : decode code 751 = .ok (.iaload, 1) := by decide +kernel
theorem dL_law_752 : decode code 752 = .ok (.aload_n 0, 1) := by decide +kernel
theorem dL_law_753 : decode code 753 = .ok (.iload_n 3, 1) := by decide +kernel
theorem dL_law_754 : decode code 754 = .ok (.iconst 2, 1) := by decide +kernel
theorem dL_law_755 : decode code 755 = .ok (.iadd, 1) := by decide +kernel
theorem dL_law_756 : decode code 756 = .ok (.iaload, 1) := by decide +kernel
theorem dL_law_757 : decode code 757 = .ok (.invokevirtual 98, 3) := by decide +kernel
theorem dL_law_760 : decode code 760 = .ok (.aload_n 2, 1) := by decide +kernel
theorem dL_law_761 : decode code 761 = .ok (.aload_n 0, 1) := by decide +kernel
theorem dL_law_762 : decode code 762 = .ok (.iload_n 3, 1) := by decide +kernel
theorem dL_law_763 : decode code 763 = .ok (.iconst 1, 1) := by decide +kernel
theorem dL_law_764 : decode code 764 = .ok (.iadd, 1) := by decide +kernel
theorem dL_law_765 : decode code 765 = .ok (.iaload, 1) := by decide +kernel
theorem dL_law_766 : decode code 766 = .ok (.aload_n 0, 1) := by decide +kernel
theorem dL_law_767 : decode code 767 = .ok (.iload_n 3, 1) := by decide +kernel
theorem dL_law_768 : decode code 768 = .ok (.iconst 2, 1) := by decide +kernel
theorem dL_law_769 : decode code 769 = .ok (.iadd, 1) := by decide +kernel
theorem dL_law_770 : decode code 770 = .ok (.iaload, 1) := by decide +kernel
theorem dL_law_771 : decode code 771 = .ok (.invokevirtual 101, 3) := by decide +kernel
theorem dL_law_774 : decode code 774 = .ok (.if_icmp .eq 209, 3) := by decide +kernel
theorem dL_law_777 : decode code 777 = .ok (.iconst 0, 1) := by decide +kernel
theorem dL_law_778 : decode code 778 = .ok (.ireturn, 1) := by decide +kernel
theorem dL_law_779 : decode code 779 = .ok (.aload_n 1, 1) := by decide +kernel
theorem dL_law_780 : decode code 780 = .ok (.aload_n 0, 1) := by decide +kernel
theorem dL_law_781 : decode code 781 = .ok (.iload_n 3, 1) := by decide +kernel
theorem dL_law_782 : decode code 782 = .ok (.iconst 1, 1) := by decide +kernel
theorem dL_law_783 : decode code 783 = .ok (.iadd, 1) := by decide +kernel
theorem dL_law_784 : decode code 784 = .ok (.iaload, 1) := by decide +kernel
theorem dL_law_785 : decode code 785 = .ok (.aload_n 0, 1) := by decide +kernel
theorem dL_law_786 : decode code 786 = .ok (.iload_n 3, 1) := by decide +kernel
theorem dL_law_787 : decode code 787 = .ok (.iconst 2, 1) := by decide +kernel
theorem dL_law_788 : decode code 788 = .ok (.iadd, 1) := by decide +kernel
theorem dL_law_789 : decode code 789 = .ok (.iaload, 1) := by decide +kernel
theorem dL_law_790 : decode code 790 = .ok (.invokevirtual 102, 3) := by decide +kernel
theorem dL_law_793 : decode code 793 = .ok (.aload_n 2, 1) := by decide +kernel
theorem dL_law_794 : decode code 794 = .ok (.aload_n 0, 1) := by decide +kernel
theorem dL_law_795 : decode code 795 = .ok (.iload_n 3, 1) := by decide +kernel
theorem dL_law_796 : decode code 796 = .ok (.iconst 1, 1) := by decide +kernel
theorem dL_law_797 : decode code 797 = .ok (.iadd, 1) := by decide +kernel
theorem dL_law_798 : decode code 798 = .ok (.iaload, 1) := by decide +kernel
theorem dL_law_799 : decode code 799 = .ok (.aload_n 0, 1) := by decide +kernel
theorem dL_law_800 : decode code 800 = .ok (.iload_n 3, 1) := by decide +kernel
theorem dL_law_801 : decode code 801 = .ok (.iconst 2, 1) := by decide +kernel
theorem dL_law_802 : decode code 802 = .ok (.iadd, 1) := by decide +kernel
theorem dL_law_803 : decode code 803 = .ok (.iaload, 1) := by decide +kernel
theorem dL_law_804 : decode code 804 = .ok (.invokevirtual 105, 3) := by decide +kernel
theorem dL_law_807 : decode code 807 = .ok (.if_icmp .eq 176, 3) := by decide +kernel
theorem dL_law_810 : decode code 810 = .ok (.iconst 0, 1) := by decide +kernel
theorem dL_law_811 : decode code 811 = .ok (.ireturn, 1) := by decide +kernel
theorem dL_law_812 : decode code 812 = .ok (.aload_n 1, 1) := by decide +kernel
theorem dL_law_813 : decode code 813 = .ok (.aload_n 0, 1) := by decide +kernel
theorem dL_law_814 : decode code 814 = .ok (.iload_n 3, 1) := by decide +kernel
theorem dL_law_815 : decode code 815 = .ok (.iconst 1, 1) := by decide +kernel
theorem dL_law_816 : decode code 816 = .ok (.iadd, 1) := by decide +kernel
theorem dL_law_817 : decode code 817 = .ok (.iaload, 1) := by decide +kernel
theorem dL_law_818 : decode code 818 = .ok (.aload_n 0, 1) := by decide +kernel
theorem dL_law_819 : decode code 819 = .ok (.iload_n 3, 1) := by decide +kernel
theorem dL_law_820 : decode code 820 = .ok (.iconst 2, 1) := by decide +kernel
theorem dL_law_821 : decode code 821 = .ok (.iadd, 1) := by decide +kernel
theorem dL_law_822 : decode code 822 = .ok (.iaload, 1) := by decide +kernel
theorem dL_law_823 : decode code 823 = .ok (.invokevirtual 106, 3) := by decide +kernel
theorem dL_law_826 : decode code 826 = .ok (.aload_n 2, 1) := by decide +kernel
theorem dL_law_827 : decode code 827 = .ok (.aload_n 0, 1) := by decide +kernel
theorem dL_law_828 : decode code 828 = .ok (.iload_n 3, 1) := by decide +kernel
theorem dL_law_829 : decode code 829 = .ok (.iconst 1, 1) := by decide +kernel
theorem dL_law_830 : decode code 830 = .ok (.iadd, 1) := by decide +kernel
theorem dL_law_831 : decode code 831 = .ok (.iaload, 1) := by decide +kernel
theorem dL_law_832 : decode code 832 = .ok (.aload_n 0, 1) := by decide +kernel
theorem dL_law_833 : decode code 833 = .ok (.iload_n 3, 1) := by decide +kernel
theorem dL_law_834 : decode code 834 = .ok (.iconst 2, 1) := by decide +kernel
theorem dL_law_835 : decode code 835 = .ok (.iadd, 1) := by decide +kernel
theorem dL_law_836 : decode code 836 = .ok (.iaload, 1) := by decide +kernel
theorem dL_law_837 : decode code 837 = .ok (.invokevirtual 109, 3) := by decide +kernel
theorem dL_law_840 : decode code 840 = .ok (.if_icmp .eq 143, 3) := by decide +kernel
theorem dL_law_843 : decode code 843 = .ok (.iconst 0, 1) := by decide +kernel
theorem dL_law_844 : decode code 844 = .ok (.ireturn, 1) := by decide +kernel
theorem dL_law_845 : decode code 845 = .ok (.aload_n 1, 1) := by decide +kernel
theorem dL_law_846 : decode code 846 = .ok (.invokevirtual 110, 3) := by decide +kernel
theorem dL_law_849 : decode code 849 = .ok (.aload_n 2, 1) := by decide +kernel
theorem dL_law_850 : decode code 850 = .ok (.invokevirtual 113, 3) := by decide +kernel
theorem dL_law_853 : decode code 853 = .ok (.if_icmp .eq 130, 3) := by decide +kernel
theorem dL_law_856 : decode code 856 = .ok (.iconst 0, 1) := by decide +kernel
theorem dL_law_857 : decode code 857 = .ok (.ireturn, 1) := by decide +kernel
theorem dL_law_858 : decode code 858 = .ok (.aload_n 1, 1) := by decide +kernel
theorem dL_law_859 : decode code 859 = .ok (.invokevirtual 114, 3) := by decide +kernel
theorem dL_law_862 : decode code 862 = .ok (.aload_n 2, 1) := by decide +kernel
theorem dL_law_863 : decode code 863 = .ok (.invokevirtual 117, 3) := by decide +kernel
theorem dL_law_866 : decode code 866 = .ok (.if_icmp .eq 117, 3) := by decide +kernel
theorem dL_law_869 : decode code 869 = .ok (.iconst 0, 1) := by decide +kernel
theorem dL_law_870 : decode code 870 = .ok (.ireturn, 1) := by decide +kernel
theorem dL_law_871 : decode code 871 = .ok (.aload_n 1, 1) := by decide +kernel
theorem dL_law_872 : decode code 872 = .ok (.invokevirtual 118, 3) := by decide +kernel
theorem dL_law_875 : decode code 875 = .ok (.aload_n 2, 1) := by decide +kernel
theorem dL_law_876 : decode code 876 = .ok (.invokevirtual 121, 3) := by decide +kernel
theorem dL_law_879 : decode code 879 = .ok (.if_icmp .eq 104, 3) := by decide +kernel
theorem dL_law_882 : decode code 882 = .ok (.iconst 0, 1) := by decide +kernel
theorem dL_law_883 : decode code 883 = .ok (.ireturn, 1) := by decide +kernel
theorem dL_law_884 : decode code 884 = .ok (.aload_n 1, 1) := by decide +kernel
theorem dL_law_885 : decode code 885 = .ok (.aload_n 0, 1) := by decide +kernel
theorem dL_law_886 : decode code 886 = .ok (.iload_n 3, 1) := by decide +kernel
theorem dL_law_887 : decode code 887 = .ok (.iconst 1, 1) := by decide +kernel
theorem dL_law_888 : decode code 888 = .ok (.iadd, 1) := by decide +kernel
theorem dL_law_889 : decode code 889 = .ok (.iaload, 1) := by decide +kernel
theorem dL_law_890 : decode code 890 = .ok (.invokevirtual 122, 3) := by decide +kernel
theorem dL_law_893 : decode code 893 = .ok (.aload_n 2, 1) := by decide +kernel
theorem dL_law_894 : decode code 894 = .ok (.aload_n 0, 1) := by decide +kernel
theorem dL_law_895 : decode code 895 = .ok (.iload_n 3, 1) := by decide +kernel
theorem dL_law_896 : decode code 896 = .ok (.iconst 1, 1) := by decide +kernel
theorem dL_law_897 : decode code 897 = .ok (.iadd, 1) := by decide +kernel
theorem dL_law_898 : decode code 898 = .ok (.iaload, 1) := by decide +kernel
theorem dL_law_899 : decode code 899 = .ok (.invokevirtual 125, 3) := by decide +kernel
theorem dL_law_902 : decode code 902 = .ok (.if_icmp .eq 81, 3) := by decide +kernel
theorem dL_law_905 : decode code 905 = .ok (.iconst 0, 1) := by decide +kernel
theorem dL_law_906 : decode code 906 = .ok (.ireturn, 1) := by decide +kernel
theorem dL_law_907 : decode code 907 = .ok (.aload_n 1, 1) := by decide +kernel
theorem dL_law_908 : decode code 908 = .ok (.invokevirtual 126, 3) := by decide +kernel
theorem dL_law_911 : decode code 911 = .ok (.aload_n 2, 1) := by decide +kernel
theorem dL_law_912 : decode code 912 = .ok (.invokevirtual 129, 3) := by decide +kernel
theorem dL_law_915 : decode code 915 = .ok (.if_icmp .eq 68, 3) := by decide +kernel
theorem dL_law_918 : decode code 918 = .ok (.iconst 0, 1) := by decide +kernel
theorem dL_law_919 : decode code 919 = .ok (.ireturn, 1) := by decide +kernel
theorem dL_law_920 : decode code 920 = .ok (.aload_n 1, 1) := by decide +kernel
theorem dL_law_921 : decode code 921 = .ok (.invokevirtual 130, 3) := by decide +kernel
theorem dL_law_924 : decode code 924 = .ok (.aload_n 2, 1) := by decide +kernel
theorem dL_law_925 : decode code 925 = .ok (.invokevirtual 133, 3) := by decide +kernel
theorem dL_law_928 : decode code 928 = .ok (.if_icmp .eq 55, 3) := by decide +kernel
theorem dL_law_931 : decode code 931 = .ok (.iconst 0, 1) := by decide +kernel
theorem dL_law_932 : decode code 932 = .ok (.ireturn, 1) := by decide +kernel
theorem dL_law_933 : decode code 933 = .ok (.aload_n 1, 1) := by decide +kernel
theorem dL_law_934 : decode code 934 = .ok (.invokevirtual 134, 3) := by decide +kernel
theorem dL_law_937 : decode code 937 = .ok (.aload_n 2, 1) := by decide +kernel
theorem dL_law_938 : decode code 938 = .ok (.invokevirtual 137, 3) := by decide +kernel
theorem dL_law_941 : decode code 941 = .ok (.if_icmp .eq 42, 3) := by decide +kernel
theorem dL_law_944 : decode code 944 = .ok (.iconst 0, 1) := by decide +kernel
theorem dL_law_945 : decode code 945 = .ok (.ireturn, 1) := by decide +kernel
theorem dL_law_946 : decode code 946 = .ok (.aload_n 1, 1) := by decide +kernel
theorem dL_law_947 : decode code 947 = .ok (.aload_n 0, 1) := by decide +kernel
theorem dL_law_948 : decode code 948 = .ok (.iload_n 3, 1) := by decide +kernel
theorem dL_law_949 : decode code 949 = .ok (.iconst 1, 1) := by decide +kernel
theorem dL_law_950 : decode code 950 = .ok (.iadd, 1) := by decide +kernel
theorem dL_law_951 : decode code 951 = .ok (.iaload, 1) := by decide +kernel
theorem dL_law_952 : decode code 952 = .ok (.invokevirtual 138, 3) := by decide +kernel
theorem dL_law_955 : decode code 955 = .ok (.aload_n 2, 1) := by decide +kernel
theorem dL_law_956 : decode code 956 = .ok (.aload_n 0, 1) := by decide +kernel
theorem dL_law_957 : decode code 957 = .ok (.iload_n 3, 1) := by decide +kernel
theorem dL_law_958 : decode code 958 = .ok (.iconst 1, 1) := by decide +kernel
theorem dL_law_959 : decode code 959 = .ok (.iadd, 1) := by decide +kernel
theorem dL_law_960 : decode code 960 = .ok (.iaload, 1) := by decide +kernel
theorem dL_law_961 : decode code 961 = .ok (.invokevirtual 141, 3) := by decide +kernel
theorem dL_law_964 : decode code 964 = .ok (.if_icmp .eq 19, 3) := by decide +kernel
theorem dL_law_967 : decode code 967 = .ok (.iconst 0, 1) := by decide +kernel
theorem dL_law_968 : decode code 968 = .ok (.ireturn, 1) := by decide +kernel
theorem dL_law_969 : decode code 969 = .ok (.aload_n 1, 1) := by decide +kernel
theorem dL_law_970 : decode code 970 = .ok (.invokevirtual 142, 3) := by decide +kernel
theorem dL_law_973 : decode code 973 = .ok (.aload_n 2, 1) := by decide +kernel
theorem dL_law_974 : decode code 974 = .ok (.invokevirtual 146, 3) := by decide +kernel
theorem dL_law_977 : decode code 977 = .ok (.lcmp, 1) := by decide +kernel
theorem dL_law_978 : decode code 978 = .ok (.ifCond .eq 5, 3) := by decide +kernel
theorem dL_law_981 : decode code 981 = .ok (.iconst 0, 1) := by decide +kernel
theorem dL_law_982 : decode code 982 = .ok (.ireturn, 1) := by decide +kernel
theorem dL_law_983 : decode code 983 = .ok (.iinc 3 5, 3) := by decide +kernel
theorem dL_law_986 : decode code 986 = .ok (.goto (-968), 3) := by decide +kernel
theorem dL_law_989 : decode code 989 = .ok (.iconst 1, 1) := by decide +kernel
theorem dL_law_990 : decode code 990 = .ok (.ireturn, 1) := by decide +kernel
