def RL : String := "ThrownVoicesLaw"
theorem dL_law_0 : decode code 0 = .ok (.new 7, 3) := by decide +kernel
theorem dL_law_3 : decode code 3 = .ok (.dup, 1) := by decide +kernel
theorem dL_law_4 : decode code 4 = .ok (.invokespecial 9, 3) := by decide +kernel
theorem dL_law_7 : decode code 7 = .ok (.astore_n 1, 1) := by decide +kernel
theorem dL_law_8 : decode code 8 = .ok (.new 10, 3) := by decide +kernel
theorem dL_law_11 : decode code 11 = .ok (.dup, 1) := by decide +kernel
theorem dL_law_12 : decode code 12 = .ok (.invokespecial 12, 3) := by decide +kernel
theorem dL_law_15 : decode code 15 = .ok (.astore_n 2, 1) := by decide +kernel
theorem dL_law_16 : decode code 16 = .ok (.iconst 0, 1) := by decide +kernel
theorem dL_law_17 : decode code 17 = .ok (.istore_n 3, 1) := by decide +kernel
theorem dL_law_18 : decode code 18 = .ok (.iload_n 3, 1) := by decide +kernel
theorem dL_law_19 : decode code 19 = .ok (.aload_n 0, 1) := by decide +kernel
theorem dL_law_20 : decode code 20 = .ok (.arraylength, 1) := by decide +kernel
theorem dL_law_21 : decode code 21 = .ok (.bipush 6, 2) := by decide +kernel
theorem dL_law_23 : decode code 23 = .ok (.isub, 1) := by decide +kernel
theorem dL_law_24 : decode code 24 = .ok (.if_icmp .gt 1116, 3) := by decide +kernel
theorem dL_law_27 : decode code 27 = .ok (.aload_n 0, 1) := by decide +kernel
theorem dL_law_28 : decode code 28 = .ok (.iload_n 3, 1) := by decide +kernel
theorem dL_law_29 : decode code 29 = .ok (.iaload, 1) := by decide +kernel
theorem dL_law_30 : decode code 30 = .ok (.bipush 63, 2) := by decide +kernel
theorem dL_law_32 : decode code 32 = .ok (.iand, 1) := by decide +kernel
theorem dL_law_33 : decode code 33 = .ok (.tableswitch 1101 0 34 #[155, 218, 241, 254, 277, 300, 343, 376, 409, 442, 476, 519, 542, 565, 588, 611, 644, 687, 710, 733, 746, 769, 802, 825, 848, 871, 894, 927, 960, 973, 996, 1029, 1042, 1065, 1078], 155) := by decide +kernel
theorem dL_law_188 : decode code 188 = .ok (.aload_n 1, 1) := by decide +kernel
theorem dL_law_189 : decode code 189 = .ok (.aload_n 0, 1) := by decide +kernel
theorem dL_law_190 : decode code 190 = .ok (.iload_n 3, 1) := by decide +kernel
theorem dL_law_191 : decode code 191 = .ok (.iconst 1, 1) := by decide +kernel
theorem dL_law_192 : decode code 192 = .ok (.iadd, 1) := by decide +kernel
theorem dL_law_193 : decode code 193 = .ok (.iaload, 1) := by decide +kernel
theorem dL_law_194 : decode code 194 = .ok (.aload_n 0, 1) := by decide +kernel
theorem dL_law_195 : decode code 195 = .ok (.iload_n 3, 1) := by decide +kernel
theorem dL_law_196 : decode code 196 = .ok (.iconst 2, 1) := by decide +kernel
theorem dL_law_197 : decode code 197 = .ok (.iadd, 1) := by decide +kernel
theorem dL_law_198 : decode code 198 = .ok (.iaload, 1) := by decide +kernel
theorem dL_law_199 : decode code 199 = .ok (.aload_n 0, 1) := by decide +kernel
theorem dL_law_200 : decode code 200 = .ok (.iload_n 3, 1) := by decide +kernel
theorem dL_law_201 : decode code 201 = .ok (.iconst 3, 1) := by decide +kernel
theorem dL_law_202 : decode code 202 = .ok (.iadd, 1) := by decide +kernel
theorem dL_law_203 : decode code 203 = .ok (.iaload, 1) := by decide +kernel
theorem dL_law_204 : decode code 204 = .ok (.aload_n 0, 1) := by decide +kernel
theorem dL_law_205 : decode code 205 = .ok (.iload_n 3, 1) := by decide +kernel
theorem dL_law_206 : decode code 206 = .ok (.iconst 4, 1) := by decide +kernel
theorem dL_law_207 : decode code 207 = .ok (.iadd, 1) := by decide +kernel
theorem dL_law_208 : decode code 208 = .ok (.iaload, 1) := by decide +kernel
theorem dL_law_209 : decode code 209 = .ok (.aload_n 0, 1) := by decide +kernel
theorem dL_law_210 : decode code 210 = .ok (.iload_n 3, 1) := by decide +kernel
theorem dL_law_211 : decode code 211 = .ok (.iconst 5, 1) := by decide +kernel
theorem dL_law_212 : decode code 212 = .ok (.iadd, 1) := by decide +kernel
theorem dL_law_213 : decode code 213 = .ok (.iaload, 1) := by decide +kernel
theorem dL_law_214 : decode code 214 = .ok (.invokevirtual 13, 3) := by decide +kernel
theorem dL_law_217 : decode code 217 = .ok (.aload_n 2, 1) := by decide +kernel
theorem dL_law_218 : decode code 218 = .ok (.aload_n 0, 1) := by decide +kernel
theorem dL_law_219 : decode code 219 = .ok (.iload_n 3, 1) := by decide +kernel
theorem dL_law_220 : decode code 220 = .ok (.iconst 1, 1) := by decide +kernel
theorem dL_law_221 : decode code 221 = .ok (.iadd, 1) := by decide +kernel
theorem dL_law_222 : decode code 222 = .ok (.iaload, 1) := by decide +kernel
theorem dL_law_223 : decode code 223 = .ok (.aload_n 0, 1) := by decide +kernel
theorem dL_law_224 : decode code 224 = .ok (.iload_n 3, 1) := by decide +kernel
theorem dL_law_225 : decode code 225 = .ok (.iconst 2, 1) := by decide +kernel
theorem dL_law_226 : decode code 226 = .ok (.iadd, 1) := by decide +kernel
theorem dL_law_227 : decode code 227 = .ok (.iaload, 1) := by decide +kernel
theorem dL_law_228 : decode code 228 = .ok (.aload_n 0, 1) := by decide +kernel
theorem dL_law_229 : decode code 229 = .ok (.iload_n 3, 1) := by decide +kernel
theorem dL_law_230 : decode code 230 = .ok (.iconst 3, 1) := by decide +kernel
theorem dL_law_231 : decode code 231 = .ok (.iadd, 1) := by decide +kernel
theorem dL_law_232 : decode code 232 = .ok (.iaload, 1) := by decide +kernel
theorem dL_law_233 : decode code 233 = .ok (.aload_n 0, 1) := by decide +kernel
theorem dL_law_234 : decode code 234 = .ok (.iload_n 3, 1) := by decide +kernel
theorem dL_law_235 : decode code 235 = .ok (.iconst 4, 1) := by decide +kernel
theorem dL_law_236 : decode code 236 = .ok (.iadd, 1) := by decide +kernel
theorem dL_law_237 : decode code 237 = .ok (.iaload, 1) := by decide +kernel
theorem dL_law_238 : decode code 238 = .ok (.aload_n 0, 1) := by decide +kernel
theorem dL_law_239 : decode code 239 = .ok (.iload_n 3, 1) := by decide +kernel
theorem dL_law_240 : decode code 240 = .ok (.iconst 5, 1) := by decide +kernel
theorem dL_law_241 : decode code 241 = .ok (.iadd, 1) := by decide +kernel
theorem dL_law_242 : decode code 242 = .ok (.iaload, 1) := by decide +kernel
theorem dL_law_243 : decode code 243 = .ok (.invokevirtual 17, 3) := by decide +kernel
theorem dL_law_246 : decode code 246 = .ok (.if_icmp .eq 888, 3) := by decide +kernel
theorem dL_law_249 : decode code 249 = .ok (.iconst 0, 1) := by decide +kernel
theorem dL_law_250 : decode code 250 = .ok (.ireturn, 1) := by decide +kernel
theorem dL_law_251 : decode code 251 = .ok (.aload_n 1, 1) := by decide +kernel
theorem dL_law_252 : decode code 252 = .ok (.aload_n 0, 1) := by decide +kernel
theorem dL_law_253 : decode code 253 = .ok (.iload_n 3, 1) := by decide +kernel
theorem dL_law_254 : decode code 254 = .ok (.iconst 1, 1) := by decide +kernel
theorem dL_law_255 : decode code 255 = .ok (.iadd, 1) := by decide +kernel
theorem dL_law_256 : decode code 256 = .ok (.iaload, 1) := by decide +kernel
theorem dL_law_257 : decode code 257 = .ok (.invokevirtual 18, 3) := by decide +kernel
theorem dL_law_260 : decode code 260 = .ok (.aload_n 2, 1) := by decide +kernel
theorem dL_law_261 : decode code 261 = .ok (.aload_n 0, 1) := by decide +kernel
theorem dL_law_262 : decode code 262 = .ok (.iload_n 3, 1) := by decide +kernel
theorem dL_law_263 : decode code 263 = .ok (.iconst 1, 1) := by decide +kernel
theorem dL_law_264 : decode code 264 = .ok (.iadd, 1) := by decide +kernel
theorem dL_law_265 : decode code 265 = .ok (.iaload, 1) := by decide +kernel
theorem dL_law_266 : decode code 266 = .ok (.invokevirtual 22, 3) := by decide +kernel
theorem dL_law_269 : decode code 269 = .ok (.if_icmp .eq 865, 3) := by decide +kernel
theorem dL_law_272 : decode code 272 = .ok (.iconst 0, 1) := by decide +kernel
theorem dL_law_273 : decode code 273 = .ok (.ireturn, 1) := by decide +kernel
theorem dL_law_274 : decode code 274 = .ok (.aload_n 1, 1) := by decide +kernel
theorem dL_law_275 : decode code 275 = .ok (.invokevirtual 23, 3) := by decide +kernel
theorem dL_law_278 : decode code 278 = .ok (.aload_n 2, 1) := by decide +kernel
theorem dL_law_279 : decode code 279 = .ok (.invokevirtual 27, 3) := by decide +kernel
theorem dL_law_282 : decode code 282 = .ok (.if_icmp .eq 852, 3) := by decide +kernel
theorem dL_law_285 : decode code 285 = .ok (.iconst 0, 1) := by decide +kernel
theorem dL_law_286 : decode code 286 = .ok (.ireturn, 1) := by decide +kernel
theorem dL_law_287 : decode code 287 = .ok (.aload_n 1, 1) := by decide +kernel
theorem dL_law_288 : decode code 288 = .ok (.aload_n 0, 1) := by decide +kernel
theorem dL_law_289 : decode code 289 = .ok (.iload_n 3, 1) := by decide +kernel
theorem dL_law_290 : decode code 290 = .ok (.iconst 1, 1) := by decide +kernel
theorem dL_law_291 : decode code 291 = .ok (.iadd, 1) := by decide +kernel
theorem dL_law_292 : decode code 292 = .ok (.iaload, 1) := by decide +kernel
theorem dL_law_293 : decode code 293 = .ok (.invokevirtual 28, 3) := by decide +kernel
theorem dL_law_296 : decode code 296 = .ok (.aload_n 2, 1) := by decide +kernel
theorem dL_law_297 : decode code 297 = .ok (.aload_n 0, 1) := by decide +kernel
theorem dL_law_298 : decode code 298 = .ok (.iload_n 3, 1) := by decide +kernel
theorem dL_law_299 : decode code 299 = .ok (.iconst 1, 1) := by decide +kernel
theorem dL_law_300 : decode code 300 = .ok (.iadd, 1) := by decide +kernel
theorem dL_law_301 : decode code 301 = .ok (.iaload, 1) := by decide +kernel
theorem dL_law_302 : decode code 302 = .ok (.invokevirtual 32, 3) := by decide +kernel
theorem dL_law_305 : decode code 305 = .ok (.if_icmp .eq 829, 3) := by decide +kernel
theorem dL_law_308 : decode code 308 = .ok (.iconst 0, 1) := by decide +kernel
theorem dL_law_309 : decode code 309 = .ok (.ireturn, 1) := by decide +kernel
theorem dL_law_310 : decode code 310 = .ok (.aload_n 1, 1) := by decide +kernel
theorem dL_law_311 : decode code 311 = .ok (.aload_n 0, 1) := by decide +kernel
theorem dL_law_312 : decode code 312 = .ok (.iload_n 3, 1) := by decide +kernel
theorem dL_law_313 : decode code 313 = .ok (.iconst 1, 1) := by decide +kernel
theorem dL_law_314 : decode code 314 = .ok (.iadd, 1) := by decide +kernel
theorem dL_law_315 : decode code 315 = .ok (.iaload, 1) := by decide +kernel
theorem dL_law_316 : decode code 316 = .ok (.invokevirtual 33, 3) := by decide +kernel
theorem dL_law_319 : decode code 319 = .ok (.aload_n 2, 1) := by decide +kernel
theorem dL_law_320 : decode code 320 = .ok (.aload_n 0, 1) := by decide +kernel
theorem dL_law_321 : decode code 321 = .ok (.iload_n 3, 1) := by decide +kernel
theorem dL_law_322 : decode code 322 = .ok (.iconst 1, 1) := by decide +kernel
theorem dL_law_323 : decode code 323 = .ok (.iadd, 1) := by decide +kernel
theorem dL_law_324 : decode code 324 = .ok (.iaload, 1) := by decide +kernel
theorem dL_law_325 : decode code 325 = .ok (.invokevirtual 36, 3) := by decide +kernel
theorem dL_law_328 : decode code 328 = .ok (.if_icmp .eq 806, 3) := by decide +kernel
theorem dL_law_331 : decode code 331 = .ok (.iconst 0, 1) := by decide +kernel
theorem dL_law_332 : decode code 332 = .ok (.ireturn, 1) := by decide +kernel
theorem dL_law_333 : decode code 333 = .ok (.aload_n 1, 1) := by decide +kernel
theorem dL_law_334 : decode code 334 = .ok (.aload_n 0, 1) := by decide +kernel
theorem dL_law_335 : decode code 335 = .ok (.iload_n 3, 1) := by decide +kernel
theorem dL_law_336 : decode code 336 = .ok (.iconst 1, 1) := by decide +kernel
theorem dL_law_337 : decode code 337 = .ok (.iadd, 1) := by decide +kernel
theorem dL_law_338 : decode code 338 = .ok (.iaload, 1) := by decide +kernel
theorem dL_law_339 : decode code 339 = .ok (.aload_n 0, 1) := by decide +kernel
theorem dL_law_340 : decode code 340 = .ok (.iload_n 3, 1) := by decide +kernel
theorem dL_law_341 : decode code 341 = .ok (.iconst 2, 1) := by decide +kernel
theorem dL_law_342 : decode code 342 = .ok (.iadd, 1) := by decide +kernel
theorem dL_law_343 : decode code 343 = .ok (.iaload, 1) := by decide +kernel
theorem dL_law_344 : decode code 344 = .ok (.aload_n 0, 1) := by decide +kernel
theorem dL_law_345 : decode code 345 = .ok (.iload_n 3, 1) := by decide +kernel
theorem dL_law_346 : decode code 346 = .ok (.iconst 3, 1) := by decide +kernel
theorem dL_law_347 : decode code 347 = .ok (.iadd, 1) := by decide +kernel
theorem dL_law_348 : decode code 348 = .ok (.iaload, 1) := by decide +kernel
theorem dL_law_349 : decode code 349 = .ok (.invokevirtual 37, 3) := by decide +kernel
theorem dL_law_352 : decode code 352 = .ok (.aload_n 2, 1) := by decide +kernel
theorem dL_law_353 : decode code 353 = .ok (.aload_n 0, 1) := by decide +kernel
theorem dL_law_354 : decode code 354 = .ok (.iload_n 3, 1) := by decide +kernel
theorem dL_law_355 : decode code 355 = .ok (.iconst 1, 1) := by decide +kernel
theorem dL_law_356 : decode code 356 = .ok (.iadd, 1) := by decide +kernel
theorem dL_law_357 : decode code 357 = .ok (.iaload, 1) := by decide +kernel
theorem dL_law_358 : decode code 358 = .ok (.aload_n 0, 1) := by decide +kernel
theorem dL_law_359 : decode code 359 = .ok (.iload_n 3, 1) := by decide +kernel
theorem dL_law_360 : decode code 360 = .ok (.iconst 2, 1) := by decide +kernel
theorem dL_law_361 : decode code 361 = .ok (.iadd, 1) := by decide +kernel
theorem dL_law_362 : decode code 362 = .ok (.iaload, 1) := by decide +kernel
theorem dL_law_363 : decode code 363 = .ok (.aload_n 0, 1) := by decide +kernel
theorem dL_law_364 : decode code 364 = .ok (.iload_n 3, 1) := by decide +kernel
theorem dL_law_365 : decode code 365 = .ok (.iconst 3, 1) := by decide +kernel
theorem dL_law_366 : decode code 366 = .ok (.iadd, 1) := by decide +kernel
theorem dL_law_367 : decode code 367 = .ok (.iaload, 1) := by decide +kernel
theorem dL_law_368 : decode code 368 = .ok (.invokevirtual 41, 3) := by decide +kernel
theorem dL_law_371 : decode code 371 = .ok (.if_icmp .eq 763, 3) := by decide +kernel
theorem dL_law_374 : decode code 374 = .ok (.iconst 0, 1) := by decide +kernel
theorem dL_law_375 : decode code 375 = .ok (.ireturn, 1) := by decide +kernel
theorem dL_law_376 : decode code 376 = .ok (.aload_n 1, 1) := by decide +kernel
theorem dL_law_377 : decode code 377 = .ok (.aload_n 0, 1) := by decide +kernel
theorem dL_law_378 : decode code 378 = .ok (.iload_n 3, 1) := by decide +kernel
theorem dL_law_379 : decode code 379 = .ok (.iconst 1, 1) := by decide +kernel
theorem dL_law_380 : decode code 380 = .ok (.iadd, 1) := by decide +kernel
theorem dL_law_381 : decode code 381 = .ok (.iaload, 1) := by decide +kernel
theorem dL_law_382 : decode code 382 = .ok (.aload_n 0, 1) := by decide +kernel
theorem dL_law_383 : decode code 383 = .ok (.iload_n 3, 1) := by decide +kernel
theorem dL_law_384 : decode code 384 = .ok (.iconst 2, 1) := by decide +kernel
theorem dL_law_385 : decode code 385 = .ok (.iadd, 1) := by decide +kernel
theorem dL_law_386 : decode code 386 = .ok (.iaload, 1) := by decide +kernel
theorem dL_law_387 : decode code 387 = .ok (.invokevirtual 42, 3) := by decide +kernel
theorem dL_law_390 : decode code 390 = .ok (.aload_n 2, 1) := by decide +kernel
theorem dL_law_391 : decode code 391 = .ok (.aload_n 0, 1) := by decide +kernel
theorem dL_law_392 : decode code 392 = .ok (.iload_n 3, 1) := by decide +kernel
theorem dL_law_393 : decode code 393 = .ok (.iconst 1, 1) := by decide +kernel
theorem dL_law_394 : decode code 394 = .ok (.iadd, 1) := by decide +kernel
theorem dL_law_395 : decode code 395 = .ok (.iaload, 1) := by decide +kernel
theorem dL_law_396 : decode code 396 = .ok (.aload_n 0, 1) := by decide +kernel
theorem dL_law_397 : decode code 397 = .ok (.iload_n 3, 1) := by decide +kernel
theorem dL_law_398 : decode code 398 = .ok (.iconst 2, 1) := by decide +kernel
theorem dL_law_399 : decode code 399 = .ok (.iadd, 1) := by decide +kernel
theorem dL_law_400 : decode code 400 = .ok (.iaload, 1) := by decide +kernel
theorem dL_law_401 : decode code 401 = .ok (.invokevirtual 46, 3) := by decide +kernel
theorem dL_law_404 : decode code 404 = .ok (.if_icmp .eq 730, 3) := by decide +kernel
theorem dL_law_407 : decode code 407 = .ok (.iconst 0, 1) := by decide +kernel
theorem dL_law_408 : decode code 408 = .ok (.ireturn, 1) := by decide +kernel
theorem dL_law_409 : decode code 409 = .ok (.aload_n 1, 1) := by decide +kernel
theorem dL_law_410 : decode code 410 = .ok (.aload_n 0, 1) := by decide +kernel
theorem dL_law_411 : decode code 411 = .ok (.iload_n 3, 1) := by decide +kernel
theorem dL_law_412 : decode code 412 = .ok (.iconst 1, 1) := by decide +kernel
theorem dL_law_413 : decode code 413 = .ok (.iadd, 1) := by decide +kernel
theorem dL_law_414 : decode code 414 = .ok (.iaload, 1) := by decide +kernel
theorem dL_law_415 : decode code 415 = .ok (.aload_n 0, 1) := by decide +kernel
theorem dL_law_416 : decode code 416 = .ok (.iload_n 3, 1) := by decide +kernel
theorem dL_law_417 : decode code 417 = .ok (.iconst 2, 1) := by decide +kernel
theorem dL_law_418 : decode code 418 = .ok (.iadd, 1) := by decide +kernel
theorem dL_law_419 : decode code 419 = .ok (.iaload, 1) := by decide +kernel
theorem dL_law_420 : decode code 420 = .ok (.invokevirtual 47, 3) := by decide +kernel
theorem dL_law_423 : decode code 423 = .ok (.aload_n 2, 1) := by decide +kernel
theorem dL_law_424 : decode code 424 = .ok (.aload_n 0, 1) := by decide +kernel
theorem dL_law_425 : decode code 425 = .ok (.iload_n 3, 1) := by decide +kernel
theorem dL_law_426 : decode code 426 = .ok (.iconst 1, 1) := by decide +kernel
theorem dL_law_427 : decode code 427 = .ok (.iadd, 1) := by decide +kernel
theorem dL_law_428 : decode code 428 = .ok (.iaload, 1) := by decide +kernel
theorem dL_law_429 : decode code 429 = .ok (.aload_n 0, 1) := by decide +kernel
theorem dL_law_430 : decode code 430 = .ok (.iload_n 3, 1) := by decide +kernel
theorem dL_law_431 : decode code 431 = .ok (.iconst 2, 1) := by decide +kernel
theorem dL_law_432 : decode code 432 = .ok (.iadd, 1) := by decide +kernel
theorem dL_law_433 : decode code 433 = .ok (.iaload, 1) := by decide +kernel
theorem dL_law_434 : decode code 434 = .ok (.invokevirtual 50, 3) := by decide +kernel
theorem dL_law_437 : decode code 437 = .ok (.if_icmp .eq 697, 3) := by decide +kernel
theorem dL_law_440 : decode code 440 = .ok (.iconst 0, 1) := by decide +kernel
theorem dL_law_441 : decode code 441 = .ok (.ireturn, 1) := by decide +kernel
theorem dL_law_442 : decode code 442 = .ok (.aload_n 1, 1) := by decide +kernel
theorem dL_law_443 : decode code 443 = .ok (.aload_n 0, 1) := by decide +kernel
theorem dL_law_444 : decode code 444 = .ok (.iload_n 3, 1) := by decide +kernel
theorem dL_law_445 : decode code 445 = .ok (.iconst 1, 1) := by decide +kernel
theorem dL_law_446 : decode code 446 = .ok (.iadd, 1) := by decide +kernel
theorem dL_law_447 : decode code 447 = .ok (.iaload, 1) := by decide +kernel
theorem dL_law_448 : decode code 448 = .ok (.aload_n 0, 1) := by decide +kernel
theorem dL_law_449 : decode code 449 = .ok (.iload_n 3, 1) := by decide +kernel
theorem dL_law_450 : decode code 450 = .ok (.iconst 2, 1) := by decide +kernel
theorem dL_law_451 : decode code 451 = .ok (.iadd, 1) := by decide +kernel
theorem dL_law_452 : decode code 452 = .ok (.iaload, 1) := by decide +kernel
theorem dL_law_453 : decode code 453 = .ok (.invokevirtual 51, 3) := by decide +kernel
theorem dL_law_456 : decode code 456 = .ok (.aload_n 2, 1) := by decide +kernel
theorem dL_law_457 : decode code 457 = .ok (.aload_n 0, 1) := by decide +kernel
theorem dL_law_458 : decode code 458 = .ok (.iload_n 3, 1) := by decide +kernel
theorem dL_law_459 : decode code 459 = .ok (.iconst 1, 1) := by decide +kernel
theorem dL_law_460 : decode code 460 = .ok (.iadd, 1) := by decide +kernel
theorem dL_law_461 : decode code 461 = .ok (.iaload, 1) := by decide +kernel
theorem dL_law_462 : decode code 462 = .ok (.aload_n 0, 1) := by decide +kernel
theorem dL_law_463 : decode code 463 = .ok (.iload_n 3, 1) := by decide +kernel
theorem dL_law_464 : decode code 464 = .ok (.iconst 2, 1) := by decide +kernel
theorem dL_law_465 : decode code 465 = .ok (.iadd, 1) := by decide +kernel
theorem dL_law_466 : decode code 466 = .ok (.iaload, 1) := by decide +kernel
theorem dL_law_467 : decode code 467 = .ok (.invokevirtual 54, 3) := by decide +kernel
theorem dL_law_470 : decode code 470 = .ok (.if_icmp .eq 664, 3) := by decide +kernel
theorem dL_law_473 : decode code 473 = .ok (.iconst 0, 1) := by decide +kernel
theorem dL_law_474 : decode code 474 = .ok (.ireturn, 1) := by decide +kernel
theorem dL_law_475 : decode code 475 = .ok (.aload_n 1, 1) := by decide +kernel
theorem dL_law_476 : decode code 476 = .ok (.aload_n 0, 1) := by decide +kernel
theorem dL_law_477 : decode code 477 = .ok (.iload_n 3, 1) := by decide +kernel
theorem dL_law_478 : decode code 478 = .ok (.iconst 1, 1) := by decide +kernel
theorem dL_law_479 : decode code 479 = .ok (.iadd, 1) := by decide +kernel
theorem dL_law_480 : decode code 480 = .ok (.iaload, 1) := by decide +kernel
theorem dL_law_481 : decode code 481 = .ok (.aload_n 0, 1) := by decide +kernel
theorem dL_law_482 : decode code 482 = .ok (.iload_n 3, 1) := by decide +kernel
theorem dL_law_483 : decode code 483 = .ok (.iconst 2, 1) := by decide +kernel
theorem dL_law_484 : decode code 484 = .ok (.iadd, 1) := by decide +kernel
theorem dL_law_485 : decode code 485 = .ok (.iaload, 1) := by decide +kernel
theorem dL_law_486 : decode code 486 = .ok (.invokevirtual 55, 3) := by decide +kernel
theorem dL_law_489 : decode code 489 = .ok (.aload_n 2, 1) := by decide +kernel
theorem dL_law_490 : decode code 490 = .ok (.aload_n 0, 1) := by decide +kernel
theorem dL_law_491 : decode code 491 = .ok (.iload_n 3, 1) := by decide +kernel
theorem dL_law_492 : decode code 492 = .ok (.iconst 1, 1) := by decide +kernel
theorem dL_law_493 : decode code 493 = .ok (.iadd, 1) := by decide +kernel
theorem dL_law_494 : decode code 494 = .ok (.iaload, 1) := by decide +kernel
theorem dL_law_495 : decode code 495 = .ok (.aload_n 0, 1) := by decide +kernel
theorem dL_law_496 : decode code 496 = .ok (.iload_n 3, 1) := by decide +kernel
theorem dL_law_497 : decode code 497 = .ok (.iconst 2, 1) := by decide +kernel
theorem dL_law_498 : decode code 498 = .ok (.iadd, 1) := by decide +kernel
theorem dL_law_499 : decode code 499 = .ok (.iaload, 1) := by decide +kernel
theorem dL_law_500 : decode code 500 = .ok (.invokevirtual 59, 3) := by decide +kernel
theorem dL_law_503 : decode code 503 = .ok (.lcmp, 1) := by decide +kernel
theorem dL_law_504 : decode code 504 = .ok (.ifCond .eq 630, 3) := by decide +kernel
theorem dL_law_507 : decode code 507 = .ok (.iconst 0, 1) := by decide +kernel
theorem dL_law_508 : decode code 508 = .ok (.ireturn, 1) := by decide +kernel
theorem dL_law_509 : decode code 509 = .ok (.aload_n 1, 1) := by decide +kernel
theorem dL_law_510 : decode code 510 = .ok (.aload_n 0, 1) := by decide +kernel
theorem dL_law_511 : decode code 511 = .ok (.iload_n 3, 1) := by decide +kernel
theorem dL_law_512 : decode code 512 = .ok (.iconst 1, 1) := by decide +kernel
theorem dL_law_513 : decode code 513 = .ok (.iadd, 1) := by decide +kernel
theorem dL_law_514 : decode code 514 = .ok (.iaload, 1) := by decide +kernel
theorem dL_law_515 : decode code 515 = .ok (.aload_n 0, 1) := by decide +kernel
theorem dL_law_516 : decode code 516 = .ok (.iload_n 3, 1) := by decide +kernel
theorem dL_law_517 : decode code 517 = .ok (.iconst 2, 1) := by decide +kernel
theorem dL_law_518 : decode code 518 = .ok (.iadd, 1) := by decide +kernel
theorem dL_law_519 : decode code 519 = .ok (.iaload, 1) := by decide +kernel
theorem dL_law_520 : decode code 520 = .ok (.aload_n 0, 1) := by decide +kernel
theorem dL_law_521 : decode code 521 = .ok (.iload_n 3, 1) := by decide +kernel
theorem dL_law_522 : decode code 522 = .ok (.iconst 3, 1) := by decide +kernel
theorem dL_law_523 : decode code 523 = .ok (.iadd, 1) := by decide +kernel
theorem dL_law_524 : decode code 524 = .ok (.iaload, 1) := by decide +kernel
theorem dL_law_525 : decode code 525 = .ok (.invokevirtual 60, 3) := by decide +kernel
theorem dL_law_528 : decode code 528 = .ok (.aload_n 2, 1) := by decide +kernel
theorem dL_law_529 : decode code 529 = .ok (.aload_n 0, 1) := by decide +kernel
theorem dL_law_530 : decode code 530 = .ok (.iload_n 3, 1) := by decide +kernel
theorem dL_law_531 : decode code 531 = .ok (.iconst 1, 1) := by decide +kernel
theorem dL_law_532 : decode code 532 = .ok (.iadd, 1) := by decide +kernel
theorem dL_law_533 : decode code 533 = .ok (.iaload, 1) := by decide +kernel
theorem dL_law_534 : decode code 534 = .ok (.aload_n 0, 1) := by decide +kernel
theorem dL_law_535 : decode code 535 = .ok (.iload_n 3, 1) := by decide +kernel
theorem dL_law_536 : decode code 536 = .ok (.iconst 2, 1) := by decide +kernel
theorem dL_law_537 : decode code 537 = .ok (.iadd, 1) := by decide +kernel
theorem dL_law_538 : decode code 538 = .ok (.iaload, 1) := by decide +kernel
theorem dL_law_539 : decode code 539 = .ok (.aload_n 0, 1) := by decide +kernel
theorem dL_law_540 : decode code 540 = .ok (.iload_n 3, 1) := by decide +kernel
theorem dL_law_541 : decode code 541 = .ok (.iconst 3, 1) := by decide +kernel
theorem dL_law_542 : decode code 542 = .ok (.iadd, 1) := by decide +kernel
theorem dL_law_543 : decode code 543 = .ok (.iaload, 1) := by decide +kernel
theorem dL_law_544 : decode code 544 = .ok (.invokevirtual 63, 3) := by decide +kernel
theorem dL_law_547 : decode code 547 = .ok (.if_icmp .eq 587, 3) := by decide +kernel
theorem dL_law_550 : decode code 550 = .ok (.iconst 0, 1) := by decide +kernel
theorem dL_law_551 : decode code 551 = .ok (.ireturn, 1) := by decide +kernel
theorem dL_law_552 : decode code 552 = .ok (.aload_n 1, 1) := by decide +kernel
theorem dL_law_553 : decode code 553 = .ok (.aload_n 0, 1) := by decide +kernel
theorem dL_law_554 : decode code 554 = .ok (.iload_n 3, 1) := by decide +kernel
theorem dL_law_555 : decode code 555 = .ok (.iconst 1, 1) := by decide +kernel
theorem dL_law_556 : decode code 556 = .ok (.iadd, 1) := by decide +kernel
theorem dL_law_557 : decode code 557 = .ok (.iaload, 1) := by decide +kernel
theorem dL_law_558 : decode code 558 = .ok (.invokevirtual 64, 3) := by decide +kernel
theorem dL_law_561 : decode code 561 = .ok (.aload_n 2, 1) := by decide +kernel
theorem dL_law_562 : decode code 562 = .ok (.aload_n 0, 1) := by decide +kernel
theorem dL_law_563 : decode code 563 = .ok (.iload_n 3, 1) := by decide +kernel
theorem dL_law_564 : decode code 564 = .ok (.iconst 1, 1) := by decide +kernel
theorem dL_law_565 : decode code 565 = .ok (.iadd, 1) := by decide +kernel
theorem dL_law_566 : decode code 566 = .ok (.iaload, 1) := by decide +kernel
theorem dL_law_567 : decode code 567 = .ok (.invokevirtual 67, 3) := by decide +kernel
theorem dL_law_570 : decode code 570 = .ok (.if_icmp .eq 564, 3) := by decide +kernel
theorem dL_law_573 : decode code 573 = .ok (.iconst 0, 1) := by decide +kernel
theorem dL_law_574 : decode code 574 = .ok (.ireturn, 1) := by decide +kernel
theorem dL_law_575 : decode code 575 = .ok (.aload_n 1, 1) := by decide +kernel
theorem dL_law_576 : decode code 576 = .ok (.aload_n 0, 1) := by decide +kernel
theorem dL_law_577 : decode code 577 = .ok (.iload_n 3, 1) := by decide +kernel
theorem dL_law_578 : decode code 578 = .ok (.iconst 1, 1) := by decide +kernel
theorem dL_law_579 : decode code 579 = .ok (.iadd, 1) := by decide +kernel
theorem dL_law_580 : decode code 580 = .ok (.iaload, 1) := by decide +kernel
theorem dL_law_581 : decode code 581 = .ok (.invokevirtual 68, 3) := by decide +kernel
theorem dL_law_584 : decode code 584 = .ok (.aload_n 2, 1) := by decide +kernel
theorem dL_law_585 : decode code 585 = .ok (.aload_n 0, 1) := by decide +kernel
theorem dL_law_586 : decode code 586 = .ok (.iload_n 3, 1) := by decide +kernel
theorem dL_law_587 : decode code 587 = .ok (.iconst 1, 1) := by decide +kernel
theorem dL_law_588 : decode code 588 = .ok (.iadd, 1) := by decide +kernel
theorem dL_law_589 : decode code 589 = .ok (.iaload, 1) := by decide +kernel
theorem dL_law_590 : decode code 590 = .ok (.invokevirtual 71, 3) := by decide +kernel
theorem dL_law_593 : decode code 593 = .ok (.if_icmp .eq 541, 3) := by decide +kernel
theorem dL_law_596 : decode code 596 = .ok (.iconst 0, 1) := by decide +kernel
theorem dL_law_597 : decode code 597 = .ok (.ireturn, 1) := by decide +kernel
theorem dL_law_598 : decode code 598 = .ok (.aload_n 1, 1) := by decide +kernel
theorem dL_law_599 : decode code 599 = .ok (.aload_n 0, 1) := by decide +kernel
theorem dL_law_600 : decode code 600 = .ok (.iload_n 3, 1) := by decide +kernel
theorem dL_law_601 : decode code 601 = .ok (.iconst 1, 1) := by decide +kernel
theorem dL_law_602 : decode code 602 = .ok (.iadd, 1) := by decide +kernel
theorem dL_law_603 : decode code 603 = .ok (.iaload, 1) := by decide +kernel
theorem dL_law_604 : decode code 604 = .ok (.invokevirtual 72, 3) := by decide +kernel
theorem dL_law_607 : decode code 607 = .ok (.aload_n 2, 1) := by decide +kernel
theorem dL_law_608 : decode code 608 = .ok (.aload_n 0, 1) := by decide +kernel
theorem dL_law_609 : decode code 609 = .ok (.iload_n 3, 1) := by decide +kernel
theorem dL_law_610 : decode code 610 = .ok (.iconst 1, 1) := by decide +kernel
theorem dL_law_611 : decode code 611 = .ok (.iadd, 1) := by decide +kernel
theorem dL_law_612 : decode code 612 = .ok (.iaload, 1) := by decide +kernel
theorem dL_law_613 : decode code 613 = .ok (.invokevirtual 75, 3) := by decide +kernel
theorem dL_law_616 : decode code 616 = .ok (.if_icmp .eq 518, 3) := by decide +kernel
theorem dL_law_619 : decode code 619 = .ok (.iconst 0, 1) := by decide +kernel
theorem dL_law_620 : decode code 620 = .ok (.ireturn, 1) := by decide +kernel
theorem dL_law_621 : decode code 621 = .ok (.aload_n 1, 1) := by decide +kernel
theorem dL_law_622 : decode code 622 = .ok (.aload_n 0, 1) := by decide +kernel
theorem dL_law_623 : decode code 623 = .ok (.iload_n 3, 1) := by decide +kernel
theorem dL_law_624 : decode code 624 = .ok (.iconst 1, 1) := by decide +kernel
theorem dL_law_625 : decode code 625 = .ok (.iadd, 1) := by decide +kernel
theorem dL_law_626 : decode code 626 = .ok (.iaload, 1) := by decide +kernel
theorem dL_law_627 : decode code 627 = .ok (.invokevirtual 76, 3) := by decide +kernel
theorem dL_law_630 : decode code 630 = .ok (.aload_n 2, 1) := by decide +kernel
theorem dL_law_631 : decode code 631 = .ok (.aload_n 0, 1) := by decide +kernel
theorem dL_law_632 : decode code 632 = .ok (.iload_n 3, 1) := by decide +kernel
theorem dL_law_633 : decode code 633 = .ok (.iconst 1, 1) := by decide +kernel
theorem dL_law_634 : decode code 634 = .ok (.iadd, 1) := by decide +kernel
theorem dL_law_635 : decode code 635 = .ok (.iaload, 1) := by decide +kernel
theorem dL_law_636 : decode code 636 = .ok (.invokevirtual 79, 3) := by decide +kernel
theorem dL_law_639 : decode code 639 = .ok (.if_icmp .eq 495, 3) := by decide +kernel
theorem dL_law_642 : decode code 642 = .ok (.iconst 0, 1) := by decide +kernel
theorem dL_law_643 : decode code 643 = .ok (.ireturn, 1) := by decide +kernel
theorem dL_law_644 : decode code 644 = .ok (.aload_n 1, 1) := by decide +kernel
theorem dL_law_645 : decode code 645 = .ok (.aload_n 0, 1) := by decide +kernel
theorem dL_law_646 : decode code 646 = .ok (.iload_n 3, 1) := by decide +kernel
theorem dL_law_647 : decode code 647 = .ok (.iconst 1, 1) := by decide +kernel
theorem dL_law_648 : decode code 648 = .ok (.iadd, 1) := by decide +kernel
theorem dL_law_649 : decode code 649 = .ok (.iaload, 1) := by decide +kernel
theorem dL_law_650 : decode code 650 = .ok (.aload_n 0, 1) := by decide +kernel
theorem dL_law_651 : decode code 651 = .ok (.iload_n 3, 1) := by decide +kernel
theorem dL_law_652 : decode code 652 = .ok (.iconst 2, 1) := by decide +kernel
theorem dL_law_653 : decode code 653 = .ok (.iadd, 1) := by decide +kernel
theorem dL_law_654 : decode code 654 = .ok (.iaload, 1) := by decide +kernel
theorem dL_law_655 : decode code 655 = .ok (.invokevirtual 80, 3) := by decide +kernel
theorem dL_law_658 : decode code 658 = .ok (.aload_n 2, 1) := by decide +kernel
theorem dL_law_659 : decode code 659 = .ok (.aload_n 0, 1) := by decide +kernel
theorem dL_law_660 : decode code 660 = .ok (.iload_n 3, 1) := by decide +kernel
theorem dL_law_661 : decode code 661 = .ok (.iconst 1, 1) := by decide +kernel
theorem dL_law_662 : decode code 662 = .ok (.iadd, 1) := by decide +kernel
theorem dL_law_663 : decode code 663 = .ok (.iaload, 1) := by decide +kernel
theorem dL_law_664 : decode code 664 = .ok (.aload_n 0, 1) := by decide +kernel
theorem dL_law_665 : decode code 665 = .ok (.iload_n 3, 1) := by decide +kernel
theorem dL_law_666 : decode code 666 = .ok (.iconst 2, 1) := by decide +kernel
theorem dL_law_667 : decode code 667 = .ok (.iadd, 1) := by decide +kernel
theorem dL_law_668 : decode code 668 = .ok (.iaload, 1) := by decide +kernel
theorem dL_law_669 : decode code 669 = .ok (.invokevirtual 83, 3) := by decide +kernel
theorem dL_law_672 : decode code 672 = .ok (.if_icmp .eq 462, 3) := by decide +kernel
theorem dL_law_675 : decode code 675 = .ok (.iconst 0, 1) := by decide +kernel
theorem dL_law_676 : decode code 676 = .ok (.ireturn, 1) := by decide +kernel
theorem dL_law_677 : decode code 677 = .ok (.aload_n 1, 1) := by decide +kernel
theorem dL_law_678 : decode code 678 = .ok (.aload_n 0, 1) := by decide +kernel
theorem dL_law_679 : decode code 679 = .ok (.iload_n 3, 1) := by decide +kernel
theorem dL_law_680 : decode code 680 = .ok (.iconst 1, 1) := by decide +kernel
theorem dL_law_681 : decode code 681 = .ok (.iadd, 1) := by decide +kernel
theorem dL_law_682 : decode code 682 = .ok (.iaload, 1) := by decide +kernel
theorem dL_law_683 : decode code 683 = .ok (.aload_n 0, 1) := by decide +kernel
theorem dL_law_684 : decode code 684 = .ok (.iload_n 3, 1) := by decide +kernel
theorem dL_law_685 : decode code 685 = .ok (.iconst 2, 1) := by decide +kernel
theorem dL_law_686 : decode code 686 = .ok (.iadd, 1) := by decide +kernel
theorem dL_law_687 : decode code 687 = .ok (.iaload, 1) := by decide +kernel
theorem dL_law_688 : decode code 688 = .ok (.aload_n 0, 1) := by decide +kernel
theorem dL_law_689 : decode code 689 = .ok (.iload_n 3, 1) := by decide +kernel
theorem dL_law_690 : decode code 690 = .ok (.iconst 3, 1) := by decide +kernel
theorem dL_law_691 : decode code 691 = .ok (.iadd, 1) := by decide +kernel
theorem dL_law_692 : decode code 692 = .ok (.iaload, 1) := by decide +kernel
theorem dL_law_693 : decode code 693 = .ok (.invokevirtual 84, 3) := by decide +kernel
theorem dL_law_696 : decode code 696 = .ok (.aload_n 2, 1) := by decide +kernel
theorem dL_law_697 : decode code 697 = .ok (.aload_n 0, 1) := by decide +kernel
theorem dL_law_698 : decode code 698 = .ok (.iload_n 3, 1) := by decide +kernel
theorem dL_law_699 : decode code 699 = .ok (.iconst 1, 1) := by decide +kernel
theorem dL_law_700 : decode code 700 = .ok (.iadd, 1) := by decide +kernel
theorem dL_law_701 : decode code 701 = .ok (.iaload, 1) := by decide +kernel
theorem dL_law_702 : decode code 702 = .ok (.aload_n 0, 1) := by decide +kernel
theorem dL_law_703 : decode code 703 = .ok (.iload_n 3, 1) := by decide +kernel
theorem dL_law_704 : decode code 704 = .ok (.iconst 2, 1) := by decide +kernel
theorem dL_law_705 : decode code 705 = .ok (.iadd, 1) := by decide +kernel
theorem dL_law_706 : decode code 706 = .ok (.iaload, 1) := by decide +kernel
theorem dL_law_707 : decode code 707 = .ok (.aload_n 0, 1) := by decide +kernel
theorem dL_law_708 : decode code 708 = .ok (.iload_n 3, 1) := by decide +kernel
theorem dL_law_709 : decode code 709 = .ok (.iconst 3, 1) := by decide +kernel
theorem dL_law_710 : decode code 710 = .ok (.iadd, 1) := by decide +kernel
theorem dL_law_711 : decode code 711 = .ok (.iaload, 1) := by decide +kernel
theorem dL_law_712 : decode code 712 = .ok (.invokevirtual 87, 3) := by decide +kernel
theorem dL_law_715 : decode code 715 = .ok (.if_icmp .eq 419, 3) := by decide +kernel
theorem dL_law_718 : decode code 718 = .ok (.iconst 0, 1) := by decide +kernel
theorem dL_law_719 : decode code 719 = .ok (.ireturn, 1) := by decide +kernel
theorem dL_law_720 : decode code 720 = .ok (.aload_n 1, 1) := by decide +kernel
theorem dL_law_721 : decode code 721 = .ok (.aload_n 0, 1) := by decide +kernel
theorem dL_law_722 : decode code 722 = .ok (.iload_n 3, 1) := by decide +kernel
theorem dL_law_723 : decode code 723 = .ok (.iconst 1, 1) := by decide +kernel
theorem dL_law_724 : decode code 724 = .ok (.iadd, 1) := by decide +kernel
theorem dL_law_725 : decode code 725 = .ok (.iaload, 1) := by decide +kernel
theorem dL_law_726 : decode code 726 = .ok (.invokevirtual 88, 3) := by decide +kernel
theorem dL_law_729 : decode code 729 = .ok (.aload_n 2, 1) := by decide +kernel
theorem dL_law_730 : decode code 730 = .ok (.aload_n 0, 1) := by decide +kernel
theorem dL_law_731 : decode code 731 = .ok (.iload_n 3, 1) := by decide +kernel
theorem dL_law_732 : decode code 732 = .ok (.iconst 1, 1) := by decide +kernel
theorem dL_law_733 : decode code 733 = .ok (.iadd, 1) := by decide +kernel
theorem dL_law_734 : decode code 734 = .ok (.iaload, 1) := by decide +kernel
theorem dL_law_735 : decode code 735 = .ok (.invokevirtual 91, 3) := by decide +kernel
theorem dL_law_738 : decode code 738 = .ok (.if_icmp .eq 396, 3) := by decide +kernel
theorem dL_law_741 : decode code 741 = .ok (.iconst 0, 1) := by decide +kernel
theorem dL_law_742 : decode code 742 = .ok (.ireturn, 1) := by decide +kernel
theorem dL_law_743 : decode code 743 = .ok (.aload_n 1, 1) := by decide +kernel
theorem dL_law_744 : decode code 744 = .ok (.aload_n 0, 1) := by decide +kernel
theorem dL_law_745 : decode code 745 = .ok (.iload_n 3, 1) := by decide +kernel
theorem dL_law_746 : decode code 746 = .ok (.iconst 1, 1) := by decide +kernel
theorem dL_law_747 : decode code 747 = .ok (.iadd, 1) := by decide +kernel
theorem dL_law_748 : decode code 748 = .ok (.iaload, 1) := by decide +kernel
theorem dL_law_749 : decode code 749 = .ok (.invokevirtual 92, 3) := by decide +kernel
theorem dL_law_752 : decode code 752 = .ok (.aload_n 2, 1) := by decide +kernel
theorem dL_law_753 : decode code 753 = .ok (.aload_n 0, 1) := by decide +kernel
theorem dL_law_754 : decode code 754 = .ok (.iload_n 3, 1) := by decide +kernel
theorem dL_law_755 : decode code 755 = .ok (.iconst 1, 1) := by decide +kernel
theorem dL_law_756 : decode code 756 = .ok (.iadd, 1) := by decide +kernel
theorem dL_law_757 : decode code 757 = .ok (.iaload, 1) := by decide +kernel
theorem dL_law_758 : decode code 758 = .ok (.invokevirtual 95, 3) := by decide +kernel
theorem dL_law_761 : decode code 761 = .ok (.if_icmp .eq 373, 3) := by decide +kernel
theorem dL_law_764 : decode code 764 = .ok (.iconst 0, 1) := by decide +kernel
theorem dL_law_765 : decode code 765 = .ok (.ireturn, 1) := by decide +kernel
theorem dL_law_766 : decode code 766 = .ok (.aload_n 1, 1) := by decide +kernel
theorem dL_law_767 : decode code 767 = .ok (.invokevirtual 96, 3) := by decide +kernel
theorem dL_law_770 : decode code 770 = .ok (.aload_n 2, 1) := by decide +kernel
theorem dL_law_771 : decode code 771 = .ok (.invokevirtual 99, 3) := by decide +kernel
theorem dL_law_774 : decode code 774 = .ok (.if_icmp .eq 360, 3) := by decide +kernel
theorem dL_law_777 : decode code 777 = .ok (.iconst 0, 1) := by decide +kernel
theorem dL_law_778 : decode code 778 = .ok (.ireturn, 1) := by decide +kernel
theorem dL_law_779 : decode code 779 = .ok (.aload_n 1, 1) := by decide +kernel
theorem dL_law_780 : decode code 780 = .ok (.aload_n 0, 1) := by decide +kernel
theorem dL_law_781 : decode code 781 = .ok (.iload_n 3, 1) := by decide +kernel
theorem dL_law_782 : decode code 782 = .ok (.iconst 1, 1) := by decide +kernel
theorem dL_law_783 : decode code 783 = .ok (.iadd, 1) := by decide +kernel
theorem dL_law_784 : decode code 784 = .ok (.iaload, 1) := by decide +kernel
theorem dL_law_785 : decode code 785 = .ok (.invokevirtual 100, 3) := by decide +kernel
theorem dL_law_788 : decode code 788 = .ok (.aload_n 2, 1) := by decide +kernel
theorem dL_law_789 : decode code 789 = .ok (.aload_n 0, 1) := by decide +kernel
theorem dL_law_790 : decode code 790 = .ok (.iload_n 3, 1) := by decide +kernel
theorem dL_law_791 : decode code 791 = .ok (.iconst 1, 1) := by decide +kernel
theorem dL_law_792 : decode code 792 = .ok (.iadd, 1) := by decide +kernel
theorem dL_law_793 : decode code 793 = .ok (.iaload, 1) := by decide +kernel
theorem dL_law_794 : decode code 794 = .ok (.invokevirtual 103, 3) := by decide +kernel
theorem dL_law_797 : decode code 797 = .ok (.if_icmp .eq 337, 3) := by decide +kernel
theorem dL_law_800 : decode code 800 = .ok (.iconst 0, 1) := by decide +kernel
theorem dL_law_801 : decode code 801 = .ok (.ireturn, 1) := by decide +kernel
theorem dL_law_802 : decode code 802 = .ok (.aload_n 1, 1) := by decide +kernel
theorem dL_law_803 : decode code 803 = .ok (.aload_n 0, 1) := by decide +kernel
theorem dL_law_804 : decode code 804 = .ok (.iload_n 3, 1) := by decide +kernel
theorem dL_law_805 : decode code 805 = .ok (.iconst 1, 1) := by decide +kernel
theorem dL_law_806 : decode code 806 = .ok (.iadd, 1) := by decide +kernel
theorem dL_law_807 : decode code 807 = .ok (.iaload, 1) := by decide +kernel
theorem dL_law_808 : decode code 808 = .ok (.aload_n 0, 1) := by decide +kernel
theorem dL_law_809 : decode code 809 = .ok (.iload_n 3, 1) := by decide +kernel
theorem dL_law_810 : decode code 810 = .ok (.iconst 2, 1) := by decide +kernel
theorem dL_law_811 : decode code 811 = .ok (.iadd, 1) := by decide +kernel
theorem dL_law_812 : decode code 812 = .ok (.iaload, 1) := by decide +kernel
theorem dL_law_813 : decode code 813 = .ok (.invokevirtual 104, 3) := by decide +kernel
theorem dL_law_816 : decode code 816 = .ok (.aload_n 2, 1) := by decide +kernel
theorem dL_law_817 : decode code 817 = .ok (.aload_n 0, 1) := by decide +kernel
theorem dL_law_818 : decode code 818 = .ok (.iload_n 3, 1) := by decide +kernel
theorem dL_law_819 : decode code 819 = .ok (.iconst 1, 1) := by decide +kernel
theorem dL_law_820 : decode code 820 = .ok (.iadd, 1) := by decide +kernel
theorem dL_law_821 : decode code 821 = .ok (.iaload, 1) := by decide +kernel
theorem dL_law_822 : decode code 822 = .ok (.aload_n 0, 1) := by decide +kernel
theorem dL_law_823 : decode code 823 = .ok (.iload_n 3, 1) := by decide +kernel
theorem dL_law_824 : decode code 824 = .ok (.iconst 2, 1) := by decide +kernel
theorem dL_law_825 : decode code 825 = .ok (.iadd, 1) := by decide +kernel
theorem dL_law_826 : decode code 826 = .ok (.iaload, 1) := by decide +kernel
theorem dL_law_827 : decode code 827 = .ok (.invokevirtual 107, 3) := by decide +kernel
theorem dL_law_830 : decode code 830 = .ok (.if_icmp .eq 304, 3) := by decide +kernel
theorem dL_law_833 : decode code 833 = .ok (.iconst 0, 1) := by decide +kernel
theorem dL_law_834 : decode code 834 = .ok (.ireturn, 1) := by decide +kernel
theorem dL_law_835 : decode code 835 = .ok (.aload_n 1, 1) := by decide +kernel
theorem dL_law_836 : decode code 836 = .ok (.aload_n 0, 1) := by decide +kernel
theorem dL_law_837 : decode code 837 = .ok (.iload_n 3, 1) := by decide +kernel
theorem dL_law_838 : decode code 838 = .ok (.iconst 1, 1) := by decide +kernel
theorem dL_law_839 : decode code 839 = .ok (.iadd, 1) := by decide +kernel
theorem dL_law_840 : decode code 840 = .ok (.iaload, 1) := by decide +kernel
theorem dL_law_841 : decode code 841 = .ok (.invokevirtual 108, 3) := by decide +kernel
theorem dL_law_844 : decode code 844 = .ok (.aload_n 2, 1) := by decide +kernel
theorem dL_law_845 : decode code 845 = .ok (.aload_n 0, 1) := by decide +kernel
theorem dL_law_846 : decode code 846 = .ok (.iload_n 3, 1) := by decide +kernel
theorem dL_law_847 : decode code 847 = .ok (.iconst 1, 1) := by decide +kernel
theorem dL_law_848 : decode code 848 = .ok (.iadd, 1) := by decide +kernel
theorem dL_law_849 : decode code 849 = .ok (.iaload, 1) := by decide +kernel
theorem dL_law_850 : decode code 850 = .ok (.invokevirtual 111, 3) := by decide +kernel
theorem dL_law_853 : decode code 853 = .ok (.if_icmp .eq 281, 3) := by decide +kernel
theorem dL_law_856 : decode code 856 = .ok (.iconst 0, 1) := by decide +kernel
theorem dL_law_857 : decode code 857 = .ok (.ireturn, 1) := by decide +kernel
theorem dL_law_858 : decode code 858 = .ok (.aload_n 1, 1) := by decide +kernel
theorem dL_law_859 : decode code 859 = .ok (.aload_n 0, 1) := by decide +kernel
theorem dL_law_860 : decode code 860 = .ok (.iload_n 3, 1) := by decide +kernel
theorem dL_law_861 : decode code 861 = .ok (.iconst 1, 1) := by decide +kernel
theorem dL_law_862 : decode code 862 = .ok (.iadd, 1) := by decide +kernel
theorem dL_law_863 : decode code 863 = .ok (.iaload, 1) := by decide +kernel
theorem dL_law_864 : decode code 864 = .ok (.invokevirtual 112, 3) := by decide +kernel
theorem dL_law_867 : decode code 867 = .ok (.aload_n 2, 1) := by decide +kernel
theorem dL_law_868 : decode code 868 = .ok (.aload_n 0, 1) := by decide +kernel
theorem dL_law_869 : decode code 869 = .ok (.iload_n 3, 1) := by decide +kernel
theorem dL_law_870 : decode code 870 = .ok (.iconst 1, 1) := by decide +kernel
theorem dL_law_871 : decode code 871 = .ok (.iadd, 1) := by decide +kernel
theorem dL_law_872 : decode code 872 = .ok (.iaload, 1) := by decide +kernel
theorem dL_law_873 : decode code 873 = .ok (.invokevirtual 115, 3) := by decide +kernel
theorem dL_law_876 : decode code 876 = .ok (.if_icmp .eq 258, 3) := by decide +kernel
theorem dL_law_879 : decode code 879 = .ok (.iconst 0, 1) := by decide +kernel
theorem dL_law_880 : decode code 880 = .ok (.ireturn, 1) := by decide +kernel
theorem dL_law_881 : decode code 881 = .ok (.aload_n 1, 1) := by decide +kernel
theorem dL_law_882 : decode code 882 = .ok (.aload_n 0, 1) := by decide +kernel
theorem dL_law_883 : decode code 883 = .ok (.iload_n 3, 1) := by decide +kernel
theorem dL_law_884 : decode code 884 = .ok (.iconst 1, 1) := by decide +kernel
theorem dL_law_885 : decode code 885 = .ok (.iadd, 1) := by decide +kernel
theorem dL_law_886 : decode code 886 = .ok (.iaload, 1) := by decide +kernel
theorem dL_law_887 : decode code 887 = .ok (.invokevirtual 116, 3) := by decide +kernel
theorem dL_law_890 : decode code 890 = .ok (.aload_n 2, 1) := by decide +kernel
theorem dL_law_891 : decode code 891 = .ok (.aload_n 0, 1) := by decide +kernel
theorem dL_law_892 : decode code 892 = .ok (.iload_n 3, 1) := by decide +kernel
theorem dL_law_893 : decode code 893 = .ok (.iconst 1, 1) := by decide +kernel
theorem dL_law_894 : decode code 894 = .ok (.iadd, 1) := by decide +kernel
theorem dL_law_895 : decode code 895 = .ok (.iaload, 1) := by decide +kernel
theorem dL_law_896 : decode code 896 = .ok (.invokevirtual 119, 3) := by decide +kernel
theorem dL_law_899 : decode code 899 = .ok (.if_icmp .eq 235, 3) := by decide +kernel
theorem dL_law_902 : decode code 902 = .ok (.iconst 0, 1) := by decide +kernel
theorem dL_law_903 : decode code 903 = .ok (.ireturn, 1) := by decide +kernel
theorem dL_law_904 : decode code 904 = .ok (.aload_n 1, 1) := by decide +kernel
theorem dL_law_905 : decode code 905 = .ok (.aload_n 0, 1) := by decide +kernel
theorem dL_law_906 : decode code 906 = .ok (.iload_n 3, 1) := by decide +kernel
theorem dL_law_907 : decode code 907 = .ok (.iconst 1, 1) := by decide +kernel
theorem dL_law_908 : decode code 908 = .ok (.iadd, 1) := by decide +kernel
theorem dL_law_909 : decode code 909 = .ok (.iaload, 1) := by decide +kernel
theorem dL_law_910 : decode code 910 = .ok (.invokevirtual 120, 3) := by decide +kernel
theorem dL_law_913 : decode code 913 = .ok (.aload_n 2, 1) := by decide +kernel
theorem dL_law_914 : decode code 914 = .ok (.aload_n 0, 1) := by decide +kernel
theorem dL_law_915 : decode code 915 = .ok (.iload_n 3, 1) := by decide +kernel
theorem dL_law_916 : decode code 916 = .ok (.iconst 1, 1) := by decide +kernel
theorem dL_law_917 : decode code 917 = .ok (.iadd, 1) := by decide +kernel
theorem dL_law_918 : decode code 918 = .ok (.iaload, 1) := by decide +kernel
theorem dL_law_919 : decode code 919 = .ok (.invokevirtual 123, 3) := by decide +kernel
theorem dL_law_922 : decode code 922 = .ok (.if_icmp .eq 212, 3) := by decide +kernel
theorem dL_law_925 : decode code 925 = .ok (.iconst 0, 1) := by decide +kernel
theorem dL_law_926 : decode code 926 = .ok (.ireturn, 1) := by decide +kernel
theorem dL_law_927 : decode code 927 = .ok (.aload_n 1, 1) := by decide +kernel
theorem dL_law_928 : decode code 928 = .ok (.aload_n 0, 1) := by decide +kernel
theorem dL_law_929 : decode code 929 = .ok (.iload_n 3, 1) := by decide +kernel
theorem dL_law_930 : decode code 930 = .ok (.iconst 1, 1) := by decide +kernel
theorem dL_law_931 : decode code 931 = .ok (.iadd, 1) := by decide +kernel
theorem dL_law_932 : decode code 932 = .ok (.iaload, 1) := by decide +kernel
theorem dL_law_933 : decode code 933 = .ok (.aload_n 0, 1) := by decide +kernel
theorem dL_law_934 : decode code 934 = .ok (.iload_n 3, 1) := by decide +kernel
theorem dL_law_935 : decode code 935 = .ok (.iconst 2, 1) := by decide +kernel
theorem dL_law_936 : decode code 936 = .ok (.iadd, 1) := by decide +kernel
theorem dL_law_937 : decode code 937 = .ok (.iaload, 1) := by decide +kernel
theorem dL_law_938 : decode code 938 = .ok (.invokevirtual 124, 3) := by decide +kernel
theorem dL_law_941 : decode code 941 = .ok (.aload_n 2, 1) := by decide +kernel
theorem dL_law_942 : decode code 942 = .ok (.aload_n 0, 1) := by decide +kernel
theorem dL_law_943 : decode code 943 = .ok (.iload_n 3, 1) := by decide +kernel
theorem dL_law_944 : decode code 944 = .ok (.iconst 1, 1) := by decide +kernel
theorem dL_law_945 : decode code 945 = .ok (.iadd, 1) := by decide +kernel
theorem dL_law_946 : decode code 946 = .ok (.iaload, 1) := by decide +kernel
theorem dL_law_947 : decode code 947 = .ok (.aload_n 0, 1) := by decide +kernel
theorem dL_law_948 : decode code 948 = .ok (.iload_n 3, 1) := by decide +kernel
theorem dL_law_949 : decode code 949 = .ok (.iconst 2, 1) := by decide +kernel
theorem dL_law_950 : decode code 950 = .ok (.iadd, 1) := by decide +kernel
theorem dL_law_951 : decode code 951 = .ok (.iaload, 1) := by decide +kernel
theorem dL_law_952 : decode code 952 = .ok (.invokevirtual 128, 3) := by decide +kernel
theorem dL_law_955 : decode code 955 = .ok (.if_icmp .eq 179, 3) := by decide +kernel
theorem dL_law_958 : decode code 958 = .ok (.iconst 0, 1) := by decide +kernel
theorem dL_law_959 : decode code 959 = .ok (.ireturn, 1) := by decide +kernel
theorem dL_law_960 : decode code 960 = .ok (.aload_n 1, 1) := by decide +kernel
theorem dL_law_961 : decode code 961 = .ok (.aload_n 0, 1) := by decide +kernel
theorem dL_law_962 : decode code 962 = .ok (.iload_n 3, 1) := by decide +kernel
theorem dL_law_963 : decode code 963 = .ok (.iconst 1, 1) := by decide +kernel
theorem dL_law_964 : decode code 964 = .ok (.iadd, 1) := by decide +kernel
theorem dL_law_965 : decode code 965 = .ok (.iaload, 1) := by decide +kernel
theorem dL_law_966 : decode code 966 = .ok (.aload_n 0, 1) := by decide +kernel
theorem dL_law_967 : decode code 967 = .ok (.iload_n 3, 1) := by decide +kernel
theorem dL_law_968 : decode code 968 = .ok (.iconst 2, 1) := by decide +kernel
theorem dL_law_969 : decode code 969 = .ok (.iadd, 1) := by decide +kernel
theorem dL_law_970 : decode code 970 = .ok (.iaload, 1) := by decide +kernel
theorem dL_law_971 : decode code 971 = .ok (.invokevirtual 129, 3) := by decide +kernel
theorem dL_law_974 : decode code 974 = .ok (.aload_n 2, 1) := by decide +kernel
theorem dL_law_975 : decode code 975 = .ok (.aload_n 0, 1) := by decide +kernel
theorem dL_law_976 : decode code 976 = .ok (.iload_n 3, 1) := by decide +kernel
theorem dL_law_977 : decode code 977 = .ok (.iconst 1, 1) := by decide +kernel
theorem dL_law_978 : decode code 978 = .ok (.iadd, 1) := by decide +kernel
theorem dL_law_979 : decode code 979 = .ok (.iaload, 1) := by decide +kernel
theorem dL_law_980 : decode code 980 = .ok (.aload_n 0, 1) := by decide +kernel
theorem dL_law_981 : decode code 981 = .ok (.iload_n 3, 1) := by decide +kernel
theorem dL_law_982 : decode code 982 = .ok (.iconst 2, 1) := by decide +kernel
theorem dL_law_983 : decode code 983 = .ok (.iadd, 1) := by decide +kernel
theorem dL_law_984 : decode code 984 = .ok (.iaload, 1) := by decide +kernel
theorem dL_law_985 : decode code 985 = .ok (.invokevirtual 132, 3) := by decide +kernel
theorem dL_law_988 : decode code 988 = .ok (.if_icmp .eq 146, 3) := by decide +kernel
theorem dL_law_991 : decode code 991 = .ok (.iconst 0, 1) := by decide +kernel
theorem dL_law_992 : decode code 992 = .ok (.ireturn, 1) := by decide +kernel
theorem dL_law_993 : decode code 993 = .ok (.aload_n 1, 1) := by decide +kernel
theorem dL_law_994 : decode code 994 = .ok (.invokevirtual 133, 3) := by decide +kernel
theorem dL_law_997 : decode code 997 = .ok (.aload_n 2, 1) := by decide +kernel
theorem dL_law_998 : decode code 998 = .ok (.invokevirtual 137, 3) := by decide +kernel
theorem dL_law_1001 : decode code 1001 = .ok (.if_icmp .eq 133, 3) := by decide +kernel
theorem dL_law_1004 : decode code 1004 = .ok (.iconst 0, 1) := by decide +kernel
theorem dL_law_1005 : decode code 1005 = .ok (.ireturn, 1) := by decide +kernel
theorem dL_law_1006 : decode code 1006 = .ok (.aload_n 1, 1) := by decide +kernel
theorem dL_law_1007 : decode code 1007 = .ok (.aload_n 0, 1) := by decide +kernel
theorem dL_law_1008 : decode code 1008 = .ok (.iload_n 3, 1) := by decide +kernel
theorem dL_law_1009 : decode code 1009 = .ok (.iconst 1, 1) := by decide +kernel
theorem dL_law_1010 : decode code 1010 = .ok (.iadd, 1) := by decide +kernel
theorem dL_law_1011 : decode code 1011 = .ok (.iaload, 1) := by decide +kernel
theorem dL_law_1012 : decode code 1012 = .ok (.invokevirtual 138, 3) := by decide +kernel
theorem dL_law_1015 : decode code 1015 = .ok (.aload_n 2, 1) := by decide +kernel
theorem dL_law_1016 : decode code 1016 = .ok (.aload_n 0, 1) := by decide +kernel
theorem dL_law_1017 : decode code 1017 = .ok (.iload_n 3, 1) := by decide +kernel
theorem dL_law_1018 : decode code 1018 = .ok (.iconst 1, 1) := by decide +kernel
theorem dL_law_1019 : decode code 1019 = .ok (.iadd, 1) := by decide +kernel
theorem dL_law_1020 : decode code 1020 = .ok (.iaload, 1) := by decide +kernel
theorem dL_law_1021 : decode code 1021 = .ok (.invokevirtual 141, 3) := by decide +kernel
theorem dL_law_1024 : decode code 1024 = .ok (.if_icmp .eq 110, 3) := by decide +kernel
theorem dL_law_1027 : decode code 1027 = .ok (.iconst 0, 1) := by decide +kernel
theorem dL_law_1028 : decode code 1028 = .ok (.ireturn, 1) := by decide +kernel
theorem dL_law_1029 : decode code 1029 = .ok (.aload_n 1, 1) := by decide +kernel
theorem dL_law_1030 : decode code 1030 = .ok (.aload_n 0, 1) := by decide +kernel
theorem dL_law_1031 : decode code 1031 = .ok (.iload_n 3, 1) := by decide +kernel
theorem dL_law_1032 : decode code 1032 = .ok (.iconst 1, 1) := by decide +kernel
theorem dL_law_1033 : decode code 1033 = .ok (.iadd, 1) := by decide +kernel
theorem dL_law_1034 : decode code 1034 = .ok (.iaload, 1) := by decide +kernel
theorem dL_law_1035 : decode code 1035 = .ok (.aload_n 0, 1) := by decide +kernel
theorem dL_law_1036 : decode code 1036 = .ok (.iload_n 3, 1) := by decide +kernel
theorem dL_law_1037 : decode code 1037 = .ok (.iconst 2, 1) := by decide +kernel
theorem dL_law_1038 : decode code 1038 = .ok (.iadd, 1) := by decide +kernel
theorem dL_law_1039 : decode code 1039 = .ok (.iaload, 1) := by decide +kernel
theorem dL_law_1040 : decode code 1040 = .ok (.invokevirtual 142, 3) := by decide +kernel
theorem dL_law_1043 : decode code 1043 = .ok (.aload_n 2, 1) := by decide +kernel
theorem dL_law_1044 : decode code 1044 = .ok (.aload_n 0, 1) := by decide +kernel
theorem dL_law_1045 : decode code 1045 = .ok (.iload_n 3, 1) := by decide +kernel
theorem dL_law_1046 : decode code 1046 = .ok (.iconst 1, 1) := by decide +kernel
theorem dL_law_1047 : decode code 1047 = .ok (.iadd, 1) := by decide +kernel
theorem dL_law_1048 : decode code 1048 = .ok (.iaload, 1) := by decide +kernel
theorem dL_law_1049 : decode code 1049 = .ok (.aload_n 0, 1) := by decide +kernel
theorem dL_law_1050 : decode code 1050 = .ok (.iload_n 3, 1) := by decide +kernel
theorem dL_law_1051 : decode code 1051 = .ok (.iconst 2, 1) := by decide +kernel
theorem dL_law_1052 : decode code 1052 = .ok (.iadd, 1) := by decide +kernel
theorem dL_law_1053 : decode code 1053 = .ok (.iaload, 1) := by decide +kernel
theorem dL_law_1054 : decode code 1054 = .ok (.invokevirtual 145, 3) := by decide +kernel
theorem dL_law_1057 : decode code 1057 = .ok (.if_icmp .eq 77, 3) := by decide +kernel
theorem dL_law_1060 : decode code 1060 = .ok (.iconst 0, 1) := by decide +kernel
theorem dL_law_1061 : decode code 1061 = .ok (.ireturn, 1) := by decide +kernel
theorem dL_law_1062 : decode code 1062 = .ok (.aload_n 1, 1) := by decide +kernel
theorem dL_law_1063 : decode code 1063 = .ok (.invokevirtual 146, 3) := by decide +kernel
theorem dL_law_1066 : decode code 1066 = .ok (.aload_n 2, 1) := by decide +kernel
theorem dL_law_1067 : decode code 1067 = .ok (.invokevirtual 149, 3) := by decide +kernel
theorem dL_law_1070 : decode code 1070 = .ok (.if_icmp .eq 64, 3) := by decide +kernel
theorem dL_law_1073 : decode code 1073 = .ok (.iconst 0, 1) := by decide +kernel
theorem dL_law_1074 : decode code 1074 = .ok (.ireturn, 1) := by decide +kernel
theorem dL_law_1075 : decode code 1075 = .ok (.aload_n 1, 1) := by decide +kernel
theorem dL_law_1076 : decode code 1076 = .ok (.aload_n 0, 1) := by decide +kernel
theorem dL_law_1077 : decode code 1077 = .ok (.iload_n 3, 1) := by decide +kernel
theorem dL_law_1078 : decode code 1078 = .ok (.iconst 1, 1) := by decide +kernel
theorem dL_law_1079 : decode code 1079 = .ok (.iadd, 1) := by decide +kernel
theorem dL_law_1080 : decode code 1080 = .ok (.iaload, 1) := by decide +kernel
theorem dL_law_1081 : decode code 1081 = .ok (.invokevirtual 150, 3) := by decide +kernel
theorem dL_law_1084 : decode code 1084 = .ok (.aload_n 2, 1) := by decide +kernel
theorem dL_law_1085 : decode code 1085 = .ok (.aload_n 0, 1) := by decide +kernel
theorem dL_law_1086 : decode code 1086 = .ok (.iload_n 3, 1) := by decide +kernel
theorem dL_law_1087 : decode code 1087 = .ok (.iconst 1, 1) := by decide +kernel
theorem dL_law_1088 : decode code 1088 = .ok (.iadd, 1) := by decide +kernel
theorem dL_law_1089 : decode code 1089 = .ok (.iaload, 1) := by decide +kernel
theorem dL_law_1090 : decode code 1090 = .ok (.invokevirtual 153, 3) := by decide +kernel
theorem dL_law_1093 : decode code 1093 = .ok (.if_icmp .eq 41, 3) := by decide +kernel
theorem dL_law_1096 : decode code 1096 = .ok (.iconst 0, 1) := by decide +kernel
theorem dL_law_1097 : decode code 1097 = .ok (.ireturn, 1) := by decide +kernel
theorem dL_law_1098 : decode code 1098 = .ok (.aload_n 1, 1) := by decide +kernel
theorem dL_law_1099 : decode code 1099 = .ok (.invokevirtual 154, 3) := by decide +kernel
theorem dL_law_1102 : decode code 1102 = .ok (.aload_n 2, 1) := by decide +kernel
theorem dL_law_1103 : decode code 1103 = .ok (.invokevirtual 157, 3) := by decide +kernel
theorem dL_law_1106 : decode code 1106 = .ok (.if_icmp .eq 28, 3) := by decide +kernel
theorem dL_law_1109 : decode code 1109 = .ok (.iconst 0, 1) := by decide +kernel
theorem dL_law_1110 : decode code 1110 = .ok (.ireturn, 1) := by decide +kernel
theorem dL_law_1111 : decode code 1111 = .ok (.aload_n 1, 1) := by decide +kernel
theorem dL_law_1112 : decode code 1112 = .ok (.aload_n 0, 1) := by decide +kernel
theorem dL_law_1113 : decode code 1113 = .ok (.iload_n 3, 1) := by decide +kernel
theorem dL_law_1114 : decode code 1114 = .ok (.iconst 1, 1) := by decide +kernel
theorem dL_law_1115 : decode code 1115 = .ok (.iadd, 1) := by decide +kernel
theorem dL_law_1116 : decode code 1116 = .ok (.iaload, 1) := by decide +kernel
theorem dL_law_1117 : decode code 1117 = .ok (.invokevirtual 158, 3) := by decide +kernel
theorem dL_law_1120 : decode code 1120 = .ok (.aload_n 2, 1) := by decide +kernel
theorem dL_law_1121 : decode code 1121 = .ok (.aload_n 0, 1) := by decide +kernel
theorem dL_law_1122 : decode code 1122 = .ok (.iload_n 3, 1) := by decide +kernel
theorem dL_law_1123 : decode code 1123 = .ok (.iconst 1, 1) := by decide +kernel
theorem dL_law_1124 : decode code 1124 = .ok (.iadd, 1) := by decide +kernel
theorem dL_law_1125 : decode code 1125 = .ok (.iaload, 1) := by decide +kernel
theorem dL_law_1126 : decode code 1126 = .ok (.invokevirtual 161, 3) := by decide +kernel
theorem dL_law_1129 : decode code 1129 = .ok (.if_icmp .eq 5, 3) := by decide +kernel
theorem dL_law_1132 : decode code 1132 = .ok (.iconst 0, 1) := by decide +kernel
theorem dL_law_1133 : decode code 1133 = .ok (.ireturn, 1) := by decide +kernel
theorem dL_law_1134 : decode code 1134 = .ok (.iinc 3 6, 3) := by decide +kernel
theorem dL_law_1137 : decode code 1137 = .ok (.goto (-1119), 3) := by decide +kernel
theorem dL_law_1140 : decode code 1140 = .ok (.iconst 1, 1) := by decide +kernel
theorem dL_law_1141 : decode code 1141 = .ok (.ireturn, 1) := by decide +kernel
theorem i32_of (x : Int32) : i32 x.toInt := ⟨by have := Int32.le_toInt x; omega, by have := Int32.toInt_lt x; omega⟩
theorem lcmp_0 {x y : Int} (h : w64 x = w64 y) : w32 (lcmp x y) = 0 := by
  unfold lcmp
  rw [if_neg (by omega), if_pos h]
  exact w32_0
theorem cl_RL_13 : CLV RL 13 yX11_feed cX11_feed 6 (some .int) 5 := ⟨gw 571 (by decide +kernel) (by decide +kernel), gw 572 (by decide +kernel) (by decide +kernel), gw 573 (by decide +kernel) (by decide +kernel), gw 123 (by decide +kernel) (by decide +kernel), gwc 574 (by decide +kernel) (by decide +kernel), ⟨by decide +kernel, by decide +kernel⟩, by decide +kernel⟩
theorem cl_RL_17 : CLV RL 17 yX12_feed cX12_feed 6 (some .int) 5 := ⟨gw 1457 (by decide +kernel) (by decide +kernel), gw 1458 (by decide +kernel) (by decide +kernel), gw 1459 (by decide +kernel) (by decide +kernel), gw 134 (by decide +kernel) (by decide +kernel), gwc 1460 (by decide +kernel) (by decide +kernel), ⟨by decide +kernel, by decide +kernel⟩, by decide +kernel⟩
theorem cl_RL_18 : CLV RL 18 yX11_end cX11_end 2 (some .boolean) 1 := ⟨gw 587 (by decide +kernel) (by decide +kernel), gw 588 (by decide +kernel) (by decide +kernel), gw 589 (by decide +kernel) (by decide +kernel), gw 123 (by decide +kernel) (by decide +kernel), gwc 590 (by decide +kernel) (by decide +kernel), ⟨by decide +kernel, by decide +kernel⟩, by decide +kernel⟩
theorem cl_RL_22 : CLV RL 22 yX12_end cX12_end 2 (some .boolean) 1 := ⟨gw 1469 (by decide +kernel) (by decide +kernel), gw 1470 (by decide +kernel) (by decide +kernel), gw 1471 (by decide +kernel) (by decide +kernel), gw 134 (by decide +kernel) (by decide +kernel), gwc 1472 (by decide +kernel) (by decide +kernel), ⟨by decide +kernel, by decide +kernel⟩, by decide +kernel⟩
theorem cl_RL_23 : CLV RL 23 yX11_town cX11_town 2 (some .int) 0 := ⟨gw 591 (by decide +kernel) (by decide +kernel), gw 592 (by decide +kernel) (by decide +kernel), gw 593 (by decide +kernel) (by decide +kernel), gw 123 (by decide +kernel) (by decide +kernel), gwc 594 (by decide +kernel) (by decide +kernel), ⟨by decide +kernel, by decide +kernel⟩, by decide +kernel⟩
theorem cl_RL_27 : CLV RL 27 yX12_town cX12_town 2 (some .int) 0 := ⟨gw 1473 (by decide +kernel) (by decide +kernel), gw 1474 (by decide +kernel) (by decide +kernel), gw 1475 (by decide +kernel) (by decide +kernel), gw 134 (by decide +kernel) (by decide +kernel), gwc 1476 (by decide +kernel) (by decide +kernel), ⟨by decide +kernel, by decide +kernel⟩, by decide +kernel⟩
theorem cl_RL_28 : CLV RL 28 yX11_fault cX11_fault 2 (some .int) 1 := ⟨gw 832 (by decide +kernel) (by decide +kernel), gw 833 (by decide +kernel) (by decide +kernel), gw 834 (by decide +kernel) (by decide +kernel), gw 123 (by decide +kernel) (by decide +kernel), gwc 835 (by decide +kernel) (by decide +kernel), ⟨by decide +kernel, by decide +kernel⟩, by decide +kernel⟩
theorem cl_RL_32 : CLV RL 32 yX12_fault cX12_fault 2 (some .int) 1 := ⟨gw 1635 (by decide +kernel) (by decide +kernel), gw 1636 (by decide +kernel) (by decide +kernel), gw 1637 (by decide +kernel) (by decide +kernel), gw 134 (by decide +kernel) (by decide +kernel), gwc 1638 (by decide +kernel) (by decide +kernel), ⟨by decide +kernel, by decide +kernel⟩, by decide +kernel⟩
theorem cl_RL_33 : CLV RL 33 yX11_has cX11_has 2 (some .int) 1 := ⟨gw 836 (by decide +kernel) (by decide +kernel), gw 837 (by decide +kernel) (by decide +kernel), gw 838 (by decide +kernel) (by decide +kernel), gw 123 (by decide +kernel) (by decide +kernel), gwc 839 (by decide +kernel) (by decide +kernel), ⟨by decide +kernel, by decide +kernel⟩, by decide +kernel⟩
theorem cl_RL_36 : CLV RL 36 yX12_has cX12_has 2 (some .int) 1 := ⟨gw 1655 (by decide +kernel) (by decide +kernel), gw 1656 (by decide +kernel) (by decide +kernel), gw 1657 (by decide +kernel) (by decide +kernel), gw 134 (by decide +kernel) (by decide +kernel), gwc 1658 (by decide +kernel) (by decide +kernel), ⟨by decide +kernel, by decide +kernel⟩, by decide +kernel⟩
theorem cl_RL_37 : CLV RL 37 yX11_letter cX11_letter 4 (some .int) 3 := ⟨gw 853 (by decide +kernel) (by decide +kernel), gw 854 (by decide +kernel) (by decide +kernel), gw 855 (by decide +kernel) (by decide +kernel), gw 123 (by decide +kernel) (by decide +kernel), gwc 856 (by decide +kernel) (by decide +kernel), ⟨by decide +kernel, by decide +kernel⟩, by decide +kernel⟩
theorem cl_RL_41 : CLV RL 41 yX12_letter cX12_letter 10 (some .int) 3 := ⟨gw 1674 (by decide +kernel) (by decide +kernel), gw 1675 (by decide +kernel) (by decide +kernel), gw 1676 (by decide +kernel) (by decide +kernel), gw 134 (by decide +kernel) (by decide +kernel), gwc 1677 (by decide +kernel) (by decide +kernel), ⟨by decide +kernel, by decide +kernel⟩, by decide +kernel⟩
theorem cl_RL_42 : CLV RL 42 yX11_voice cX11_voice 3 (some .int) 2 := ⟨gw 868 (by decide +kernel) (by decide +kernel), gw 869 (by decide +kernel) (by decide +kernel), gw 870 (by decide +kernel) (by decide +kernel), gw 123 (by decide +kernel) (by decide +kernel), gwc 871 (by decide +kernel) (by decide +kernel), ⟨by decide +kernel, by decide +kernel⟩, by decide +kernel⟩
theorem cl_RL_46 : CLV RL 46 yX12_voice cX12_voice 3 (some .int) 2 := ⟨gw 1687 (by decide +kernel) (by decide +kernel), gw 1688 (by decide +kernel) (by decide +kernel), gw 1689 (by decide +kernel) (by decide +kernel), gw 134 (by decide +kernel) (by decide +kernel), gwc 1690 (by decide +kernel) (by decide +kernel), ⟨by decide +kernel, by decide +kernel⟩, by decide +kernel⟩
theorem cl_RL_47 : CLV RL 47 yX11_person cX11_person 3 (some .int) 2 := ⟨gw 876 (by decide +kernel) (by decide +kernel), gw 877 (by decide +kernel) (by decide +kernel), gw 878 (by decide +kernel) (by decide +kernel), gw 123 (by decide +kernel) (by decide +kernel), gwc 879 (by decide +kernel) (by decide +kernel), ⟨by decide +kernel, by decide +kernel⟩, by decide +kernel⟩
theorem cl_RL_50 : CLV RL 50 yX12_person cX12_person 5 (some .int) 2 := ⟨gw 1694 (by decide +kernel) (by decide +kernel), gw 1695 (by decide +kernel) (by decide +kernel), gw 1696 (by decide +kernel) (by decide +kernel), gw 134 (by decide +kernel) (by decide +kernel), gwc 1697 (by decide +kernel) (by decide +kernel), ⟨by decide +kernel, by decide +kernel⟩, by decide +kernel⟩
theorem cl_RL_51 : CLV RL 51 yX11_saying cX11_saying 3 (some .int) 2 := ⟨gw 884 (by decide +kernel) (by decide +kernel), gw 885 (by decide +kernel) (by decide +kernel), gw 886 (by decide +kernel) (by decide +kernel), gw 123 (by decide +kernel) (by decide +kernel), gwc 887 (by decide +kernel) (by decide +kernel), ⟨by decide +kernel, by decide +kernel⟩, by decide +kernel⟩
theorem cl_RL_54 : CLV RL 54 yX12_saying cX12_saying 3 (some .int) 2 := ⟨gw 1698 (by decide +kernel) (by decide +kernel), gw 1699 (by decide +kernel) (by decide +kernel), gw 1700 (by decide +kernel) (by decide +kernel), gw 134 (by decide +kernel) (by decide +kernel), gwc 1701 (by decide +kernel) (by decide +kernel), ⟨by decide +kernel, by decide +kernel⟩, by decide +kernel⟩
theorem cl_RL_55 : CLV RL 55 yX11_picks cX11_picks 3 (some .long) 2 := ⟨gw 892 (by decide +kernel) (by decide +kernel), gw 893 (by decide +kernel) (by decide +kernel), gw 894 (by decide +kernel) (by decide +kernel), gw 123 (by decide +kernel) (by decide +kernel), gwc 895 (by decide +kernel) (by decide +kernel), ⟨by decide +kernel, by decide +kernel⟩, by decide +kernel⟩
theorem cl_RL_59 : CLV RL 59 yX12_picks cX12_picks 3 (some .long) 2 := ⟨gw 1706 (by decide +kernel) (by decide +kernel), gw 1707 (by decide +kernel) (by decide +kernel), gw 1708 (by decide +kernel) (by decide +kernel), gw 134 (by decide +kernel) (by decide +kernel), gwc 1709 (by decide +kernel) (by decide +kernel), ⟨by decide +kernel, by decide +kernel⟩, by decide +kernel⟩
theorem cl_RL_60 : CLV RL 60 yX11_later cX11_later 5 (some .int) 3 := ⟨gw 945 (by decide +kernel) (by decide +kernel), gw 946 (by decide +kernel) (by decide +kernel), gw 947 (by decide +kernel) (by decide +kernel), gw 123 (by decide +kernel) (by decide +kernel), gwc 948 (by decide +kernel) (by decide +kernel), ⟨by decide +kernel, by decide +kernel⟩, by decide +kernel⟩
theorem cl_RL_63 : CLV RL 63 yX12_later cX12_later 4 (some .int) 3 := ⟨gw 1738 (by decide +kernel) (by decide +kernel), gw 1739 (by decide +kernel) (by decide +kernel), gw 1740 (by decide +kernel) (by decide +kernel), gw 134 (by decide +kernel) (by decide +kernel), gwc 1741 (by decide +kernel) (by decide +kernel), ⟨by decide +kernel, by decide +kernel⟩, by decide +kernel⟩
theorem cl_RL_64 : CLV RL 64 yX11_ends cX11_ends 5 (some .int) 1 := ⟨gw 1001 (by decide +kernel) (by decide +kernel), gw 1002 (by decide +kernel) (by decide +kernel), gw 1003 (by decide +kernel) (by decide +kernel), gw 123 (by decide +kernel) (by decide +kernel), gwc 1004 (by decide +kernel) (by decide +kernel), ⟨by decide +kernel, by decide +kernel⟩, by decide +kernel⟩
theorem cl_RL_67 : CLV RL 67 yX12_ends cX12_ends 3 (some .int) 1 := ⟨gw 1778 (by decide +kernel) (by decide +kernel), gw 1779 (by decide +kernel) (by decide +kernel), gw 1780 (by decide +kernel) (by decide +kernel), gw 134 (by decide +kernel) (by decide +kernel), gwc 1781 (by decide +kernel) (by decide +kernel), ⟨by decide +kernel, by decide +kernel⟩, by decide +kernel⟩
theorem cl_RL_68 : CLV RL 68 yX11_busy cX11_busy 3 (some .int) 1 := ⟨gw 1006 (by decide +kernel) (by decide +kernel), gw 1007 (by decide +kernel) (by decide +kernel), gw 1008 (by decide +kernel) (by decide +kernel), gw 123 (by decide +kernel) (by decide +kernel), gwc 1009 (by decide +kernel) (by decide +kernel), ⟨by decide +kernel, by decide +kernel⟩, by decide +kernel⟩
theorem cl_RL_71 : CLV RL 71 yX12_busy cX12_busy 2 (some .int) 1 := ⟨gw 1782 (by decide +kernel) (by decide +kernel), gw 1783 (by decide +kernel) (by decide +kernel), gw 1784 (by decide +kernel) (by decide +kernel), gw 134 (by decide +kernel) (by decide +kernel), gwc 1785 (by decide +kernel) (by decide +kernel), ⟨by decide +kernel, by decide +kernel⟩, by decide +kernel⟩
theorem cl_RL_72 : CLV RL 72 yX11_match cX11_match 2 (some .int) 1 := ⟨gw 1010 (by decide +kernel) (by decide +kernel), gw 1011 (by decide +kernel) (by decide +kernel), gw 1012 (by decide +kernel) (by decide +kernel), gw 123 (by decide +kernel) (by decide +kernel), gwc 1013 (by decide +kernel) (by decide +kernel), ⟨by decide +kernel, by decide +kernel⟩, by decide +kernel⟩
theorem cl_RL_75 : CLV RL 75 yX12_match cX12_match 8 (some .int) 1 := ⟨gw 1786 (by decide +kernel) (by decide +kernel), gw 1787 (by decide +kernel) (by decide +kernel), gw 1788 (by decide +kernel) (by decide +kernel), gw 134 (by decide +kernel) (by decide +kernel), gwc 1789 (by decide +kernel) (by decide +kernel), ⟨by decide +kernel, by decide +kernel⟩, by decide +kernel⟩
theorem cl_RL_76 : CLV RL 76 yX11_choir cX11_choir 4 (some .int) 1 := ⟨gw 1042 (by decide +kernel) (by decide +kernel), gw 1043 (by decide +kernel) (by decide +kernel), gw 1044 (by decide +kernel) (by decide +kernel), gw 123 (by decide +kernel) (by decide +kernel), gwc 1045 (by decide +kernel) (by decide +kernel), ⟨by decide +kernel, by decide +kernel⟩, by decide +kernel⟩
theorem cl_RL_79 : CLV RL 79 yX12_choir cX12_choir 5 (some .int) 1 := ⟨gw 1797 (by decide +kernel) (by decide +kernel), gw 1798 (by decide +kernel) (by decide +kernel), gw 1799 (by decide +kernel) (by decide +kernel), gw 134 (by decide +kernel) (by decide +kernel), gwc 1800 (by decide +kernel) (by decide +kernel), ⟨by decide +kernel, by decide +kernel⟩, by decide +kernel⟩
theorem cl_RL_80 : CLV RL 80 yX11_worst cX11_worst 8 (some .int) 2 := ⟨gw 1058 (by decide +kernel) (by decide +kernel), gw 1059 (by decide +kernel) (by decide +kernel), gw 1060 (by decide +kernel) (by decide +kernel), gw 123 (by decide +kernel) (by decide +kernel), gwc 1061 (by decide +kernel) (by decide +kernel), ⟨by decide +kernel, by decide +kernel⟩, by decide +kernel⟩
theorem cl_RL_83 : CLV RL 83 yX12_worst cX12_worst 7 (some .int) 2 := ⟨gw 1801 (by decide +kernel) (by decide +kernel), gw 1802 (by decide +kernel) (by decide +kernel), gw 1803 (by decide +kernel) (by decide +kernel), gw 134 (by decide +kernel) (by decide +kernel), gwc 1804 (by decide +kernel) (by decide +kernel), ⟨by decide +kernel, by decide +kernel⟩, by decide +kernel⟩
theorem cl_RL_84 : CLV RL 84 yX11_tune cX11_tune 9 (some .int) 3 := ⟨gw 1066 (by decide +kernel) (by decide +kernel), gw 1067 (by decide +kernel) (by decide +kernel), gw 1068 (by decide +kernel) (by decide +kernel), gw 123 (by decide +kernel) (by decide +kernel), gwc 1069 (by decide +kernel) (by decide +kernel), ⟨by decide +kernel, by decide +kernel⟩, by decide +kernel⟩
theorem cl_RL_87 : CLV RL 87 yX12_tune cX12_tune 8 (some .int) 3 := ⟨gw 1809 (by decide +kernel) (by decide +kernel), gw 1810 (by decide +kernel) (by decide +kernel), gw 1811 (by decide +kernel) (by decide +kernel), gw 134 (by decide +kernel) (by decide +kernel), gwc 1812 (by decide +kernel) (by decide +kernel), ⟨by decide +kernel, by decide +kernel⟩, by decide +kernel⟩
theorem cl_RL_88 : CLV RL 88 yX11_needed cX11_needed 2 (some .int) 1 := ⟨gw 1070 (by decide +kernel) (by decide +kernel), gw 1071 (by decide +kernel) (by decide +kernel), gw 1072 (by decide +kernel) (by decide +kernel), gw 123 (by decide +kernel) (by decide +kernel), gwc 1073 (by decide +kernel) (by decide +kernel), ⟨by decide +kernel, by decide +kernel⟩, by decide +kernel⟩
theorem cl_RL_91 : CLV RL 91 yX12_needed cX12_needed 4 (some .int) 1 := ⟨gw 1813 (by decide +kernel) (by decide +kernel), gw 1814 (by decide +kernel) (by decide +kernel), gw 1815 (by decide +kernel) (by decide +kernel), gw 134 (by decide +kernel) (by decide +kernel), gwc 1816 (by decide +kernel) (by decide +kernel), ⟨by decide +kernel, by decide +kernel⟩, by decide +kernel⟩
theorem cl_RL_92 : CLV RL 92 yX11_odds cX11_odds 3 (some .int) 1 := ⟨gw 1078 (by decide +kernel) (by decide +kernel), gw 1079 (by decide +kernel) (by decide +kernel), gw 1080 (by decide +kernel) (by decide +kernel), gw 123 (by decide +kernel) (by decide +kernel), gwc 1081 (by decide +kernel) (by decide +kernel), ⟨by decide +kernel, by decide +kernel⟩, by decide +kernel⟩
theorem cl_RL_95 : CLV RL 95 yX12_odds cX12_odds 4 (some .int) 1 := ⟨gw 1821 (by decide +kernel) (by decide +kernel), gw 1822 (by decide +kernel) (by decide +kernel), gw 1823 (by decide +kernel) (by decide +kernel), gw 134 (by decide +kernel) (by decide +kernel), gwc 1824 (by decide +kernel) (by decide +kernel), ⟨by decide +kernel, by decide +kernel⟩, by decide +kernel⟩
theorem cl_RL_96 : CLV RL 96 yX11_hear cX11_hear 2 (some .int) 0 := ⟨gw 1082 (by decide +kernel) (by decide +kernel), gw 1083 (by decide +kernel) (by decide +kernel), gw 1084 (by decide +kernel) (by decide +kernel), gw 123 (by decide +kernel) (by decide +kernel), gwc 1085 (by decide +kernel) (by decide +kernel), ⟨by decide +kernel, by decide +kernel⟩, by decide +kernel⟩
theorem cl_RL_99 : CLV RL 99 yX12_hear cX12_hear 4 (some .int) 0 := ⟨gw 1825 (by decide +kernel) (by decide +kernel), gw 1826 (by decide +kernel) (by decide +kernel), gw 1827 (by decide +kernel) (by decide +kernel), gw 134 (by decide +kernel) (by decide +kernel), gwc 1828 (by decide +kernel) (by decide +kernel), ⟨by decide +kernel, by decide +kernel⟩, by decide +kernel⟩
theorem cl_RL_100 : CLV RL 100 yX11_pitches cX11_pitches 2 (some .int) 1 := ⟨gw 1094 (by decide +kernel) (by decide +kernel), gw 1095 (by decide +kernel) (by decide +kernel), gw 1096 (by decide +kernel) (by decide +kernel), gw 123 (by decide +kernel) (by decide +kernel), gwc 1097 (by decide +kernel) (by decide +kernel), ⟨by decide +kernel, by decide +kernel⟩, by decide +kernel⟩
theorem cl_RL_103 : CLV RL 103 yX12_pitches cX12_pitches 2 (some .int) 1 := ⟨gw 1829 (by decide +kernel) (by decide +kernel), gw 1830 (by decide +kernel) (by decide +kernel), gw 1831 (by decide +kernel) (by decide +kernel), gw 134 (by decide +kernel) (by decide +kernel), gwc 1832 (by decide +kernel) (by decide +kernel), ⟨by decide +kernel, by decide +kernel⟩, by decide +kernel⟩
theorem cl_RL_104 : CLV RL 104 yX11_tells cX11_tells 3 (some .int) 2 := ⟨gw 1114 (by decide +kernel) (by decide +kernel), gw 1115 (by decide +kernel) (by decide +kernel), gw 1116 (by decide +kernel) (by decide +kernel), gw 123 (by decide +kernel) (by decide +kernel), gwc 1117 (by decide +kernel) (by decide +kernel), ⟨by decide +kernel, by decide +kernel⟩, by decide +kernel⟩
theorem cl_RL_107 : CLV RL 107 yX12_tells cX12_tells 9 (some .int) 2 := ⟨gw 1837 (by decide +kernel) (by decide +kernel), gw 1838 (by decide +kernel) (by decide +kernel), gw 1839 (by decide +kernel) (by decide +kernel), gw 134 (by decide +kernel) (by decide +kernel), gwc 1840 (by decide +kernel) (by decide +kernel), ⟨by decide +kernel, by decide +kernel⟩, by decide +kernel⟩
theorem cl_RL_108 : CLV RL 108 yX11_minutes cX11_minutes 2 (some .int) 1 := ⟨gw 1128 (by decide +kernel) (by decide +kernel), gw 1129 (by decide +kernel) (by decide +kernel), gw 1130 (by decide +kernel) (by decide +kernel), gw 123 (by decide +kernel) (by decide +kernel), gwc 1131 (by decide +kernel) (by decide +kernel), ⟨by decide +kernel, by decide +kernel⟩, by decide +kernel⟩
theorem cl_RL_111 : CLV RL 111 yX12_minutes cX12_minutes 4 (some .int) 1 := ⟨gw 1846 (by decide +kernel) (by decide +kernel), gw 1847 (by decide +kernel) (by decide +kernel), gw 1848 (by decide +kernel) (by decide +kernel), gw 134 (by decide +kernel) (by decide +kernel), gwc 1849 (by decide +kernel) (by decide +kernel), ⟨by decide +kernel, by decide +kernel⟩, by decide +kernel⟩
theorem cl_RL_112 : CLV RL 112 yX11_chance cX11_chance 4 (some .int) 1 := ⟨gw 1138 (by decide +kernel) (by decide +kernel), gw 1139 (by decide +kernel) (by decide +kernel), gw 1140 (by decide +kernel) (by decide +kernel), gw 123 (by decide +kernel) (by decide +kernel), gwc 1141 (by decide +kernel) (by decide +kernel), ⟨by decide +kernel, by decide +kernel⟩, by decide +kernel⟩
theorem cl_RL_115 : CLV RL 115 yX12_chance cX12_chance 5 (some .int) 1 := ⟨gw 1854 (by decide +kernel) (by decide +kernel), gw 1855 (by decide +kernel) (by decide +kernel), gw 1856 (by decide +kernel) (by decide +kernel), gw 134 (by decide +kernel) (by decide +kernel), gwc 1857 (by decide +kernel) (by decide +kernel), ⟨by decide +kernel, by decide +kernel⟩, by decide +kernel⟩
theorem cl_RL_116 : CLV RL 116 yX11_strike cX11_strike 2 (some .boolean) 1 := ⟨gw 1153 (by decide +kernel) (by decide +kernel), gw 1154 (by decide +kernel) (by decide +kernel), gw 1155 (by decide +kernel) (by decide +kernel), gw 123 (by decide +kernel) (by decide +kernel), gwc 1156 (by decide +kernel) (by decide +kernel), ⟨by decide +kernel, by decide +kernel⟩, by decide +kernel⟩
theorem cl_RL_119 : CLV RL 119 yX12_strike cX12_strike 2 (some .boolean) 1 := ⟨gw 1866 (by decide +kernel) (by decide +kernel), gw 1867 (by decide +kernel) (by decide +kernel), gw 1868 (by decide +kernel) (by decide +kernel), gw 134 (by decide +kernel) (by decide +kernel), gwc 1869 (by decide +kernel) (by decide +kernel), ⟨by decide +kernel, by decide +kernel⟩, by decide +kernel⟩
theorem cl_RL_120 : CLV RL 120 yX11_heal cX11_heal 2 (some .boolean) 1 := ⟨gw 1157 (by decide +kernel) (by decide +kernel), gw 1158 (by decide +kernel) (by decide +kernel), gw 1159 (by decide +kernel) (by decide +kernel), gw 123 (by decide +kernel) (by decide +kernel), gwc 1160 (by decide +kernel) (by decide +kernel), ⟨by decide +kernel, by decide +kernel⟩, by decide +kernel⟩
theorem cl_RL_123 : CLV RL 123 yX12_heal cX12_heal 2 (some .boolean) 1 := ⟨gw 1870 (by decide +kernel) (by decide +kernel), gw 1871 (by decide +kernel) (by decide +kernel), gw 1872 (by decide +kernel) (by decide +kernel), gw 134 (by decide +kernel) (by decide +kernel), gwc 1873 (by decide +kernel) (by decide +kernel), ⟨by decide +kernel, by decide +kernel⟩, by decide +kernel⟩
theorem cl_RL_124 : CLV RL 124 yX11_train cX11_train 3 (some .boolean) 2 := ⟨gw 1161 (by decide +kernel) (by decide +kernel), gw 1162 (by decide +kernel) (by decide +kernel), gw 1163 (by decide +kernel) (by decide +kernel), gw 123 (by decide +kernel) (by decide +kernel), gwc 1164 (by decide +kernel) (by decide +kernel), ⟨by decide +kernel, by decide +kernel⟩, by decide +kernel⟩
theorem cl_RL_128 : CLV RL 128 yX12_train cX12_train 3 (some .boolean) 2 := ⟨gw 1874 (by decide +kernel) (by decide +kernel), gw 1875 (by decide +kernel) (by decide +kernel), gw 1876 (by decide +kernel) (by decide +kernel), gw 134 (by decide +kernel) (by decide +kernel), gwc 1877 (by decide +kernel) (by decide +kernel), ⟨by decide +kernel, by decide +kernel⟩, by decide +kernel⟩
theorem cl_RL_129 : CLV RL 129 yX11_delay cX11_delay 3 (some .boolean) 2 := ⟨gw 1165 (by decide +kernel) (by decide +kernel), gw 1166 (by decide +kernel) (by decide +kernel), gw 1167 (by decide +kernel) (by decide +kernel), gw 123 (by decide +kernel) (by decide +kernel), gwc 1168 (by decide +kernel) (by decide +kernel), ⟨by decide +kernel, by decide +kernel⟩, by decide +kernel⟩
theorem cl_RL_132 : CLV RL 132 yX12_delay cX12_delay 3 (some .boolean) 2 := ⟨gw 1878 (by decide +kernel) (by decide +kernel), gw 1879 (by decide +kernel) (by decide +kernel), gw 1880 (by decide +kernel) (by decide +kernel), gw 134 (by decide +kernel) (by decide +kernel), gwc 1881 (by decide +kernel) (by decide +kernel), ⟨by decide +kernel, by decide +kernel⟩, by decide +kernel⟩
theorem cl_RL_133 : CLV RL 133 yX11_undo cX11_undo 1 (some .boolean) 0 := ⟨gw 1169 (by decide +kernel) (by decide +kernel), gw 1170 (by decide +kernel) (by decide +kernel), gw 1171 (by decide +kernel) (by decide +kernel), gw 123 (by decide +kernel) (by decide +kernel), gwc 1172 (by decide +kernel) (by decide +kernel), ⟨by decide +kernel, by decide +kernel⟩, by decide +kernel⟩
theorem cl_RL_137 : CLV RL 137 yX12_undo cX12_undo 1 (some .boolean) 0 := ⟨gw 1643 (by decide +kernel) (by decide +kernel), gw 1644 (by decide +kernel) (by decide +kernel), gw 1645 (by decide +kernel) (by decide +kernel), gw 134 (by decide +kernel) (by decide +kernel), gwc 1646 (by decide +kernel) (by decide +kernel), ⟨by decide +kernel, by decide +kernel⟩, by decide +kernel⟩
theorem cl_RL_138 : CLV RL 138 yX11_seed cX11_seed 2 (some .boolean) 1 := ⟨gw 1177 (by decide +kernel) (by decide +kernel), gw 1178 (by decide +kernel) (by decide +kernel), gw 1179 (by decide +kernel) (by decide +kernel), gw 123 (by decide +kernel) (by decide +kernel), gwc 1180 (by decide +kernel) (by decide +kernel), ⟨by decide +kernel, by decide +kernel⟩, by decide +kernel⟩
theorem cl_RL_141 : CLV RL 141 yX12_seed cX12_seed 2 (some .boolean) 1 := ⟨gw 1882 (by decide +kernel) (by decide +kernel), gw 1883 (by decide +kernel) (by decide +kernel), gw 1884 (by decide +kernel) (by decide +kernel), gw 134 (by decide +kernel) (by decide +kernel), gwc 1885 (by decide +kernel) (by decide +kernel), ⟨by decide +kernel, by decide +kernel⟩, by decide +kernel⟩
theorem cl_RL_142 : CLV RL 142 yX11_kept cX11_kept 3 (some .int) 2 := ⟨gw 1181 (by decide +kernel) (by decide +kernel), gw 1182 (by decide +kernel) (by decide +kernel), gw 1183 (by decide +kernel) (by decide +kernel), gw 123 (by decide +kernel) (by decide +kernel), gwc 1184 (by decide +kernel) (by decide +kernel), ⟨by decide +kernel, by decide +kernel⟩, by decide +kernel⟩
theorem cl_RL_145 : CLV RL 145 yX12_kept cX12_kept 3 (some .int) 2 := ⟨gw 1886 (by decide +kernel) (by decide +kernel), gw 1887 (by decide +kernel) (by decide +kernel), gw 1888 (by decide +kernel) (by decide +kernel), gw 134 (by decide +kernel) (by decide +kernel), gwc 1889 (by decide +kernel) (by decide +kernel), ⟨by decide +kernel, by decide +kernel⟩, by decide +kernel⟩
theorem cl_RL_146 : CLV RL 146 yX11_image cX11_image 1 (some .int) 0 := ⟨gw 1185 (by decide +kernel) (by decide +kernel), gw 1186 (by decide +kernel) (by decide +kernel), gw 1187 (by decide +kernel) (by decide +kernel), gw 123 (by decide +kernel) (by decide +kernel), gwc 1188 (by decide +kernel) (by decide +kernel), ⟨by decide +kernel, by decide +kernel⟩, by decide +kernel⟩
theorem cl_RL_149 : CLV RL 149 yX12_image cX12_image 3 (some .int) 0 := ⟨gw 1890 (by decide +kernel) (by decide +kernel), gw 1891 (by decide +kernel) (by decide +kernel), gw 1892 (by decide +kernel) (by decide +kernel), gw 134 (by decide +kernel) (by decide +kernel), gwc 1893 (by decide +kernel) (by decide +kernel), ⟨by decide +kernel, by decide +kernel⟩, by decide +kernel⟩
theorem cl_RL_150 : CLV RL 150 yX11_octet cX11_octet 2 (some .int) 1 := ⟨gw 1204 (by decide +kernel) (by decide +kernel), gw 1205 (by decide +kernel) (by decide +kernel), gw 1206 (by decide +kernel) (by decide +kernel), gw 123 (by decide +kernel) (by decide +kernel), gwc 1207 (by decide +kernel) (by decide +kernel), ⟨by decide +kernel, by decide +kernel⟩, by decide +kernel⟩
theorem cl_RL_153 : CLV RL 153 yX12_octet cX12_octet 2 (some .int) 1 := ⟨gw 1898 (by decide +kernel) (by decide +kernel), gw 1899 (by decide +kernel) (by decide +kernel), gw 1900 (by decide +kernel) (by decide +kernel), gw 134 (by decide +kernel) (by decide +kernel), gwc 1901 (by decide +kernel) (by decide +kernel), ⟨by decide +kernel, by decide +kernel⟩, by decide +kernel⟩
theorem cl_RL_154 : CLV RL 154 yX11_on cX11_on 2 (some .boolean) 0 := ⟨gw 1208 (by decide +kernel) (by decide +kernel), gw 1209 (by decide +kernel) (by decide +kernel), gw 1210 (by decide +kernel) (by decide +kernel), gw 123 (by decide +kernel) (by decide +kernel), gwc 1211 (by decide +kernel) (by decide +kernel), ⟨by decide +kernel, by decide +kernel⟩, by decide +kernel⟩
theorem cl_RL_157 : CLV RL 157 yX12_on cX12_on 2 (some .boolean) 0 := ⟨gw 1902 (by decide +kernel) (by decide +kernel), gw 1903 (by decide +kernel) (by decide +kernel), gw 1904 (by decide +kernel) (by decide +kernel), gw 134 (by decide +kernel) (by decide +kernel), gwc 1905 (by decide +kernel) (by decide +kernel), ⟨by decide +kernel, by decide +kernel⟩, by decide +kernel⟩
theorem cl_RL_158 : CLV RL 158 yX11_status cX11_status 2 (some .int) 1 := ⟨gw 1234 (by decide +kernel) (by decide +kernel), gw 1235 (by decide +kernel) (by decide +kernel), gw 1236 (by decide +kernel) (by decide +kernel), gw 123 (by decide +kernel) (by decide +kernel), gwc 1237 (by decide +kernel) (by decide +kernel), ⟨by decide +kernel, by decide +kernel⟩, by decide +kernel⟩
theorem cl_RL_161 : CLV RL 161 yX12_status cX12_status 2 (some .int) 1 := ⟨gw 1639 (by decide +kernel) (by decide +kernel), gw 1640 (by decide +kernel) (by decide +kernel), gw 1641 (by decide +kernel) (by decide +kernel), gw 134 (by decide +kernel) (by decide +kernel), gwc 1642 (by decide +kernel) (by decide +kernel), ⟨by decide +kernel, by decide +kernel⟩, by decide +kernel⟩
section LAWCASES
variable {p : Program} {l : Launch} {e : Env} {s : State} {m : MethodId} {below : List Frame} {meth : Method} {c : Code} {D : va_G} {E : Nat → ClassId} {b bX bM ce sl L : Nat} {xs : Nat → Int32} {Q : State → Prop} {Ext : State → Prop} {σ : Nat → Nat}
theorem lc_feed (C : CX p s m #[Value.ref b] meth c code 4 RL D E vwCl Ext (fun q => s.heap.size ≤ q)) (hX : va_X b L xs s s.heap) (hbl : b < s.heap.size) (hL : L ≤ 3072) (hbX : s.heap.size ≤ bX) (hbM : bM = bX + xN) (hE0 : xExt σ bX s) (hce : ce ≤ room_1.cells ∧ sl ≤ room_1.slots) {R : Nat → Mem → Mem → Prop} (hs : LS_feed R) {k : Nat} (hk : k < 512) (hk6 : 6 * k + 6 ≤ L) {Mx Mm : Mem} (hR : R k Mx Mm) (hnext : ∀ Mx1 Mm1, R (k + 1) Mx1 Mm1 → WLw p l e room_1 s m #[Value.ref b] below meth c 4 D E bX bM ce sl Q Mx1 Mm1 1134 [(0, vR b 0), (1, vR bX 0), (2, vR bM 0), (3, vI (6 * (k : Int)))] []) : WLw p l e room_1 s m #[Value.ref b] below meth c 4 D E bX bM ce sl Q Mx Mm 188 [(0, vR b 0), (1, vR bX 0), (2, vR bM 0), (3, vI (6 * (k : Int)))] [] := by
  obtain ⟨r, r', Mx1, Mm1, h1, h2, h3, h4⟩ := hs k Mx Mm (xs (6 * (k : Int) + 1).toNat).toInt (xs (6 * (k : Int) + 2).toNat).toInt (xs (6 * (k : Int) + 3).toNat).toInt (xs (6 * (k : Int) + 4).toNat).toInt (xs (6 * (k : Int) + 5).toNat).toInt hk (i32_of _) (i32_of _) (i32_of _) (i32_of _) (i32_of _) hR
  refine l_aload_n (pc := 188) C 1 rfl rfl dL_law_188 ?_
  refine l_aload_n (pc := 189) C 0 rfl rfl dL_law_189 ?_
  refine l_iload_n (pc := 190) C 3 rfl rfl dL_law_190 ?_
  refine l_iconst (pc := 191) C dL_law_191 ?_
  refine l_iadd (pc := 192) C dL_law_192 ?_
  refine l_sld (pc := 193) C hX hbl hL ⟨by omega, by omega⟩ dL_law_193 ?_
  refine l_aload_n (pc := 194) C 0 rfl rfl dL_law_194 ?_
  refine l_iload_n (pc := 195) C 3 rfl rfl dL_law_195 ?_
  refine l_iconst (pc := 196) C dL_law_196 ?_
  refine l_iadd (pc := 197) C dL_law_197 ?_
  refine l_sld (pc := 198) C hX hbl hL ⟨by omega, by omega⟩ dL_law_198 ?_
  refine l_aload_n (pc := 199) C 0 rfl rfl dL_law_199 ?_
  refine l_iload_n (pc := 200) C 3 rfl rfl dL_law_200 ?_
  refine l_iconst (pc := 201) C dL_law_201 ?_
  refine l_iadd (pc := 202) C dL_law_202 ?_
  refine l_sld (pc := 203) C hX hbl hL ⟨by omega, by omega⟩ dL_law_203 ?_
  refine l_aload_n (pc := 204) C 0 rfl rfl dL_law_204 ?_
  refine l_iload_n (pc := 205) C 3 rfl rfl dL_law_205 ?_
  refine l_iconst (pc := 206) C dL_law_206 ?_
  refine l_iadd (pc := 207) C dL_law_207 ?_
  refine l_sld (pc := 208) C hX hbl hL ⟨by omega, by omega⟩ dL_law_208 ?_
  refine l_aload_n (pc := 209) C 0 rfl rfl dL_law_209 ?_
  refine l_iload_n (pc := 210) C 3 rfl rfl dL_law_210 ?_
  refine l_iconst (pc := 211) C dL_law_211 ?_
  refine l_iadd (pc := 212) C dL_law_212 ?_
  refine l_sld (pc := 213) C hX hbl hL ⟨by omega, by omega⟩ dL_law_213 ?_
  refine l_callX (pc := 214) (rest := []) (st1 := [vI r]) C hbX hbM hE0 [vI (xs (6 * (k : Int) + 1).toNat).toInt, vI (xs (6 * (k : Int) + 2).toNat).toInt, vI (xs (6 * (k : Int) + 3).toNat).toInt, vI (xs (6 * (k : Int) + 4).toNat).toInt, vI (xs (6 * (k : Int) + 5).toNat).toInt] (c_x_X_feed l h1) cl_RL_13 x_s0 rfl rfl rfl rfl ⟨(Nat.le_of_ble_eq_true rfl), (Nat.le_of_ble_eq_true rfl)⟩ hce (Nat.le_of_ble_eq_true rfl) rfl rfl dL_law_214 ?_
  refine l_aload_n (pc := 217) C 2 rfl rfl dL_law_217 ?_
  refine l_aload_n (pc := 218) C 0 rfl rfl dL_law_218 ?_
  refine l_iload_n (pc := 219) C 3 rfl rfl dL_law_219 ?_
  refine l_iconst (pc := 220) C dL_law_220 ?_
  refine l_iadd (pc := 221) C dL_law_221 ?_
  refine l_sld (pc := 222) C hX hbl hL ⟨by omega, by omega⟩ dL_law_222 ?_
  refine l_aload_n (pc := 223) C 0 rfl rfl dL_law_223 ?_
  refine l_iload_n (pc := 224) C 3 rfl rfl dL_law_224 ?_
  refine l_iconst (pc := 225) C dL_law_225 ?_
  refine l_iadd (pc := 226) C dL_law_226 ?_
  refine l_sld (pc := 227) C hX hbl hL ⟨by omega, by omega⟩ dL_law_227 ?_
  refine l_aload_n (pc := 228) C 0 rfl rfl dL_law_228 ?_
  refine l_iload_n (pc := 229) C 3 rfl rfl dL_law_229 ?_
  refine l_iconst (pc := 230) C dL_law_230 ?_
  refine l_iadd (pc := 231) C dL_law_231 ?_
  refine l_sld (pc := 232) C hX hbl hL ⟨by omega, by omega⟩ dL_law_232 ?_
  refine l_aload_n (pc := 233) C 0 rfl rfl dL_law_233 ?_
  refine l_iload_n (pc := 234) C 3 rfl rfl dL_law_234 ?_
  refine l_iconst (pc := 235) C dL_law_235 ?_
  refine l_iadd (pc := 236) C dL_law_236 ?_
  refine l_sld (pc := 237) C hX hbl hL ⟨by omega, by omega⟩ dL_law_237 ?_
  refine l_aload_n (pc := 238) C 0 rfl rfl dL_law_238 ?_
  refine l_iload_n (pc := 239) C 3 rfl rfl dL_law_239 ?_
  refine l_iconst (pc := 240) C dL_law_240 ?_
  refine l_iadd (pc := 241) C dL_law_241 ?_
  refine l_sld (pc := 242) C hX hbl hL ⟨by omega, by omega⟩ dL_law_242 ?_
  refine l_callM (pc := 243) (rest := [vI r]) (st1 := [vI r', vI r]) C hbX hbM [vI (xs (6 * (k : Int) + 1).toNat).toInt, vI (xs (6 * (k : Int) + 2).toNat).toInt, vI (xs (6 * (k : Int) + 3).toNat).toInt, vI (xs (6 * (k : Int) + 4).toNat).toInt, vI (xs (6 * (k : Int) + 5).toNat).toInt] (c_m_feed l h2) cl_RL_17 m_s0 rfl rfl rfl rfl ⟨(Nat.le_of_ble_eq_true rfl), (Nat.le_of_ble_eq_true rfl)⟩ hce (Nat.le_of_ble_eq_true rfl) rfl rfl dL_law_243 ?_
  refine l_icmp_eq (pc := 246) (tgt := 1134) (α := Unit) (f := some ()) (g := none) (r := ()) C (if_pos h3) dL_law_246 (by decide) (fun _ _ => ?_) (fun _ z => nomatch z)
  exact hnext _ _ h4
theorem lc_end (C : CX p s m #[Value.ref b] meth c code 4 RL D E vwCl Ext (fun q => s.heap.size ≤ q)) (hX : va_X b L xs s s.heap) (hbl : b < s.heap.size) (hL : L ≤ 3072) (hbX : s.heap.size ≤ bX) (hbM : bM = bX + xN) (hE0 : xExt σ bX s) (hce : ce ≤ room_1.cells ∧ sl ≤ room_1.slots) {R : Nat → Mem → Mem → Prop} (hs : LS_end R) {k : Nat} (hk : k < 512) (hk6 : 6 * k + 6 ≤ L) {Mx Mm : Mem} (hR : R k Mx Mm) (hnext : ∀ Mx1 Mm1, R (k + 1) Mx1 Mm1 → WLw p l e room_1 s m #[Value.ref b] below meth c 4 D E bX bM ce sl Q Mx1 Mm1 1134 [(0, vR b 0), (1, vR bX 0), (2, vR bM 0), (3, vI (6 * (k : Int)))] []) : WLw p l e room_1 s m #[Value.ref b] below meth c 4 D E bX bM ce sl Q Mx Mm 251 [(0, vR b 0), (1, vR bX 0), (2, vR bM 0), (3, vI (6 * (k : Int)))] [] := by
  obtain ⟨r, r', Mx1, Mm1, h1, h2, h3, h4⟩ := hs k Mx Mm (xs (6 * (k : Int) + 1).toNat).toInt hk (i32_of _) hR
  refine l_aload_n (pc := 251) C 1 rfl rfl dL_law_251 ?_
  refine l_aload_n (pc := 252) C 0 rfl rfl dL_law_252 ?_
  refine l_iload_n (pc := 253) C 3 rfl rfl dL_law_253 ?_
  refine l_iconst (pc := 254) C dL_law_254 ?_
  refine l_iadd (pc := 255) C dL_law_255 ?_
  refine l_sld (pc := 256) C hX hbl hL ⟨by omega, by omega⟩ dL_law_256 ?_
  refine l_callX (pc := 257) (rest := []) (st1 := [vB r]) C hbX hbM hE0 [vI (xs (6 * (k : Int) + 1).toNat).toInt] (c_x_X_end l h1) cl_RL_18 x_s0 rfl rfl rfl rfl ⟨(Nat.le_of_ble_eq_true rfl), (Nat.le_of_ble_eq_true rfl)⟩ hce (Nat.le_of_ble_eq_true rfl) rfl rfl dL_law_257 ?_
  refine l_aload_n (pc := 260) C 2 rfl rfl dL_law_260 ?_
  refine l_aload_n (pc := 261) C 0 rfl rfl dL_law_261 ?_
  refine l_iload_n (pc := 262) C 3 rfl rfl dL_law_262 ?_
  refine l_iconst (pc := 263) C dL_law_263 ?_
  refine l_iadd (pc := 264) C dL_law_264 ?_
  refine l_sld (pc := 265) C hX hbl hL ⟨by omega, by omega⟩ dL_law_265 ?_
  refine l_callM (pc := 266) (rest := [vB r]) (st1 := [vB r', vB r]) C hbX hbM [vI (xs (6 * (k : Int) + 1).toNat).toInt] (c_m_end l h2) cl_RL_22 m_s0 rfl rfl rfl rfl ⟨(Nat.le_of_ble_eq_true rfl), (Nat.le_of_ble_eq_true rfl)⟩ hce (Nat.le_of_ble_eq_true rfl) rfl rfl dL_law_266 ?_
  refine l_icmp_eq (pc := 269) (tgt := 1134) (α := Unit) (f := some ()) (g := none) (r := ()) C (if_pos (by rw [h3])) dL_law_269 (by decide) (fun _ _ => ?_) (fun _ z => nomatch z)
  exact hnext _ _ h4
theorem lc_town (C : CX p s m #[Value.ref b] meth c code 4 RL D E vwCl Ext (fun q => s.heap.size ≤ q)) (hX : va_X b L xs s s.heap) (hbl : b < s.heap.size) (hL : L ≤ 3072) (hbX : s.heap.size ≤ bX) (hbM : bM = bX + xN) (hE0 : xExt σ bX s) (hce : ce ≤ room_1.cells ∧ sl ≤ room_1.slots) {R : Nat → Mem → Mem → Prop} (hs : LS_town R) {k : Nat} (hk : k < 512) (hk6 : 6 * k + 6 ≤ L) {Mx Mm : Mem} (hR : R k Mx Mm) (hnext : ∀ Mx1 Mm1, R (k + 1) Mx1 Mm1 → WLw p l e room_1 s m #[Value.ref b] below meth c 4 D E bX bM ce sl Q Mx1 Mm1 1134 [(0, vR b 0), (1, vR bX 0), (2, vR bM 0), (3, vI (6 * (k : Int)))] []) : WLw p l e room_1 s m #[Value.ref b] below meth c 4 D E bX bM ce sl Q Mx Mm 274 [(0, vR b 0), (1, vR bX 0), (2, vR bM 0), (3, vI (6 * (k : Int)))] [] := by
  obtain ⟨r, r', Mx1, Mm1, h1, h2, h3, h4⟩ := hs k Mx Mm hk hR
  refine l_aload_n (pc := 274) C 1 rfl rfl dL_law_274 ?_
  refine l_callX (pc := 275) (rest := []) (st1 := [vI r]) C hbX hbM hE0 [] (c_x_X_town l h1) cl_RL_23 x_s0 rfl rfl rfl rfl ⟨(Nat.le_of_ble_eq_true rfl), (Nat.le_of_ble_eq_true rfl)⟩ hce (Nat.le_of_ble_eq_true rfl) rfl rfl dL_law_275 ?_
  refine l_aload_n (pc := 278) C 2 rfl rfl dL_law_278 ?_
  refine l_callM (pc := 279) (rest := [vI r]) (st1 := [vI r', vI r]) C hbX hbM [] (c_m_town l h2) cl_RL_27 m_s0 rfl rfl rfl rfl ⟨(Nat.le_of_ble_eq_true rfl), (Nat.le_of_ble_eq_true rfl)⟩ hce (Nat.le_of_ble_eq_true rfl) rfl rfl dL_law_279 ?_
  refine l_icmp_eq (pc := 282) (tgt := 1134) (α := Unit) (f := some ()) (g := none) (r := ()) C (if_pos h3) dL_law_282 (by decide) (fun _ _ => ?_) (fun _ z => nomatch z)
  exact hnext _ _ h4
theorem lc_fault (C : CX p s m #[Value.ref b] meth c code 4 RL D E vwCl Ext (fun q => s.heap.size ≤ q)) (hX : va_X b L xs s s.heap) (hbl : b < s.heap.size) (hL : L ≤ 3072) (hbX : s.heap.size ≤ bX) (hbM : bM = bX + xN) (hE0 : xExt σ bX s) (hce : ce ≤ room_1.cells ∧ sl ≤ room_1.slots) {R : Nat → Mem → Mem → Prop} (hs : LS_fault R) {k : Nat} (hk : k < 512) (hk6 : 6 * k + 6 ≤ L) {Mx Mm : Mem} (hR : R k Mx Mm) (hnext : ∀ Mx1 Mm1, R (k + 1) Mx1 Mm1 → WLw p l e room_1 s m #[Value.ref b] below meth c 4 D E bX bM ce sl Q Mx1 Mm1 1134 [(0, vR b 0), (1, vR bX 0), (2, vR bM 0), (3, vI (6 * (k : Int)))] []) : WLw p l e room_1 s m #[Value.ref b] below meth c 4 D E bX bM ce sl Q Mx Mm 287 [(0, vR b 0), (1, vR bX 0), (2, vR bM 0), (3, vI (6 * (k : Int)))] [] := by
  obtain ⟨r, r', h1, h2, h3, h4⟩ := hs k Mx Mm (xs (6 * (k : Int) + 1).toNat).toInt hk (i32_of _) hR
  refine l_aload_n (pc := 287) C 1 rfl rfl dL_law_287 ?_
  refine l_aload_n (pc := 288) C 0 rfl rfl dL_law_288 ?_
  refine l_iload_n (pc := 289) C 3 rfl rfl dL_law_289 ?_
  refine l_iconst (pc := 290) C dL_law_290 ?_
  refine l_iadd (pc := 291) C dL_law_291 ?_
  refine l_sld (pc := 292) C hX hbl hL ⟨by omega, by omega⟩ dL_law_292 ?_
  refine l_callX (pc := 293) (rest := []) (st1 := [vI r]) C hbX hbM hE0 [vI (xs (6 * (k : Int) + 1).toNat).toInt] (c_x_X_fault l h1) cl_RL_28 x_s0 rfl rfl rfl rfl ⟨(Nat.le_of_ble_eq_true rfl), (Nat.le_of_ble_eq_true rfl)⟩ hce (Nat.le_of_ble_eq_true rfl) rfl rfl dL_law_293 ?_
  refine l_aload_n (pc := 296) C 2 rfl rfl dL_law_296 ?_
  refine l_aload_n (pc := 297) C 0 rfl rfl dL_law_297 ?_
  refine l_iload_n (pc := 298) C 3 rfl rfl dL_law_298 ?_
  refine l_iconst (pc := 299) C dL_law_299 ?_
  refine l_iadd (pc := 300) C dL_law_300 ?_
  refine l_sld (pc := 301) C hX hbl hL ⟨by omega, by omega⟩ dL_law_301 ?_
  refine l_callM (pc := 302) (rest := [vI r]) (st1 := [vI r', vI r]) C hbX hbM [vI (xs (6 * (k : Int) + 1).toNat).toInt] (c_m_fault l h2) cl_RL_32 m_s0 rfl rfl rfl rfl ⟨(Nat.le_of_ble_eq_true rfl), (Nat.le_of_ble_eq_true rfl)⟩ hce (Nat.le_of_ble_eq_true rfl) rfl rfl dL_law_302 ?_
  refine l_icmp_eq (pc := 305) (tgt := 1134) (α := Unit) (f := some ()) (g := none) (r := ()) C (if_pos h3) dL_law_305 (by decide) (fun _ _ => ?_) (fun _ z => nomatch z)
  exact hnext _ _ h4
theorem lc_has (C : CX p s m #[Value.ref b] meth c code 4 RL D E vwCl Ext (fun q => s.heap.size ≤ q)) (hX : va_X b L xs s s.heap) (hbl : b < s.heap.size) (hL : L ≤ 3072) (hbX : s.heap.size ≤ bX) (hbM : bM = bX + xN) (hE0 : xExt σ bX s) (hce : ce ≤ room_1.cells ∧ sl ≤ room_1.slots) {R : Nat → Mem → Mem → Prop} (hs : LS_has R) {k : Nat} (hk : k < 512) (hk6 : 6 * k + 6 ≤ L) {Mx Mm : Mem} (hR : R k Mx Mm) (hnext : ∀ Mx1 Mm1, R (k + 1) Mx1 Mm1 → WLw p l e room_1 s m #[Value.ref b] below meth c 4 D E bX bM ce sl Q Mx1 Mm1 1134 [(0, vR b 0), (1, vR bX 0), (2, vR bM 0), (3, vI (6 * (k : Int)))] []) : WLw p l e room_1 s m #[Value.ref b] below meth c 4 D E bX bM ce sl Q Mx Mm 310 [(0, vR b 0), (1, vR bX 0), (2, vR bM 0), (3, vI (6 * (k : Int)))] [] := by
  obtain ⟨r, r', h1, h2, h3, h4⟩ := hs k Mx Mm (xs (6 * (k : Int) + 1).toNat).toInt hk (i32_of _) hR
  refine l_aload_n (pc := 310) C 1 rfl rfl dL_law_310 ?_
  refine l_aload_n (pc := 311) C 0 rfl rfl dL_law_311 ?_
  refine l_iload_n (pc := 312) C 3 rfl rfl dL_law_312 ?_
  refine l_iconst (pc := 313) C dL_law_313 ?_
  refine l_iadd (pc := 314) C dL_law_314 ?_
  refine l_sld (pc := 315) C hX hbl hL ⟨by omega, by omega⟩ dL_law_315 ?_
  refine l_callX (pc := 316) (rest := []) (st1 := [vI r]) C hbX hbM hE0 [vI (xs (6 * (k : Int) + 1).toNat).toInt] (c_x_X_has l h1) cl_RL_33 x_s0 rfl rfl rfl rfl ⟨(Nat.le_of_ble_eq_true rfl), (Nat.le_of_ble_eq_true rfl)⟩ hce (Nat.le_of_ble_eq_true rfl) rfl rfl dL_law_316 ?_
  refine l_aload_n (pc := 319) C 2 rfl rfl dL_law_319 ?_
  refine l_aload_n (pc := 320) C 0 rfl rfl dL_law_320 ?_
  refine l_iload_n (pc := 321) C 3 rfl rfl dL_law_321 ?_
  refine l_iconst (pc := 322) C dL_law_322 ?_
  refine l_iadd (pc := 323) C dL_law_323 ?_
  refine l_sld (pc := 324) C hX hbl hL ⟨by omega, by omega⟩ dL_law_324 ?_
  refine l_callM (pc := 325) (rest := [vI r]) (st1 := [vI r', vI r]) C hbX hbM [vI (xs (6 * (k : Int) + 1).toNat).toInt] (c_m_has l h2) cl_RL_36 m_s0 rfl rfl rfl rfl ⟨(Nat.le_of_ble_eq_true rfl), (Nat.le_of_ble_eq_true rfl)⟩ hce (Nat.le_of_ble_eq_true rfl) rfl rfl dL_law_325 ?_
  refine l_icmp_eq (pc := 328) (tgt := 1134) (α := Unit) (f := some ()) (g := none) (r := ()) C (if_pos h3) dL_law_328 (by decide) (fun _ _ => ?_) (fun _ z => nomatch z)
  exact hnext _ _ h4
theorem lc_letter (C : CX p s m #[Value.ref b] meth c code 4 RL D E vwCl Ext (fun q => s.heap.size ≤ q)) (hX : va_X b L xs s s.heap) (hbl : b < s.heap.size) (hL : L ≤ 3072) (hbX : s.heap.size ≤ bX) (hbM : bM = bX + xN) (hE0 : xExt σ bX s) (hce : ce ≤ room_1.cells ∧ sl ≤ room_1.slots) {R : Nat → Mem → Mem → Prop} (hs : LS_letter R) {k : Nat} (hk : k < 512) (hk6 : 6 * k + 6 ≤ L) {Mx Mm : Mem} (hR : R k Mx Mm) (hnext : ∀ Mx1 Mm1, R (k + 1) Mx1 Mm1 → WLw p l e room_1 s m #[Value.ref b] below meth c 4 D E bX bM ce sl Q Mx1 Mm1 1134 [(0, vR b 0), (1, vR bX 0), (2, vR bM 0), (3, vI (6 * (k : Int)))] []) : WLw p l e room_1 s m #[Value.ref b] below meth c 4 D E bX bM ce sl Q Mx Mm 333 [(0, vR b 0), (1, vR bX 0), (2, vR bM 0), (3, vI (6 * (k : Int)))] [] := by
  obtain ⟨r, r', h1, h2, h3, h4⟩ := hs k Mx Mm (xs (6 * (k : Int) + 1).toNat).toInt (xs (6 * (k : Int) + 2).toNat).toInt (xs (6 * (k : Int) + 3).toNat).toInt hk (i32_of _) (i32_of _) (i32_of _) hR
  refine l_aload_n (pc := 333) C 1 rfl rfl dL_law_333 ?_
  refine l_aload_n (pc := 334) C 0 rfl rfl dL_law_334 ?_
  refine l_iload_n (pc := 335) C 3 rfl rfl dL_law_335 ?_
  refine l_iconst (pc := 336) C dL_law_336 ?_
  refine l_iadd (pc := 337) C dL_law_337 ?_
  refine l_sld (pc := 338) C hX hbl hL ⟨by omega, by omega⟩ dL_law_338 ?_
  refine l_aload_n (pc := 339) C 0 rfl rfl dL_law_339 ?_
  refine l_iload_n (pc := 340) C 3 rfl rfl dL_law_340 ?_
  refine l_iconst (pc := 341) C dL_law_341 ?_
  refine l_iadd (pc := 342) C dL_law_342 ?_
  refine l_sld (pc := 343) C hX hbl hL ⟨by omega, by omega⟩ dL_law_343 ?_
  refine l_aload_n (pc := 344) C 0 rfl rfl dL_law_344 ?_
  refine l_iload_n (pc := 345) C 3 rfl rfl dL_law_345 ?_
  refine l_iconst (pc := 346) C dL_law_346 ?_
  refine l_iadd (pc := 347) C dL_law_347 ?_
  refine l_sld (pc := 348) C hX hbl hL ⟨by omega, by omega⟩ dL_law_348 ?_
  refine l_callX (pc := 349) (rest := []) (st1 := [vI r]) C hbX hbM hE0 [vI (xs (6 * (k : Int) + 1).toNat).toInt, vI (xs (6 * (k : Int) + 2).toNat).toInt, vI (xs (6 * (k : Int) + 3).toNat).toInt] (c_x_X_letter l h1) cl_RL_37 x_s0 rfl rfl rfl rfl ⟨(Nat.le_of_ble_eq_true rfl), (Nat.le_of_ble_eq_true rfl)⟩ hce (Nat.le_of_ble_eq_true rfl) rfl rfl dL_law_349 ?_
  refine l_aload_n (pc := 352) C 2 rfl rfl dL_law_352 ?_
  refine l_aload_n (pc := 353) C 0 rfl rfl dL_law_353 ?_
  refine l_iload_n (pc := 354) C 3 rfl rfl dL_law_354 ?_
  refine l_iconst (pc := 355) C dL_law_355 ?_
  refine l_iadd (pc := 356) C dL_law_356 ?_
  refine l_sld (pc := 357) C hX hbl hL ⟨by omega, by omega⟩ dL_law_357 ?_
  refine l_aload_n (pc := 358) C 0 rfl rfl dL_law_358 ?_
  refine l_iload_n (pc := 359) C 3 rfl rfl dL_law_359 ?_
  refine l_iconst (pc := 360) C dL_law_360 ?_
  refine l_iadd (pc := 361) C dL_law_361 ?_
  refine l_sld (pc := 362) C hX hbl hL ⟨by omega, by omega⟩ dL_law_362 ?_
  refine l_aload_n (pc := 363) C 0 rfl rfl dL_law_363 ?_
  refine l_iload_n (pc := 364) C 3 rfl rfl dL_law_364 ?_
  refine l_iconst (pc := 365) C dL_law_365 ?_
  refine l_iadd (pc := 366) C dL_law_366 ?_
  refine l_sld (pc := 367) C hX hbl hL ⟨by omega, by omega⟩ dL_law_367 ?_
  refine l_callM (pc := 368) (rest := [vI r]) (st1 := [vI r', vI r]) C hbX hbM [vI (xs (6 * (k : Int) + 1).toNat).toInt, vI (xs (6 * (k : Int) + 2).toNat).toInt, vI (xs (6 * (k : Int) + 3).toNat).toInt] (c_m_letter l h2) cl_RL_41 m_s0 rfl rfl rfl rfl ⟨(Nat.le_of_ble_eq_true rfl), (Nat.le_of_ble_eq_true rfl)⟩ hce (Nat.le_of_ble_eq_true rfl) rfl rfl dL_law_368 ?_
  refine l_icmp_eq (pc := 371) (tgt := 1134) (α := Unit) (f := some ()) (g := none) (r := ()) C (if_pos h3) dL_law_371 (by decide) (fun _ _ => ?_) (fun _ z => nomatch z)
  exact hnext _ _ h4
theorem lc_voice (C : CX p s m #[Value.ref b] meth c code 4 RL D E vwCl Ext (fun q => s.heap.size ≤ q)) (hX : va_X b L xs s s.heap) (hbl : b < s.heap.size) (hL : L ≤ 3072) (hbX : s.heap.size ≤ bX) (hbM : bM = bX + xN) (hE0 : xExt σ bX s) (hce : ce ≤ room_1.cells ∧ sl ≤ room_1.slots) {R : Nat → Mem → Mem → Prop} (hs : LS_voice R) {k : Nat} (hk : k < 512) (hk6 : 6 * k + 6 ≤ L) {Mx Mm : Mem} (hR : R k Mx Mm) (hnext : ∀ Mx1 Mm1, R (k + 1) Mx1 Mm1 → WLw p l e room_1 s m #[Value.ref b] below meth c 4 D E bX bM ce sl Q Mx1 Mm1 1134 [(0, vR b 0), (1, vR bX 0), (2, vR bM 0), (3, vI (6 * (k : Int)))] []) : WLw p l e room_1 s m #[Value.ref b] below meth c 4 D E bX bM ce sl Q Mx Mm 376 [(0, vR b 0), (1, vR bX 0), (2, vR bM 0), (3, vI (6 * (k : Int)))] [] := by
  obtain ⟨r, r', h1, h2, h3, h4⟩ := hs k Mx Mm (xs (6 * (k : Int) + 1).toNat).toInt (xs (6 * (k : Int) + 2).toNat).toInt hk (i32_of _) (i32_of _) hR
  refine l_aload_n (pc := 376) C 1 rfl rfl dL_law_376 ?_
  refine l_aload_n (pc := 377) C 0 rfl rfl dL_law_377 ?_
  refine l_iload_n (pc := 378) C 3 rfl rfl dL_law_378 ?_
  refine l_iconst (pc := 379) C dL_law_379 ?_
  refine l_iadd (pc := 380) C dL_law_380 ?_
  refine l_sld (pc := 381) C hX hbl hL ⟨by omega, by omega⟩ dL_law_381 ?_
  refine l_aload_n (pc := 382) C 0 rfl rfl dL_law_382 ?_
  refine l_iload_n (pc := 383) C 3 rfl rfl dL_law_383 ?_
  refine l_iconst (pc := 384) C dL_law_384 ?_
  refine l_iadd (pc := 385) C dL_law_385 ?_
  refine l_sld (pc := 386) C hX hbl hL ⟨by omega, by omega⟩ dL_law_386 ?_
  refine l_callX (pc := 387) (rest := []) (st1 := [vI r]) C hbX hbM hE0 [vI (xs (6 * (k : Int) + 1).toNat).toInt, vI (xs (6 * (k : Int) + 2).toNat).toInt] (c_x_X_voice l h1) cl_RL_42 x_s0 rfl rfl rfl rfl ⟨(Nat.le_of_ble_eq_true rfl), (Nat.le_of_ble_eq_true rfl)⟩ hce (Nat.le_of_ble_eq_true rfl) rfl rfl dL_law_387 ?_
  refine l_aload_n (pc := 390) C 2 rfl rfl dL_law_390 ?_
  refine l_aload_n (pc := 391) C 0 rfl rfl dL_law_391 ?_
  refine l_iload_n (pc := 392) C 3 rfl rfl dL_law_392 ?_
  refine l_iconst (pc := 393) C dL_law_393 ?_
  refine l_iadd (pc := 394) C dL_law_394 ?_
  refine l_sld (pc := 395) C hX hbl hL ⟨by omega, by omega⟩ dL_law_395 ?_
  refine l_aload_n (pc := 396) C 0 rfl rfl dL_law_396 ?_
  refine l_iload_n (pc := 397) C 3 rfl rfl dL_law_397 ?_
  refine l_iconst (pc := 398) C dL_law_398 ?_
  refine l_iadd (pc := 399) C dL_law_399 ?_
  refine l_sld (pc := 400) C hX hbl hL ⟨by omega, by omega⟩ dL_law_400 ?_
  refine l_callM (pc := 401) (rest := [vI r]) (st1 := [vI r', vI r]) C hbX hbM [vI (xs (6 * (k : Int) + 1).toNat).toInt, vI (xs (6 * (k : Int) + 2).toNat).toInt] (c_m_voice l h2) cl_RL_46 m_s0 rfl rfl rfl rfl ⟨(Nat.le_of_ble_eq_true rfl), (Nat.le_of_ble_eq_true rfl)⟩ hce (Nat.le_of_ble_eq_true rfl) rfl rfl dL_law_401 ?_
  refine l_icmp_eq (pc := 404) (tgt := 1134) (α := Unit) (f := some ()) (g := none) (r := ()) C (if_pos h3) dL_law_404 (by decide) (fun _ _ => ?_) (fun _ z => nomatch z)
  exact hnext _ _ h4
theorem lc_person (C : CX p s m #[Value.ref b] meth c code 4 RL D E vwCl Ext (fun q => s.heap.size ≤ q)) (hX : va_X b L xs s s.heap) (hbl : b < s.heap.size) (hL : L ≤ 3072) (hbX : s.heap.size ≤ bX) (hbM : bM = bX + xN) (hE0 : xExt σ bX s) (hce : ce ≤ room_1.cells ∧ sl ≤ room_1.slots) {R : Nat → Mem → Mem → Prop} (hs : LS_person R) {k : Nat} (hk : k < 512) (hk6 : 6 * k + 6 ≤ L) {Mx Mm : Mem} (hR : R k Mx Mm) (hnext : ∀ Mx1 Mm1, R (k + 1) Mx1 Mm1 → WLw p l e room_1 s m #[Value.ref b] below meth c 4 D E bX bM ce sl Q Mx1 Mm1 1134 [(0, vR b 0), (1, vR bX 0), (2, vR bM 0), (3, vI (6 * (k : Int)))] []) : WLw p l e room_1 s m #[Value.ref b] below meth c 4 D E bX bM ce sl Q Mx Mm 409 [(0, vR b 0), (1, vR bX 0), (2, vR bM 0), (3, vI (6 * (k : Int)))] [] := by
  obtain ⟨r, r', h1, h2, h3, h4⟩ := hs k Mx Mm (xs (6 * (k : Int) + 1).toNat).toInt (xs (6 * (k : Int) + 2).toNat).toInt hk (i32_of _) (i32_of _) hR
  refine l_aload_n (pc := 409) C 1 rfl rfl dL_law_409 ?_
  refine l_aload_n (pc := 410) C 0 rfl rfl dL_law_410 ?_
  refine l_iload_n (pc := 411) C 3 rfl rfl dL_law_411 ?_
  refine l_iconst (pc := 412) C dL_law_412 ?_
  refine l_iadd (pc := 413) C dL_law_413 ?_
  refine l_sld (pc := 414) C hX hbl hL ⟨by omega, by omega⟩ dL_law_414 ?_
  refine l_aload_n (pc := 415) C 0 rfl rfl dL_law_415 ?_
  refine l_iload_n (pc := 416) C 3 rfl rfl dL_law_416 ?_
  refine l_iconst (pc := 417) C dL_law_417 ?_
  refine l_iadd (pc := 418) C dL_law_418 ?_
  refine l_sld (pc := 419) C hX hbl hL ⟨by omega, by omega⟩ dL_law_419 ?_
  refine l_callX (pc := 420) (rest := []) (st1 := [vI r]) C hbX hbM hE0 [vI (xs (6 * (k : Int) + 1).toNat).toInt, vI (xs (6 * (k : Int) + 2).toNat).toInt] (c_x_X_person l h1) cl_RL_47 x_s0 rfl rfl rfl rfl ⟨(Nat.le_of_ble_eq_true rfl), (Nat.le_of_ble_eq_true rfl)⟩ hce (Nat.le_of_ble_eq_true rfl) rfl rfl dL_law_420 ?_
  refine l_aload_n (pc := 423) C 2 rfl rfl dL_law_423 ?_
  refine l_aload_n (pc := 424) C 0 rfl rfl dL_law_424 ?_
  refine l_iload_n (pc := 425) C 3 rfl rfl dL_law_425 ?_
  refine l_iconst (pc := 426) C dL_law_426 ?_
  refine l_iadd (pc := 427) C dL_law_427 ?_
  refine l_sld (pc := 428) C hX hbl hL ⟨by omega, by omega⟩ dL_law_428 ?_
  refine l_aload_n (pc := 429) C 0 rfl rfl dL_law_429 ?_
  refine l_iload_n (pc := 430) C 3 rfl rfl dL_law_430 ?_
  refine l_iconst (pc := 431) C dL_law_431 ?_
  refine l_iadd (pc := 432) C dL_law_432 ?_
  refine l_sld (pc := 433) C hX hbl hL ⟨by omega, by omega⟩ dL_law_433 ?_
  refine l_callM (pc := 434) (rest := [vI r]) (st1 := [vI r', vI r]) C hbX hbM [vI (xs (6 * (k : Int) + 1).toNat).toInt, vI (xs (6 * (k : Int) + 2).toNat).toInt] (c_m_person l h2) cl_RL_50 m_s0 rfl rfl rfl rfl ⟨(Nat.le_of_ble_eq_true rfl), (Nat.le_of_ble_eq_true rfl)⟩ hce (Nat.le_of_ble_eq_true rfl) rfl rfl dL_law_434 ?_
  refine l_icmp_eq (pc := 437) (tgt := 1134) (α := Unit) (f := some ()) (g := none) (r := ()) C (if_pos h3) dL_law_437 (by decide) (fun _ _ => ?_) (fun _ z => nomatch z)
  exact hnext _ _ h4
theorem lc_saying (C : CX p s m #[Value.ref b] meth c code 4 RL D E vwCl Ext (fun q => s.heap.size ≤ q)) (hX : va_X b L xs s s.heap) (hbl : b < s.heap.size) (hL : L ≤ 3072) (hbX : s.heap.size ≤ bX) (hbM : bM = bX + xN) (hE0 : xExt σ bX s) (hce : ce ≤ room_1.cells ∧ sl ≤ room_1.slots) {R : Nat → Mem → Mem → Prop} (hs : LS_saying R) {k : Nat} (hk : k < 512) (hk6 : 6 * k + 6 ≤ L) {Mx Mm : Mem} (hR : R k Mx Mm) (hnext : ∀ Mx1 Mm1, R (k + 1) Mx1 Mm1 → WLw p l e room_1 s m #[Value.ref b] below meth c 4 D E bX bM ce sl Q Mx1 Mm1 1134 [(0, vR b 0), (1, vR bX 0), (2, vR bM 0), (3, vI (6 * (k : Int)))] []) : WLw p l e room_1 s m #[Value.ref b] below meth c 4 D E bX bM ce sl Q Mx Mm 442 [(0, vR b 0), (1, vR bX 0), (2, vR bM 0), (3, vI (6 * (k : Int)))] [] := by
  obtain ⟨r, r', h1, h2, h3, h4⟩ := hs k Mx Mm (xs (6 * (k : Int) + 1).toNat).toInt (xs (6 * (k : Int) + 2).toNat).toInt hk (i32_of _) (i32_of _) hR
  refine l_aload_n (pc := 442) C 1 rfl rfl dL_law_442 ?_
  refine l_aload_n (pc := 443) C 0 rfl rfl dL_law_443 ?_
  refine l_iload_n (pc := 444) C 3 rfl rfl dL_law_444 ?_
  refine l_iconst (pc := 445) C dL_law_445 ?_
  refine l_iadd (pc := 446) C dL_law_446 ?_
  refine l_sld (pc := 447) C hX hbl hL ⟨by omega, by omega⟩ dL_law_447 ?_
  refine l_aload_n (pc := 448) C 0 rfl rfl dL_law_448 ?_
  refine l_iload_n (pc := 449) C 3 rfl rfl dL_law_449 ?_
  refine l_iconst (pc := 450) C dL_law_450 ?_
  refine l_iadd (pc := 451) C dL_law_451 ?_
  refine l_sld (pc := 452) C hX hbl hL ⟨by omega, by omega⟩ dL_law_452 ?_
  refine l_callX (pc := 453) (rest := []) (st1 := [vI r]) C hbX hbM hE0 [vI (xs (6 * (k : Int) + 1).toNat).toInt, vI (xs (6 * (k : Int) + 2).toNat).toInt] (c_x_X_saying l h1) cl_RL_51 x_s0 rfl rfl rfl rfl ⟨(Nat.le_of_ble_eq_true rfl), (Nat.le_of_ble_eq_true rfl)⟩ hce (Nat.le_of_ble_eq_true rfl) rfl rfl dL_law_453 ?_
  refine l_aload_n (pc := 456) C 2 rfl rfl dL_law_456 ?_
  refine l_aload_n (pc := 457) C 0 rfl rfl dL_law_457 ?_
  refine l_iload_n (pc := 458) C 3 rfl rfl dL_law_458 ?_
  refine l_iconst (pc := 459) C dL_law_459 ?_
  refine l_iadd (pc := 460) C dL_law_460 ?_
  refine l_sld (pc := 461) C hX hbl hL ⟨by omega, by omega⟩ dL_law_461 ?_
  refine l_aload_n (pc := 462) C 0 rfl rfl dL_law_462 ?_
  refine l_iload_n (pc := 463) C 3 rfl rfl dL_law_463 ?_
  refine l_iconst (pc := 464) C dL_law_464 ?_
  refine l_iadd (pc := 465) C dL_law_465 ?_
  refine l_sld (pc := 466) C hX hbl hL ⟨by omega, by omega⟩ dL_law_466 ?_
  refine l_callM (pc := 467) (rest := [vI r]) (st1 := [vI r', vI r]) C hbX hbM [vI (xs (6 * (k : Int) + 1).toNat).toInt, vI (xs (6 * (k : Int) + 2).toNat).toInt] (c_m_saying l h2) cl_RL_54 m_s0 rfl rfl rfl rfl ⟨(Nat.le_of_ble_eq_true rfl), (Nat.le_of_ble_eq_true rfl)⟩ hce (Nat.le_of_ble_eq_true rfl) rfl rfl dL_law_467 ?_
  refine l_icmp_eq (pc := 470) (tgt := 1134) (α := Unit) (f := some ()) (g := none) (r := ()) C (if_pos h3) dL_law_470 (by decide) (fun _ _ => ?_) (fun _ z => nomatch z)
  exact hnext _ _ h4
theorem lc_picks (C : CX p s m #[Value.ref b] meth c code 4 RL D E vwCl Ext (fun q => s.heap.size ≤ q)) (hX : va_X b L xs s s.heap) (hbl : b < s.heap.size) (hL : L ≤ 3072) (hbX : s.heap.size ≤ bX) (hbM : bM = bX + xN) (hE0 : xExt σ bX s) (hce : ce ≤ room_1.cells ∧ sl ≤ room_1.slots) {R : Nat → Mem → Mem → Prop} (hs : LS_picks R) {k : Nat} (hk : k < 512) (hk6 : 6 * k + 6 ≤ L) {Mx Mm : Mem} (hR : R k Mx Mm) (hnext : ∀ Mx1 Mm1, R (k + 1) Mx1 Mm1 → WLw p l e room_1 s m #[Value.ref b] below meth c 4 D E bX bM ce sl Q Mx1 Mm1 1134 [(0, vR b 0), (1, vR bX 0), (2, vR bM 0), (3, vI (6 * (k : Int)))] []) : WLw p l e room_1 s m #[Value.ref b] below meth c 4 D E bX bM ce sl Q Mx Mm 475 [(0, vR b 0), (1, vR bX 0), (2, vR bM 0), (3, vI (6 * (k : Int)))] [] := by
  obtain ⟨r, r', Mx1, Mm1, h1, h2, h3, h4⟩ := hs k Mx Mm (xs (6 * (k : Int) + 1).toNat).toInt (xs (6 * (k : Int) + 2).toNat).toInt hk (i32_of _) (i32_of _) hR
  refine l_aload_n (pc := 475) C 1 rfl rfl dL_law_475 ?_
  refine l_aload_n (pc := 476) C 0 rfl rfl dL_law_476 ?_
  refine l_iload_n (pc := 477) C 3 rfl rfl dL_law_477 ?_
  refine l_iconst (pc := 478) C dL_law_478 ?_
  refine l_iadd (pc := 479) C dL_law_479 ?_
  refine l_sld (pc := 480) C hX hbl hL ⟨by omega, by omega⟩ dL_law_480 ?_
  refine l_aload_n (pc := 481) C 0 rfl rfl dL_law_481 ?_
  refine l_iload_n (pc := 482) C 3 rfl rfl dL_law_482 ?_
  refine l_iconst (pc := 483) C dL_law_483 ?_
  refine l_iadd (pc := 484) C dL_law_484 ?_
  refine l_sld (pc := 485) C hX hbl hL ⟨by omega, by omega⟩ dL_law_485 ?_
  refine l_callX (pc := 486) (rest := []) (st1 := [vL r]) C hbX hbM hE0 [vI (xs (6 * (k : Int) + 1).toNat).toInt, vI (xs (6 * (k : Int) + 2).toNat).toInt] (c_x_X_picks l h1) cl_RL_55 x_s0 rfl rfl rfl rfl ⟨(Nat.le_of_ble_eq_true rfl), (Nat.le_of_ble_eq_true rfl)⟩ hce (Nat.le_of_ble_eq_true rfl) rfl rfl dL_law_486 ?_
  refine l_aload_n (pc := 489) C 2 rfl rfl dL_law_489 ?_
  refine l_aload_n (pc := 490) C 0 rfl rfl dL_law_490 ?_
  refine l_iload_n (pc := 491) C 3 rfl rfl dL_law_491 ?_
  refine l_iconst (pc := 492) C dL_law_492 ?_
  refine l_iadd (pc := 493) C dL_law_493 ?_
  refine l_sld (pc := 494) C hX hbl hL ⟨by omega, by omega⟩ dL_law_494 ?_
  refine l_aload_n (pc := 495) C 0 rfl rfl dL_law_495 ?_
  refine l_iload_n (pc := 496) C 3 rfl rfl dL_law_496 ?_
  refine l_iconst (pc := 497) C dL_law_497 ?_
  refine l_iadd (pc := 498) C dL_law_498 ?_
  refine l_sld (pc := 499) C hX hbl hL ⟨by omega, by omega⟩ dL_law_499 ?_
  refine l_callM (pc := 500) (rest := [vL r]) (st1 := [vL r', vL r]) C hbX hbM [vI (xs (6 * (k : Int) + 1).toNat).toInt, vI (xs (6 * (k : Int) + 2).toNat).toInt] (c_m_picks l h2) cl_RL_59 m_s0 rfl rfl rfl rfl ⟨(Nat.le_of_ble_eq_true rfl), (Nat.le_of_ble_eq_true rfl)⟩ hce (Nat.le_of_ble_eq_true rfl) rfl rfl dL_law_500 ?_
  refine l_lcmp (pc := 503) C dL_law_503 ?_
  refine l_if_eq (pc := 504) (tgt := 1134) (α := Unit) (f := some ()) (g := none) (r := ()) C (if_pos (lcmp_0 h3)) dL_law_504 (by decide) (fun _ _ => ?_) (fun _ z => nomatch z)
  exact hnext _ _ h4
theorem lc_later (C : CX p s m #[Value.ref b] meth c code 4 RL D E vwCl Ext (fun q => s.heap.size ≤ q)) (hX : va_X b L xs s s.heap) (hbl : b < s.heap.size) (hL : L ≤ 3072) (hbX : s.heap.size ≤ bX) (hbM : bM = bX + xN) (hE0 : xExt σ bX s) (hce : ce ≤ room_1.cells ∧ sl ≤ room_1.slots) {R : Nat → Mem → Mem → Prop} (hs : LS_later R) {k : Nat} (hk : k < 512) (hk6 : 6 * k + 6 ≤ L) {Mx Mm : Mem} (hR : R k Mx Mm) (hnext : ∀ Mx1 Mm1, R (k + 1) Mx1 Mm1 → WLw p l e room_1 s m #[Value.ref b] below meth c 4 D E bX bM ce sl Q Mx1 Mm1 1134 [(0, vR b 0), (1, vR bX 0), (2, vR bM 0), (3, vI (6 * (k : Int)))] []) : WLw p l e room_1 s m #[Value.ref b] below meth c 4 D E bX bM ce sl Q Mx Mm 509 [(0, vR b 0), (1, vR bX 0), (2, vR bM 0), (3, vI (6 * (k : Int)))] [] := by
  obtain ⟨r, r', Mx1, Mm1, h1, h2, h3, h4⟩ := hs k Mx Mm (xs (6 * (k : Int) + 1).toNat).toInt (xs (6 * (k : Int) + 2).toNat).toInt (xs (6 * (k : Int) + 3).toNat).toInt hk (i32_of _) (i32_of _) (i32_of _) hR
  refine l_aload_n (pc := 509) C 1 rfl rfl dL_law_509 ?_
  refine l_aload_n (pc := 510) C 0 rfl rfl dL_law_510 ?_
  refine l_iload_n (pc := 511) C 3 rfl rfl dL_law_511 ?_
  refine l_iconst (pc := 512) C dL_law_512 ?_
  refine l_iadd (pc := 513) C dL_law_513 ?_
  refine l_sld (pc := 514) C hX hbl hL ⟨by omega, by omega⟩ dL_law_514 ?_
  refine l_aload_n (pc := 515) C 0 rfl rfl dL_law_515 ?_
  refine l_iload_n (pc := 516) C 3 rfl rfl dL_law_516 ?_
  refine l_iconst (pc := 517) C dL_law_517 ?_
  refine l_iadd (pc := 518) C dL_law_518 ?_
  refine l_sld (pc := 519) C hX hbl hL ⟨by omega, by omega⟩ dL_law_519 ?_
  refine l_aload_n (pc := 520) C 0 rfl rfl dL_law_520 ?_
  refine l_iload_n (pc := 521) C 3 rfl rfl dL_law_521 ?_
  refine l_iconst (pc := 522) C dL_law_522 ?_
  refine l_iadd (pc := 523) C dL_law_523 ?_
  refine l_sld (pc := 524) C hX hbl hL ⟨by omega, by omega⟩ dL_law_524 ?_
  refine l_callX (pc := 525) (rest := []) (st1 := [vI r]) C hbX hbM hE0 [vI (xs (6 * (k : Int) + 1).toNat).toInt, vI (xs (6 * (k : Int) + 2).toNat).toInt, vI (xs (6 * (k : Int) + 3).toNat).toInt] (c_x_X_later l h1) cl_RL_60 x_s0 rfl rfl rfl rfl ⟨(Nat.le_of_ble_eq_true rfl), (Nat.le_of_ble_eq_true rfl)⟩ hce (Nat.le_of_ble_eq_true rfl) rfl rfl dL_law_525 ?_
  refine l_aload_n (pc := 528) C 2 rfl rfl dL_law_528 ?_
  refine l_aload_n (pc := 529) C 0 rfl rfl dL_law_529 ?_
  refine l_iload_n (pc := 530) C 3 rfl rfl dL_law_530 ?_
  refine l_iconst (pc := 531) C dL_law_531 ?_
  refine l_iadd (pc := 532) C dL_law_532 ?_
  refine l_sld (pc := 533) C hX hbl hL ⟨by omega, by omega⟩ dL_law_533 ?_
  refine l_aload_n (pc := 534) C 0 rfl rfl dL_law_534 ?_
  refine l_iload_n (pc := 535) C 3 rfl rfl dL_law_535 ?_
  refine l_iconst (pc := 536) C dL_law_536 ?_
  refine l_iadd (pc := 537) C dL_law_537 ?_
  refine l_sld (pc := 538) C hX hbl hL ⟨by omega, by omega⟩ dL_law_538 ?_
  refine l_aload_n (pc := 539) C 0 rfl rfl dL_law_539 ?_
  refine l_iload_n (pc := 540) C 3 rfl rfl dL_law_540 ?_
  refine l_iconst (pc := 541) C dL_law_541 ?_
  refine l_iadd (pc := 542) C dL_law_542 ?_
  refine l_sld (pc := 543) C hX hbl hL ⟨by omega, by omega⟩ dL_law_543 ?_
  refine l_callM (pc := 544) (rest := [vI r]) (st1 := [vI r', vI r]) C hbX hbM [vI (xs (6 * (k : Int) + 1).toNat).toInt, vI (xs (6 * (k : Int) + 2).toNat).toInt, vI (xs (6 * (k : Int) + 3).toNat).toInt] (c_m_later l h2) cl_RL_63 m_s0 rfl rfl rfl rfl ⟨(Nat.le_of_ble_eq_true rfl), (Nat.le_of_ble_eq_true rfl)⟩ hce (Nat.le_of_ble_eq_true rfl) rfl rfl dL_law_544 ?_
  refine l_icmp_eq (pc := 547) (tgt := 1134) (α := Unit) (f := some ()) (g := none) (r := ()) C (if_pos h3) dL_law_547 (by decide) (fun _ _ => ?_) (fun _ z => nomatch z)
  exact hnext _ _ h4
theorem lc_ends (C : CX p s m #[Value.ref b] meth c code 4 RL D E vwCl Ext (fun q => s.heap.size ≤ q)) (hX : va_X b L xs s s.heap) (hbl : b < s.heap.size) (hL : L ≤ 3072) (hbX : s.heap.size ≤ bX) (hbM : bM = bX + xN) (hE0 : xExt σ bX s) (hce : ce ≤ room_1.cells ∧ sl ≤ room_1.slots) {R : Nat → Mem → Mem → Prop} (hs : LS_ends R) {k : Nat} (hk : k < 512) (hk6 : 6 * k + 6 ≤ L) {Mx Mm : Mem} (hR : R k Mx Mm) (hnext : ∀ Mx1 Mm1, R (k + 1) Mx1 Mm1 → WLw p l e room_1 s m #[Value.ref b] below meth c 4 D E bX bM ce sl Q Mx1 Mm1 1134 [(0, vR b 0), (1, vR bX 0), (2, vR bM 0), (3, vI (6 * (k : Int)))] []) : WLw p l e room_1 s m #[Value.ref b] below meth c 4 D E bX bM ce sl Q Mx Mm 552 [(0, vR b 0), (1, vR bX 0), (2, vR bM 0), (3, vI (6 * (k : Int)))] [] := by
  obtain ⟨r, r', Mx1, Mm1, h1, h2, h3, h4⟩ := hs k Mx Mm (xs (6 * (k : Int) + 1).toNat).toInt hk (i32_of _) hR
  refine l_aload_n (pc := 552) C 1 rfl rfl dL_law_552 ?_
  refine l_aload_n (pc := 553) C 0 rfl rfl dL_law_553 ?_
  refine l_iload_n (pc := 554) C 3 rfl rfl dL_law_554 ?_
  refine l_iconst (pc := 555) C dL_law_555 ?_
  refine l_iadd (pc := 556) C dL_law_556 ?_
  refine l_sld (pc := 557) C hX hbl hL ⟨by omega, by omega⟩ dL_law_557 ?_
  refine l_callX (pc := 558) (rest := []) (st1 := [vI r]) C hbX hbM hE0 [vI (xs (6 * (k : Int) + 1).toNat).toInt] (c_x_X_ends l h1) cl_RL_64 x_s0 rfl rfl rfl rfl ⟨(Nat.le_of_ble_eq_true rfl), (Nat.le_of_ble_eq_true rfl)⟩ hce (Nat.le_of_ble_eq_true rfl) rfl rfl dL_law_558 ?_
  refine l_aload_n (pc := 561) C 2 rfl rfl dL_law_561 ?_
  refine l_aload_n (pc := 562) C 0 rfl rfl dL_law_562 ?_
  refine l_iload_n (pc := 563) C 3 rfl rfl dL_law_563 ?_
  refine l_iconst (pc := 564) C dL_law_564 ?_
  refine l_iadd (pc := 565) C dL_law_565 ?_
  refine l_sld (pc := 566) C hX hbl hL ⟨by omega, by omega⟩ dL_law_566 ?_
  refine l_callM (pc := 567) (rest := [vI r]) (st1 := [vI r', vI r]) C hbX hbM [vI (xs (6 * (k : Int) + 1).toNat).toInt] (c_m_ends l h2) cl_RL_67 m_s0 rfl rfl rfl rfl ⟨(Nat.le_of_ble_eq_true rfl), (Nat.le_of_ble_eq_true rfl)⟩ hce (Nat.le_of_ble_eq_true rfl) rfl rfl dL_law_567 ?_
  refine l_icmp_eq (pc := 570) (tgt := 1134) (α := Unit) (f := some ()) (g := none) (r := ()) C (if_pos h3) dL_law_570 (by decide) (fun _ _ => ?_) (fun _ z => nomatch z)
  exact hnext _ _ h4
theorem lc_busy (C : CX p s m #[Value.ref b] meth c code 4 RL D E vwCl Ext (fun q => s.heap.size ≤ q)) (hX : va_X b L xs s s.heap) (hbl : b < s.heap.size) (hL : L ≤ 3072) (hbX : s.heap.size ≤ bX) (hbM : bM = bX + xN) (hE0 : xExt σ bX s) (hce : ce ≤ room_1.cells ∧ sl ≤ room_1.slots) {R : Nat → Mem → Mem → Prop} (hs : LS_busy R) {k : Nat} (hk : k < 512) (hk6 : 6 * k + 6 ≤ L) {Mx Mm : Mem} (hR : R k Mx Mm) (hnext : ∀ Mx1 Mm1, R (k + 1) Mx1 Mm1 → WLw p l e room_1 s m #[Value.ref b] below meth c 4 D E bX bM ce sl Q Mx1 Mm1 1134 [(0, vR b 0), (1, vR bX 0), (2, vR bM 0), (3, vI (6 * (k : Int)))] []) : WLw p l e room_1 s m #[Value.ref b] below meth c 4 D E bX bM ce sl Q Mx Mm 575 [(0, vR b 0), (1, vR bX 0), (2, vR bM 0), (3, vI (6 * (k : Int)))] [] := by
  obtain ⟨r, r', Mx1, Mm1, h1, h2, h3, h4⟩ := hs k Mx Mm (xs (6 * (k : Int) + 1).toNat).toInt hk (i32_of _) hR
  refine l_aload_n (pc := 575) C 1 rfl rfl dL_law_575 ?_
  refine l_aload_n (pc := 576) C 0 rfl rfl dL_law_576 ?_
  refine l_iload_n (pc := 577) C 3 rfl rfl dL_law_577 ?_
  refine l_iconst (pc := 578) C dL_law_578 ?_
  refine l_iadd (pc := 579) C dL_law_579 ?_
  refine l_sld (pc := 580) C hX hbl hL ⟨by omega, by omega⟩ dL_law_580 ?_
  refine l_callX (pc := 581) (rest := []) (st1 := [vI r]) C hbX hbM hE0 [vI (xs (6 * (k : Int) + 1).toNat).toInt] (c_x_X_busy l h1) cl_RL_68 x_s0 rfl rfl rfl rfl ⟨(Nat.le_of_ble_eq_true rfl), (Nat.le_of_ble_eq_true rfl)⟩ hce (Nat.le_of_ble_eq_true rfl) rfl rfl dL_law_581 ?_
  refine l_aload_n (pc := 584) C 2 rfl rfl dL_law_584 ?_
  refine l_aload_n (pc := 585) C 0 rfl rfl dL_law_585 ?_
  refine l_iload_n (pc := 586) C 3 rfl rfl dL_law_586 ?_
  refine l_iconst (pc := 587) C dL_law_587 ?_
  refine l_iadd (pc := 588) C dL_law_588 ?_
  refine l_sld (pc := 589) C hX hbl hL ⟨by omega, by omega⟩ dL_law_589 ?_
  refine l_callM (pc := 590) (rest := [vI r]) (st1 := [vI r', vI r]) C hbX hbM [vI (xs (6 * (k : Int) + 1).toNat).toInt] (c_m_busy l h2) cl_RL_71 m_s0 rfl rfl rfl rfl ⟨(Nat.le_of_ble_eq_true rfl), (Nat.le_of_ble_eq_true rfl)⟩ hce (Nat.le_of_ble_eq_true rfl) rfl rfl dL_law_590 ?_
  refine l_icmp_eq (pc := 593) (tgt := 1134) (α := Unit) (f := some ()) (g := none) (r := ()) C (if_pos h3) dL_law_593 (by decide) (fun _ _ => ?_) (fun _ z => nomatch z)
  exact hnext _ _ h4
theorem lc_match (C : CX p s m #[Value.ref b] meth c code 4 RL D E vwCl Ext (fun q => s.heap.size ≤ q)) (hX : va_X b L xs s s.heap) (hbl : b < s.heap.size) (hL : L ≤ 3072) (hbX : s.heap.size ≤ bX) (hbM : bM = bX + xN) (hE0 : xExt σ bX s) (hce : ce ≤ room_1.cells ∧ sl ≤ room_1.slots) {R : Nat → Mem → Mem → Prop} (hs : LS_match R) {k : Nat} (hk : k < 512) (hk6 : 6 * k + 6 ≤ L) {Mx Mm : Mem} (hR : R k Mx Mm) (hnext : ∀ Mx1 Mm1, R (k + 1) Mx1 Mm1 → WLw p l e room_1 s m #[Value.ref b] below meth c 4 D E bX bM ce sl Q Mx1 Mm1 1134 [(0, vR b 0), (1, vR bX 0), (2, vR bM 0), (3, vI (6 * (k : Int)))] []) : WLw p l e room_1 s m #[Value.ref b] below meth c 4 D E bX bM ce sl Q Mx Mm 598 [(0, vR b 0), (1, vR bX 0), (2, vR bM 0), (3, vI (6 * (k : Int)))] [] := by
  obtain ⟨r, r', Mx1, Mm1, h1, h2, h3, h4⟩ := hs k Mx Mm (xs (6 * (k : Int) + 1).toNat).toInt hk (i32_of _) hR
  refine l_aload_n (pc := 598) C 1 rfl rfl dL_law_598 ?_
  refine l_aload_n (pc := 599) C 0 rfl rfl dL_law_599 ?_
  refine l_iload_n (pc := 600) C 3 rfl rfl dL_law_600 ?_
  refine l_iconst (pc := 601) C dL_law_601 ?_
  refine l_iadd (pc := 602) C dL_law_602 ?_
  refine l_sld (pc := 603) C hX hbl hL ⟨by omega, by omega⟩ dL_law_603 ?_
  refine l_callX (pc := 604) (rest := []) (st1 := [vI r]) C hbX hbM hE0 [vI (xs (6 * (k : Int) + 1).toNat).toInt] (c_x_X_match l h1) cl_RL_72 x_s0 rfl rfl rfl rfl ⟨(Nat.le_of_ble_eq_true rfl), (Nat.le_of_ble_eq_true rfl)⟩ hce (Nat.le_of_ble_eq_true rfl) rfl rfl dL_law_604 ?_
  refine l_aload_n (pc := 607) C 2 rfl rfl dL_law_607 ?_
  refine l_aload_n (pc := 608) C 0 rfl rfl dL_law_608 ?_
  refine l_iload_n (pc := 609) C 3 rfl rfl dL_law_609 ?_
  refine l_iconst (pc := 610) C dL_law_610 ?_
  refine l_iadd (pc := 611) C dL_law_611 ?_
  refine l_sld (pc := 612) C hX hbl hL ⟨by omega, by omega⟩ dL_law_612 ?_
  refine l_callM (pc := 613) (rest := [vI r]) (st1 := [vI r', vI r]) C hbX hbM [vI (xs (6 * (k : Int) + 1).toNat).toInt] (c_m_match l h2) cl_RL_75 m_s0 rfl rfl rfl rfl ⟨(Nat.le_of_ble_eq_true rfl), (Nat.le_of_ble_eq_true rfl)⟩ hce (Nat.le_of_ble_eq_true rfl) rfl rfl dL_law_613 ?_
  refine l_icmp_eq (pc := 616) (tgt := 1134) (α := Unit) (f := some ()) (g := none) (r := ()) C (if_pos h3) dL_law_616 (by decide) (fun _ _ => ?_) (fun _ z => nomatch z)
  exact hnext _ _ h4
theorem lc_choir (C : CX p s m #[Value.ref b] meth c code 4 RL D E vwCl Ext (fun q => s.heap.size ≤ q)) (hX : va_X b L xs s s.heap) (hbl : b < s.heap.size) (hL : L ≤ 3072) (hbX : s.heap.size ≤ bX) (hbM : bM = bX + xN) (hE0 : xExt σ bX s) (hce : ce ≤ room_1.cells ∧ sl ≤ room_1.slots) {R : Nat → Mem → Mem → Prop} (hs : LS_choir R) {k : Nat} (hk : k < 512) (hk6 : 6 * k + 6 ≤ L) {Mx Mm : Mem} (hR : R k Mx Mm) (hnext : ∀ Mx1 Mm1, R (k + 1) Mx1 Mm1 → WLw p l e room_1 s m #[Value.ref b] below meth c 4 D E bX bM ce sl Q Mx1 Mm1 1134 [(0, vR b 0), (1, vR bX 0), (2, vR bM 0), (3, vI (6 * (k : Int)))] []) : WLw p l e room_1 s m #[Value.ref b] below meth c 4 D E bX bM ce sl Q Mx Mm 621 [(0, vR b 0), (1, vR bX 0), (2, vR bM 0), (3, vI (6 * (k : Int)))] [] := by
  obtain ⟨r, r', Mx1, Mm1, h1, h2, h3, h4⟩ := hs k Mx Mm (xs (6 * (k : Int) + 1).toNat).toInt hk (i32_of _) hR
  refine l_aload_n (pc := 621) C 1 rfl rfl dL_law_621 ?_
  refine l_aload_n (pc := 622) C 0 rfl rfl dL_law_622 ?_
  refine l_iload_n (pc := 623) C 3 rfl rfl dL_law_623 ?_
  refine l_iconst (pc := 624) C dL_law_624 ?_
  refine l_iadd (pc := 625) C dL_law_625 ?_
  refine l_sld (pc := 626) C hX hbl hL ⟨by omega, by omega⟩ dL_law_626 ?_
  refine l_callX (pc := 627) (rest := []) (st1 := [vI r]) C hbX hbM hE0 [vI (xs (6 * (k : Int) + 1).toNat).toInt] (c_x_X_choir l h1) cl_RL_76 x_s0 rfl rfl rfl rfl ⟨(Nat.le_of_ble_eq_true rfl), (Nat.le_of_ble_eq_true rfl)⟩ hce (Nat.le_of_ble_eq_true rfl) rfl rfl dL_law_627 ?_
  refine l_aload_n (pc := 630) C 2 rfl rfl dL_law_630 ?_
  refine l_aload_n (pc := 631) C 0 rfl rfl dL_law_631 ?_
  refine l_iload_n (pc := 632) C 3 rfl rfl dL_law_632 ?_
  refine l_iconst (pc := 633) C dL_law_633 ?_
  refine l_iadd (pc := 634) C dL_law_634 ?_
  refine l_sld (pc := 635) C hX hbl hL ⟨by omega, by omega⟩ dL_law_635 ?_
  refine l_callM (pc := 636) (rest := [vI r]) (st1 := [vI r', vI r]) C hbX hbM [vI (xs (6 * (k : Int) + 1).toNat).toInt] (c_m_choir l h2) cl_RL_79 m_s0 rfl rfl rfl rfl ⟨(Nat.le_of_ble_eq_true rfl), (Nat.le_of_ble_eq_true rfl)⟩ hce (Nat.le_of_ble_eq_true rfl) rfl rfl dL_law_636 ?_
  refine l_icmp_eq (pc := 639) (tgt := 1134) (α := Unit) (f := some ()) (g := none) (r := ()) C (if_pos h3) dL_law_639 (by decide) (fun _ _ => ?_) (fun _ z => nomatch z)
  exact hnext _ _ h4
theorem lc_worst (C : CX p s m #[Value.ref b] meth c code 4 RL D E vwCl Ext (fun q => s.heap.size ≤ q)) (hX : va_X b L xs s s.heap) (hbl : b < s.heap.size) (hL : L ≤ 3072) (hbX : s.heap.size ≤ bX) (hbM : bM = bX + xN) (hE0 : xExt σ bX s) (hce : ce ≤ room_1.cells ∧ sl ≤ room_1.slots) {R : Nat → Mem → Mem → Prop} (hs : LS_worst R) {k : Nat} (hk : k < 512) (hk6 : 6 * k + 6 ≤ L) {Mx Mm : Mem} (hR : R k Mx Mm) (hnext : ∀ Mx1 Mm1, R (k + 1) Mx1 Mm1 → WLw p l e room_1 s m #[Value.ref b] below meth c 4 D E bX bM ce sl Q Mx1 Mm1 1134 [(0, vR b 0), (1, vR bX 0), (2, vR bM 0), (3, vI (6 * (k : Int)))] []) : WLw p l e room_1 s m #[Value.ref b] below meth c 4 D E bX bM ce sl Q Mx Mm 644 [(0, vR b 0), (1, vR bX 0), (2, vR bM 0), (3, vI (6 * (k : Int)))] [] := by
  obtain ⟨r, r', Mx1, Mm1, h1, h2, h3, h4⟩ := hs k Mx Mm (xs (6 * (k : Int) + 1).toNat).toInt (xs (6 * (k : Int) + 2).toNat).toInt hk (i32_of _) (i32_of _) hR
  refine l_aload_n (pc := 644) C 1 rfl rfl dL_law_644 ?_
  refine l_aload_n (pc := 645) C 0 rfl rfl dL_law_645 ?_
  refine l_iload_n (pc := 646) C 3 rfl rfl dL_law_646 ?_
  refine l_iconst (pc := 647) C dL_law_647 ?_
  refine l_iadd (pc := 648) C dL_law_648 ?_
  refine l_sld (pc := 649) C hX hbl hL ⟨by omega, by omega⟩ dL_law_649 ?_
  refine l_aload_n (pc := 650) C 0 rfl rfl dL_law_650 ?_
  refine l_iload_n (pc := 651) C 3 rfl rfl dL_law_651 ?_
  refine l_iconst (pc := 652) C dL_law_652 ?_
  refine l_iadd (pc := 653) C dL_law_653 ?_
  refine l_sld (pc := 654) C hX hbl hL ⟨by omega, by omega⟩ dL_law_654 ?_
  refine l_callX (pc := 655) (rest := []) (st1 := [vI r]) C hbX hbM hE0 [vI (xs (6 * (k : Int) + 1).toNat).toInt, vI (xs (6 * (k : Int) + 2).toNat).toInt] (c_x_X_worst l h1) cl_RL_80 x_s0 rfl rfl rfl rfl ⟨(Nat.le_of_ble_eq_true rfl), (Nat.le_of_ble_eq_true rfl)⟩ hce (Nat.le_of_ble_eq_true rfl) rfl rfl dL_law_655 ?_
  refine l_aload_n (pc := 658) C 2 rfl rfl dL_law_658 ?_
  refine l_aload_n (pc := 659) C 0 rfl rfl dL_law_659 ?_
  refine l_iload_n (pc := 660) C 3 rfl rfl dL_law_660 ?_
  refine l_iconst (pc := 661) C dL_law_661 ?_
  refine l_iadd (pc := 662) C dL_law_662 ?_
  refine l_sld (pc := 663) C hX hbl hL ⟨by omega, by omega⟩ dL_law_663 ?_
  refine l_aload_n (pc := 664) C 0 rfl rfl dL_law_664 ?_
  refine l_iload_n (pc := 665) C 3 rfl rfl dL_law_665 ?_
  refine l_iconst (pc := 666) C dL_law_666 ?_
  refine l_iadd (pc := 667) C dL_law_667 ?_
  refine l_sld (pc := 668) C hX hbl hL ⟨by omega, by omega⟩ dL_law_668 ?_
  refine l_callM (pc := 669) (rest := [vI r]) (st1 := [vI r', vI r]) C hbX hbM [vI (xs (6 * (k : Int) + 1).toNat).toInt, vI (xs (6 * (k : Int) + 2).toNat).toInt] (c_m_worst l h2) cl_RL_83 m_s0 rfl rfl rfl rfl ⟨(Nat.le_of_ble_eq_true rfl), (Nat.le_of_ble_eq_true rfl)⟩ hce (Nat.le_of_ble_eq_true rfl) rfl rfl dL_law_669 ?_
  refine l_icmp_eq (pc := 672) (tgt := 1134) (α := Unit) (f := some ()) (g := none) (r := ()) C (if_pos h3) dL_law_672 (by decide) (fun _ _ => ?_) (fun _ z => nomatch z)
  exact hnext _ _ h4
theorem lc_tune (C : CX p s m #[Value.ref b] meth c code 4 RL D E vwCl Ext (fun q => s.heap.size ≤ q)) (hX : va_X b L xs s s.heap) (hbl : b < s.heap.size) (hL : L ≤ 3072) (hbX : s.heap.size ≤ bX) (hbM : bM = bX + xN) (hE0 : xExt σ bX s) (hce : ce ≤ room_1.cells ∧ sl ≤ room_1.slots) {R : Nat → Mem → Mem → Prop} (hs : LS_tune R) {k : Nat} (hk : k < 512) (hk6 : 6 * k + 6 ≤ L) {Mx Mm : Mem} (hR : R k Mx Mm) (hnext : ∀ Mx1 Mm1, R (k + 1) Mx1 Mm1 → WLw p l e room_1 s m #[Value.ref b] below meth c 4 D E bX bM ce sl Q Mx1 Mm1 1134 [(0, vR b 0), (1, vR bX 0), (2, vR bM 0), (3, vI (6 * (k : Int)))] []) : WLw p l e room_1 s m #[Value.ref b] below meth c 4 D E bX bM ce sl Q Mx Mm 677 [(0, vR b 0), (1, vR bX 0), (2, vR bM 0), (3, vI (6 * (k : Int)))] [] := by
  obtain ⟨r, r', Mx1, Mm1, h1, h2, h3, h4⟩ := hs k Mx Mm (xs (6 * (k : Int) + 1).toNat).toInt (xs (6 * (k : Int) + 2).toNat).toInt (xs (6 * (k : Int) + 3).toNat).toInt hk (i32_of _) (i32_of _) (i32_of _) hR
  refine l_aload_n (pc := 677) C 1 rfl rfl dL_law_677 ?_
  refine l_aload_n (pc := 678) C 0 rfl rfl dL_law_678 ?_
  refine l_iload_n (pc := 679) C 3 rfl rfl dL_law_679 ?_
  refine l_iconst (pc := 680) C dL_law_680 ?_
  refine l_iadd (pc := 681) C dL_law_681 ?_
  refine l_sld (pc := 682) C hX hbl hL ⟨by omega, by omega⟩ dL_law_682 ?_
  refine l_aload_n (pc := 683) C 0 rfl rfl dL_law_683 ?_
  refine l_iload_n (pc := 684) C 3 rfl rfl dL_law_684 ?_
  refine l_iconst (pc := 685) C dL_law_685 ?_
  refine l_iadd (pc := 686) C dL_law_686 ?_
  refine l_sld (pc := 687) C hX hbl hL ⟨by omega, by omega⟩ dL_law_687 ?_
  refine l_aload_n (pc := 688) C 0 rfl rfl dL_law_688 ?_
  refine l_iload_n (pc := 689) C 3 rfl rfl dL_law_689 ?_
  refine l_iconst (pc := 690) C dL_law_690 ?_
  refine l_iadd (pc := 691) C dL_law_691 ?_
  refine l_sld (pc := 692) C hX hbl hL ⟨by omega, by omega⟩ dL_law_692 ?_
  refine l_callX (pc := 693) (rest := []) (st1 := [vI r]) C hbX hbM hE0 [vI (xs (6 * (k : Int) + 1).toNat).toInt, vI (xs (6 * (k : Int) + 2).toNat).toInt, vI (xs (6 * (k : Int) + 3).toNat).toInt] (c_x_X_tune l h1) cl_RL_84 x_s0 rfl rfl rfl rfl ⟨(Nat.le_of_ble_eq_true rfl), (Nat.le_of_ble_eq_true rfl)⟩ hce (Nat.le_of_ble_eq_true rfl) rfl rfl dL_law_693 ?_
  refine l_aload_n (pc := 696) C 2 rfl rfl dL_law_696 ?_
  refine l_aload_n (pc := 697) C 0 rfl rfl dL_law_697 ?_
  refine l_iload_n (pc := 698) C 3 rfl rfl dL_law_698 ?_
  refine l_iconst (pc := 699) C dL_law_699 ?_
  refine l_iadd (pc := 700) C dL_law_700 ?_
  refine l_sld (pc := 701) C hX hbl hL ⟨by omega, by omega⟩ dL_law_701 ?_
  refine l_aload_n (pc := 702) C 0 rfl rfl dL_law_702 ?_
  refine l_iload_n (pc := 703) C 3 rfl rfl dL_law_703 ?_
  refine l_iconst (pc := 704) C dL_law_704 ?_
  refine l_iadd (pc := 705) C dL_law_705 ?_
  refine l_sld (pc := 706) C hX hbl hL ⟨by omega, by omega⟩ dL_law_706 ?_
  refine l_aload_n (pc := 707) C 0 rfl rfl dL_law_707 ?_
  refine l_iload_n (pc := 708) C 3 rfl rfl dL_law_708 ?_
  refine l_iconst (pc := 709) C dL_law_709 ?_
  refine l_iadd (pc := 710) C dL_law_710 ?_
  refine l_sld (pc := 711) C hX hbl hL ⟨by omega, by omega⟩ dL_law_711 ?_
  refine l_callM (pc := 712) (rest := [vI r]) (st1 := [vI r', vI r]) C hbX hbM [vI (xs (6 * (k : Int) + 1).toNat).toInt, vI (xs (6 * (k : Int) + 2).toNat).toInt, vI (xs (6 * (k : Int) + 3).toNat).toInt] (c_m_tune l h2) cl_RL_87 m_s0 rfl rfl rfl rfl ⟨(Nat.le_of_ble_eq_true rfl), (Nat.le_of_ble_eq_true rfl)⟩ hce (Nat.le_of_ble_eq_true rfl) rfl rfl dL_law_712 ?_
  refine l_icmp_eq (pc := 715) (tgt := 1134) (α := Unit) (f := some ()) (g := none) (r := ()) C (if_pos h3) dL_law_715 (by decide) (fun _ _ => ?_) (fun _ z => nomatch z)
  exact hnext _ _ h4
theorem lc_needed (C : CX p s m #[Value.ref b] meth c code 4 RL D E vwCl Ext (fun q => s.heap.size ≤ q)) (hX : va_X b L xs s s.heap) (hbl : b < s.heap.size) (hL : L ≤ 3072) (hbX : s.heap.size ≤ bX) (hbM : bM = bX + xN) (hE0 : xExt σ bX s) (hce : ce ≤ room_1.cells ∧ sl ≤ room_1.slots) {R : Nat → Mem → Mem → Prop} (hs : LS_needed R) {k : Nat} (hk : k < 512) (hk6 : 6 * k + 6 ≤ L) {Mx Mm : Mem} (hR : R k Mx Mm) (hnext : ∀ Mx1 Mm1, R (k + 1) Mx1 Mm1 → WLw p l e room_1 s m #[Value.ref b] below meth c 4 D E bX bM ce sl Q Mx1 Mm1 1134 [(0, vR b 0), (1, vR bX 0), (2, vR bM 0), (3, vI (6 * (k : Int)))] []) : WLw p l e room_1 s m #[Value.ref b] below meth c 4 D E bX bM ce sl Q Mx Mm 720 [(0, vR b 0), (1, vR bX 0), (2, vR bM 0), (3, vI (6 * (k : Int)))] [] := by
  obtain ⟨r, r', Mx1, Mm1, h1, h2, h3, h4⟩ := hs k Mx Mm (xs (6 * (k : Int) + 1).toNat).toInt hk (i32_of _) hR
  refine l_aload_n (pc := 720) C 1 rfl rfl dL_law_720 ?_
  refine l_aload_n (pc := 721) C 0 rfl rfl dL_law_721 ?_
  refine l_iload_n (pc := 722) C 3 rfl rfl dL_law_722 ?_
  refine l_iconst (pc := 723) C dL_law_723 ?_
  refine l_iadd (pc := 724) C dL_law_724 ?_
  refine l_sld (pc := 725) C hX hbl hL ⟨by omega, by omega⟩ dL_law_725 ?_
  refine l_callX (pc := 726) (rest := []) (st1 := [vI r]) C hbX hbM hE0 [vI (xs (6 * (k : Int) + 1).toNat).toInt] (c_x_X_needed l h1) cl_RL_88 x_s0 rfl rfl rfl rfl ⟨(Nat.le_of_ble_eq_true rfl), (Nat.le_of_ble_eq_true rfl)⟩ hce (Nat.le_of_ble_eq_true rfl) rfl rfl dL_law_726 ?_
  refine l_aload_n (pc := 729) C 2 rfl rfl dL_law_729 ?_
  refine l_aload_n (pc := 730) C 0 rfl rfl dL_law_730 ?_
  refine l_iload_n (pc := 731) C 3 rfl rfl dL_law_731 ?_
  refine l_iconst (pc := 732) C dL_law_732 ?_
  refine l_iadd (pc := 733) C dL_law_733 ?_
  refine l_sld (pc := 734) C hX hbl hL ⟨by omega, by omega⟩ dL_law_734 ?_
  refine l_callM (pc := 735) (rest := [vI r]) (st1 := [vI r', vI r]) C hbX hbM [vI (xs (6 * (k : Int) + 1).toNat).toInt] (c_m_needed l h2) cl_RL_91 m_s0 rfl rfl rfl rfl ⟨(Nat.le_of_ble_eq_true rfl), (Nat.le_of_ble_eq_true rfl)⟩ hce (Nat.le_of_ble_eq_true rfl) rfl rfl dL_law_735 ?_
  refine l_icmp_eq (pc := 738) (tgt := 1134) (α := Unit) (f := some ()) (g := none) (r := ()) C (if_pos h3) dL_law_738 (by decide) (fun _ _ => ?_) (fun _ z => nomatch z)
  exact hnext _ _ h4
theorem lc_odds (C : CX p s m #[Value.ref b] meth c code 4 RL D E vwCl Ext (fun q => s.heap.size ≤ q)) (hX : va_X b L xs s s.heap) (hbl : b < s.heap.size) (hL : L ≤ 3072) (hbX : s.heap.size ≤ bX) (hbM : bM = bX + xN) (hE0 : xExt σ bX s) (hce : ce ≤ room_1.cells ∧ sl ≤ room_1.slots) {R : Nat → Mem → Mem → Prop} (hs : LS_odds R) {k : Nat} (hk : k < 512) (hk6 : 6 * k + 6 ≤ L) {Mx Mm : Mem} (hR : R k Mx Mm) (hnext : ∀ Mx1 Mm1, R (k + 1) Mx1 Mm1 → WLw p l e room_1 s m #[Value.ref b] below meth c 4 D E bX bM ce sl Q Mx1 Mm1 1134 [(0, vR b 0), (1, vR bX 0), (2, vR bM 0), (3, vI (6 * (k : Int)))] []) : WLw p l e room_1 s m #[Value.ref b] below meth c 4 D E bX bM ce sl Q Mx Mm 743 [(0, vR b 0), (1, vR bX 0), (2, vR bM 0), (3, vI (6 * (k : Int)))] [] := by
  obtain ⟨r, r', Mm1, h1, h2, h3, h4⟩ := hs k Mx Mm (xs (6 * (k : Int) + 1).toNat).toInt hk (i32_of _) hR
  refine l_aload_n (pc := 743) C 1 rfl rfl dL_law_743 ?_
  refine l_aload_n (pc := 744) C 0 rfl rfl dL_law_744 ?_
  refine l_iload_n (pc := 745) C 3 rfl rfl dL_law_745 ?_
  refine l_iconst (pc := 746) C dL_law_746 ?_
  refine l_iadd (pc := 747) C dL_law_747 ?_
  refine l_sld (pc := 748) C hX hbl hL ⟨by omega, by omega⟩ dL_law_748 ?_
  refine l_callX (pc := 749) (rest := []) (st1 := [vI r]) C hbX hbM hE0 [vI (xs (6 * (k : Int) + 1).toNat).toInt] (c_x_X_odds l h1) cl_RL_92 x_s0 rfl rfl rfl rfl ⟨(Nat.le_of_ble_eq_true rfl), (Nat.le_of_ble_eq_true rfl)⟩ hce (Nat.le_of_ble_eq_true rfl) rfl rfl dL_law_749 ?_
  refine l_aload_n (pc := 752) C 2 rfl rfl dL_law_752 ?_
  refine l_aload_n (pc := 753) C 0 rfl rfl dL_law_753 ?_
  refine l_iload_n (pc := 754) C 3 rfl rfl dL_law_754 ?_
  refine l_iconst (pc := 755) C dL_law_755 ?_
  refine l_iadd (pc := 756) C dL_law_756 ?_
  refine l_sld (pc := 757) C hX hbl hL ⟨by omega, by omega⟩ dL_law_757 ?_
  refine l_callM (pc := 758) (rest := [vI r]) (st1 := [vI r', vI r]) C hbX hbM [vI (xs (6 * (k : Int) + 1).toNat).toInt] (c_m_odds l h2) cl_RL_95 m_s0 rfl rfl rfl rfl ⟨(Nat.le_of_ble_eq_true rfl), (Nat.le_of_ble_eq_true rfl)⟩ hce (Nat.le_of_ble_eq_true rfl) rfl rfl dL_law_758 ?_
  refine l_icmp_eq (pc := 761) (tgt := 1134) (α := Unit) (f := some ()) (g := none) (r := ()) C (if_pos h3) dL_law_761 (by decide) (fun _ _ => ?_) (fun _ z => nomatch z)
  exact hnext _ _ h4
theorem lc_hear (C : CX p s m #[Value.ref b] meth c code 4 RL D E vwCl Ext (fun q => s.heap.size ≤ q)) (hX : va_X b L xs s s.heap) (hbl : b < s.heap.size) (hL : L ≤ 3072) (hbX : s.heap.size ≤ bX) (hbM : bM = bX + xN) (hE0 : xExt σ bX s) (hce : ce ≤ room_1.cells ∧ sl ≤ room_1.slots) {R : Nat → Mem → Mem → Prop} (hs : LS_hear R) {k : Nat} (hk : k < 512) (hk6 : 6 * k + 6 ≤ L) {Mx Mm : Mem} (hR : R k Mx Mm) (hnext : ∀ Mx1 Mm1, R (k + 1) Mx1 Mm1 → WLw p l e room_1 s m #[Value.ref b] below meth c 4 D E bX bM ce sl Q Mx1 Mm1 1134 [(0, vR b 0), (1, vR bX 0), (2, vR bM 0), (3, vI (6 * (k : Int)))] []) : WLw p l e room_1 s m #[Value.ref b] below meth c 4 D E bX bM ce sl Q Mx Mm 766 [(0, vR b 0), (1, vR bX 0), (2, vR bM 0), (3, vI (6 * (k : Int)))] [] := by
  obtain ⟨r, r', Mx1, Mm1, h1, h2, h3, h4⟩ := hs k Mx Mm hk hR
  refine l_aload_n (pc := 766) C 1 rfl rfl dL_law_766 ?_
  refine l_callX (pc := 767) (rest := []) (st1 := [vI r]) C hbX hbM hE0 [] (c_x_X_hear l h1) cl_RL_96 x_s0 rfl rfl rfl rfl ⟨(Nat.le_of_ble_eq_true rfl), (Nat.le_of_ble_eq_true rfl)⟩ hce (Nat.le_of_ble_eq_true rfl) rfl rfl dL_law_767 ?_
  refine l_aload_n (pc := 770) C 2 rfl rfl dL_law_770 ?_
  refine l_callM (pc := 771) (rest := [vI r]) (st1 := [vI r', vI r]) C hbX hbM [] (c_m_hear l h2) cl_RL_99 m_s0 rfl rfl rfl rfl ⟨(Nat.le_of_ble_eq_true rfl), (Nat.le_of_ble_eq_true rfl)⟩ hce (Nat.le_of_ble_eq_true rfl) rfl rfl dL_law_771 ?_
  refine l_icmp_eq (pc := 774) (tgt := 1134) (α := Unit) (f := some ()) (g := none) (r := ()) C (if_pos h3) dL_law_774 (by decide) (fun _ _ => ?_) (fun _ z => nomatch z)
  exact hnext _ _ h4
theorem lc_pitches (C : CX p s m #[Value.ref b] meth c code 4 RL D E vwCl Ext (fun q => s.heap.size ≤ q)) (hX : va_X b L xs s s.heap) (hbl : b < s.heap.size) (hL : L ≤ 3072) (hbX : s.heap.size ≤ bX) (hbM : bM = bX + xN) (hE0 : xExt σ bX s) (hce : ce ≤ room_1.cells ∧ sl ≤ room_1.slots) {R : Nat → Mem → Mem → Prop} (hs : LS_pitches R) {k : Nat} (hk : k < 512) (hk6 : 6 * k + 6 ≤ L) {Mx Mm : Mem} (hR : R k Mx Mm) (hnext : ∀ Mx1 Mm1, R (k + 1) Mx1 Mm1 → WLw p l e room_1 s m #[Value.ref b] below meth c 4 D E bX bM ce sl Q Mx1 Mm1 1134 [(0, vR b 0), (1, vR bX 0), (2, vR bM 0), (3, vI (6 * (k : Int)))] []) : WLw p l e room_1 s m #[Value.ref b] below meth c 4 D E bX bM ce sl Q Mx Mm 779 [(0, vR b 0), (1, vR bX 0), (2, vR bM 0), (3, vI (6 * (k : Int)))] [] := by
  obtain ⟨r, r', Mx1, Mm1, h1, h2, h3, h4⟩ := hs k Mx Mm (xs (6 * (k : Int) + 1).toNat).toInt hk (i32_of _) hR
  refine l_aload_n (pc := 779) C 1 rfl rfl dL_law_779 ?_
  refine l_aload_n (pc := 780) C 0 rfl rfl dL_law_780 ?_
  refine l_iload_n (pc := 781) C 3 rfl rfl dL_law_781 ?_
  refine l_iconst (pc := 782) C dL_law_782 ?_
  refine l_iadd (pc := 783) C dL_law_783 ?_
  refine l_sld (pc := 784) C hX hbl hL ⟨by omega, by omega⟩ dL_law_784 ?_
  refine l_callX (pc := 785) (rest := []) (st1 := [vI r]) C hbX hbM hE0 [vI (xs (6 * (k : Int) + 1).toNat).toInt] (c_x_X_pitches l h1) cl_RL_100 x_s0 rfl rfl rfl rfl ⟨(Nat.le_of_ble_eq_true rfl), (Nat.le_of_ble_eq_true rfl)⟩ hce (Nat.le_of_ble_eq_true rfl) rfl rfl dL_law_785 ?_
  refine l_aload_n (pc := 788) C 2 rfl rfl dL_law_788 ?_
  refine l_aload_n (pc := 789) C 0 rfl rfl dL_law_789 ?_
  refine l_iload_n (pc := 790) C 3 rfl rfl dL_law_790 ?_
  refine l_iconst (pc := 791) C dL_law_791 ?_
  refine l_iadd (pc := 792) C dL_law_792 ?_
  refine l_sld (pc := 793) C hX hbl hL ⟨by omega, by omega⟩ dL_law_793 ?_
  refine l_callM (pc := 794) (rest := [vI r]) (st1 := [vI r', vI r]) C hbX hbM [vI (xs (6 * (k : Int) + 1).toNat).toInt] (c_m_pitches l h2) cl_RL_103 m_s0 rfl rfl rfl rfl ⟨(Nat.le_of_ble_eq_true rfl), (Nat.le_of_ble_eq_true rfl)⟩ hce (Nat.le_of_ble_eq_true rfl) rfl rfl dL_law_794 ?_
  refine l_icmp_eq (pc := 797) (tgt := 1134) (α := Unit) (f := some ()) (g := none) (r := ()) C (if_pos h3) dL_law_797 (by decide) (fun _ _ => ?_) (fun _ z => nomatch z)
  exact hnext _ _ h4
theorem lc_tells (C : CX p s m #[Value.ref b] meth c code 4 RL D E vwCl Ext (fun q => s.heap.size ≤ q)) (hX : va_X b L xs s s.heap) (hbl : b < s.heap.size) (hL : L ≤ 3072) (hbX : s.heap.size ≤ bX) (hbM : bM = bX + xN) (hE0 : xExt σ bX s) (hce : ce ≤ room_1.cells ∧ sl ≤ room_1.slots) {R : Nat → Mem → Mem → Prop} (hs : LS_tells R) {k : Nat} (hk : k < 512) (hk6 : 6 * k + 6 ≤ L) {Mx Mm : Mem} (hR : R k Mx Mm) (hnext : ∀ Mx1 Mm1, R (k + 1) Mx1 Mm1 → WLw p l e room_1 s m #[Value.ref b] below meth c 4 D E bX bM ce sl Q Mx1 Mm1 1134 [(0, vR b 0), (1, vR bX 0), (2, vR bM 0), (3, vI (6 * (k : Int)))] []) : WLw p l e room_1 s m #[Value.ref b] below meth c 4 D E bX bM ce sl Q Mx Mm 802 [(0, vR b 0), (1, vR bX 0), (2, vR bM 0), (3, vI (6 * (k : Int)))] [] := by
  obtain ⟨r, r', Mx1, Mm1, h1, h2, h3, h4⟩ := hs k Mx Mm (xs (6 * (k : Int) + 1).toNat).toInt (xs (6 * (k : Int) + 2).toNat).toInt hk (i32_of _) (i32_of _) hR
  refine l_aload_n (pc := 802) C 1 rfl rfl dL_law_802 ?_
  refine l_aload_n (pc := 803) C 0 rfl rfl dL_law_803 ?_
  refine l_iload_n (pc := 804) C 3 rfl rfl dL_law_804 ?_
  refine l_iconst (pc := 805) C dL_law_805 ?_
  refine l_iadd (pc := 806) C dL_law_806 ?_
  refine l_sld (pc := 807) C hX hbl hL ⟨by omega, by omega⟩ dL_law_807 ?_
  refine l_aload_n (pc := 808) C 0 rfl rfl dL_law_808 ?_
  refine l_iload_n (pc := 809) C 3 rfl rfl dL_law_809 ?_
  refine l_iconst (pc := 810) C dL_law_810 ?_
  refine l_iadd (pc := 811) C dL_law_811 ?_
  refine l_sld (pc := 812) C hX hbl hL ⟨by omega, by omega⟩ dL_law_812 ?_
  refine l_callX (pc := 813) (rest := []) (st1 := [vI r]) C hbX hbM hE0 [vI (xs (6 * (k : Int) + 1).toNat).toInt, vI (xs (6 * (k : Int) + 2).toNat).toInt] (c_x_X_tells l h1) cl_RL_104 x_s0 rfl rfl rfl rfl ⟨(Nat.le_of_ble_eq_true rfl), (Nat.le_of_ble_eq_true rfl)⟩ hce (Nat.le_of_ble_eq_true rfl) rfl rfl dL_law_813 ?_
  refine l_aload_n (pc := 816) C 2 rfl rfl dL_law_816 ?_
  refine l_aload_n (pc := 817) C 0 rfl rfl dL_law_817 ?_
  refine l_iload_n (pc := 818) C 3 rfl rfl dL_law_818 ?_
  refine l_iconst (pc := 819) C dL_law_819 ?_
  refine l_iadd (pc := 820) C dL_law_820 ?_
  refine l_sld (pc := 821) C hX hbl hL ⟨by omega, by omega⟩ dL_law_821 ?_
  refine l_aload_n (pc := 822) C 0 rfl rfl dL_law_822 ?_
  refine l_iload_n (pc := 823) C 3 rfl rfl dL_law_823 ?_
  refine l_iconst (pc := 824) C dL_law_824 ?_
  refine l_iadd (pc := 825) C dL_law_825 ?_
  refine l_sld (pc := 826) C hX hbl hL ⟨by omega, by omega⟩ dL_law_826 ?_
  refine l_callM (pc := 827) (rest := [vI r]) (st1 := [vI r', vI r]) C hbX hbM [vI (xs (6 * (k : Int) + 1).toNat).toInt, vI (xs (6 * (k : Int) + 2).toNat).toInt] (c_m_tells l h2) cl_RL_107 m_s0 rfl rfl rfl rfl ⟨(Nat.le_of_ble_eq_true rfl), (Nat.le_of_ble_eq_true rfl)⟩ hce (Nat.le_of_ble_eq_true rfl) rfl rfl dL_law_827 ?_
  refine l_icmp_eq (pc := 830) (tgt := 1134) (α := Unit) (f := some ()) (g := none) (r := ()) C (if_pos h3) dL_law_830 (by decide) (fun _ _ => ?_) (fun _ z => nomatch z)
  exact hnext _ _ h4
theorem lc_minutes (C : CX p s m #[Value.ref b] meth c code 4 RL D E vwCl Ext (fun q => s.heap.size ≤ q)) (hX : va_X b L xs s s.heap) (hbl : b < s.heap.size) (hL : L ≤ 3072) (hbX : s.heap.size ≤ bX) (hbM : bM = bX + xN) (hE0 : xExt σ bX s) (hce : ce ≤ room_1.cells ∧ sl ≤ room_1.slots) {R : Nat → Mem → Mem → Prop} (hs : LS_minutes R) {k : Nat} (hk : k < 512) (hk6 : 6 * k + 6 ≤ L) {Mx Mm : Mem} (hR : R k Mx Mm) (hnext : ∀ Mx1 Mm1, R (k + 1) Mx1 Mm1 → WLw p l e room_1 s m #[Value.ref b] below meth c 4 D E bX bM ce sl Q Mx1 Mm1 1134 [(0, vR b 0), (1, vR bX 0), (2, vR bM 0), (3, vI (6 * (k : Int)))] []) : WLw p l e room_1 s m #[Value.ref b] below meth c 4 D E bX bM ce sl Q Mx Mm 835 [(0, vR b 0), (1, vR bX 0), (2, vR bM 0), (3, vI (6 * (k : Int)))] [] := by
  obtain ⟨r, r', Mx1, Mm1, h1, h2, h3, h4⟩ := hs k Mx Mm (xs (6 * (k : Int) + 1).toNat).toInt hk (i32_of _) hR
  refine l_aload_n (pc := 835) C 1 rfl rfl dL_law_835 ?_
  refine l_aload_n (pc := 836) C 0 rfl rfl dL_law_836 ?_
  refine l_iload_n (pc := 837) C 3 rfl rfl dL_law_837 ?_
  refine l_iconst (pc := 838) C dL_law_838 ?_
  refine l_iadd (pc := 839) C dL_law_839 ?_
  refine l_sld (pc := 840) C hX hbl hL ⟨by omega, by omega⟩ dL_law_840 ?_
  refine l_callX (pc := 841) (rest := []) (st1 := [vI r]) C hbX hbM hE0 [vI (xs (6 * (k : Int) + 1).toNat).toInt] (c_x_X_minutes l h1) cl_RL_108 x_s0 rfl rfl rfl rfl ⟨(Nat.le_of_ble_eq_true rfl), (Nat.le_of_ble_eq_true rfl)⟩ hce (Nat.le_of_ble_eq_true rfl) rfl rfl dL_law_841 ?_
  refine l_aload_n (pc := 844) C 2 rfl rfl dL_law_844 ?_
  refine l_aload_n (pc := 845) C 0 rfl rfl dL_law_845 ?_
  refine l_iload_n (pc := 846) C 3 rfl rfl dL_law_846 ?_
  refine l_iconst (pc := 847) C dL_law_847 ?_
  refine l_iadd (pc := 848) C dL_law_848 ?_
  refine l_sld (pc := 849) C hX hbl hL ⟨by omega, by omega⟩ dL_law_849 ?_
  refine l_callM (pc := 850) (rest := [vI r]) (st1 := [vI r', vI r]) C hbX hbM [vI (xs (6 * (k : Int) + 1).toNat).toInt] (c_m_minutes l h2) cl_RL_111 m_s0 rfl rfl rfl rfl ⟨(Nat.le_of_ble_eq_true rfl), (Nat.le_of_ble_eq_true rfl)⟩ hce (Nat.le_of_ble_eq_true rfl) rfl rfl dL_law_850 ?_
  refine l_icmp_eq (pc := 853) (tgt := 1134) (α := Unit) (f := some ()) (g := none) (r := ()) C (if_pos h3) dL_law_853 (by decide) (fun _ _ => ?_) (fun _ z => nomatch z)
  exact hnext _ _ h4
theorem lc_chance (C : CX p s m #[Value.ref b] meth c code 4 RL D E vwCl Ext (fun q => s.heap.size ≤ q)) (hX : va_X b L xs s s.heap) (hbl : b < s.heap.size) (hL : L ≤ 3072) (hbX : s.heap.size ≤ bX) (hbM : bM = bX + xN) (hE0 : xExt σ bX s) (hce : ce ≤ room_1.cells ∧ sl ≤ room_1.slots) {R : Nat → Mem → Mem → Prop} (hs : LS_chance R) {k : Nat} (hk : k < 512) (hk6 : 6 * k + 6 ≤ L) {Mx Mm : Mem} (hR : R k Mx Mm) (hnext : ∀ Mx1 Mm1, R (k + 1) Mx1 Mm1 → WLw p l e room_1 s m #[Value.ref b] below meth c 4 D E bX bM ce sl Q Mx1 Mm1 1134 [(0, vR b 0), (1, vR bX 0), (2, vR bM 0), (3, vI (6 * (k : Int)))] []) : WLw p l e room_1 s m #[Value.ref b] below meth c 4 D E bX bM ce sl Q Mx Mm 858 [(0, vR b 0), (1, vR bX 0), (2, vR bM 0), (3, vI (6 * (k : Int)))] [] := by
  obtain ⟨r, r', Mx1, Mm1, h1, h2, h3, h4⟩ := hs k Mx Mm (xs (6 * (k : Int) + 1).toNat).toInt hk (i32_of _) hR
  refine l_aload_n (pc := 858) C 1 rfl rfl dL_law_858 ?_
  refine l_aload_n (pc := 859) C 0 rfl rfl dL_law_859 ?_
  refine l_iload_n (pc := 860) C 3 rfl rfl dL_law_860 ?_
  refine l_iconst (pc := 861) C dL_law_861 ?_
  refine l_iadd (pc := 862) C dL_law_862 ?_
  refine l_sld (pc := 863) C hX hbl hL ⟨by omega, by omega⟩ dL_law_863 ?_
  refine l_callX (pc := 864) (rest := []) (st1 := [vI r]) C hbX hbM hE0 [vI (xs (6 * (k : Int) + 1).toNat).toInt] (c_x_X_chance l h1) cl_RL_112 x_s0 rfl rfl rfl rfl ⟨(Nat.le_of_ble_eq_true rfl), (Nat.le_of_ble_eq_true rfl)⟩ hce (Nat.le_of_ble_eq_true rfl) rfl rfl dL_law_864 ?_
  refine l_aload_n (pc := 867) C 2 rfl rfl dL_law_867 ?_
  refine l_aload_n (pc := 868) C 0 rfl rfl dL_law_868 ?_
  refine l_iload_n (pc := 869) C 3 rfl rfl dL_law_869 ?_
  refine l_iconst (pc := 870) C dL_law_870 ?_
  refine l_iadd (pc := 871) C dL_law_871 ?_
  refine l_sld (pc := 872) C hX hbl hL ⟨by omega, by omega⟩ dL_law_872 ?_
  refine l_callM (pc := 873) (rest := [vI r]) (st1 := [vI r', vI r]) C hbX hbM [vI (xs (6 * (k : Int) + 1).toNat).toInt] (c_m_chance l h2) cl_RL_115 m_s0 rfl rfl rfl rfl ⟨(Nat.le_of_ble_eq_true rfl), (Nat.le_of_ble_eq_true rfl)⟩ hce (Nat.le_of_ble_eq_true rfl) rfl rfl dL_law_873 ?_
  refine l_icmp_eq (pc := 876) (tgt := 1134) (α := Unit) (f := some ()) (g := none) (r := ()) C (if_pos h3) dL_law_876 (by decide) (fun _ _ => ?_) (fun _ z => nomatch z)
  exact hnext _ _ h4
theorem lc_strike (C : CX p s m #[Value.ref b] meth c code 4 RL D E vwCl Ext (fun q => s.heap.size ≤ q)) (hX : va_X b L xs s s.heap) (hbl : b < s.heap.size) (hL : L ≤ 3072) (hbX : s.heap.size ≤ bX) (hbM : bM = bX + xN) (hE0 : xExt σ bX s) (hce : ce ≤ room_1.cells ∧ sl ≤ room_1.slots) {R : Nat → Mem → Mem → Prop} (hs : LS_strike R) {k : Nat} (hk : k < 512) (hk6 : 6 * k + 6 ≤ L) {Mx Mm : Mem} (hR : R k Mx Mm) (hnext : ∀ Mx1 Mm1, R (k + 1) Mx1 Mm1 → WLw p l e room_1 s m #[Value.ref b] below meth c 4 D E bX bM ce sl Q Mx1 Mm1 1134 [(0, vR b 0), (1, vR bX 0), (2, vR bM 0), (3, vI (6 * (k : Int)))] []) : WLw p l e room_1 s m #[Value.ref b] below meth c 4 D E bX bM ce sl Q Mx Mm 881 [(0, vR b 0), (1, vR bX 0), (2, vR bM 0), (3, vI (6 * (k : Int)))] [] := by
  obtain ⟨r, r', Mx1, Mm1, h1, h2, h3, h4⟩ := hs k Mx Mm (xs (6 * (k : Int) + 1).toNat).toInt hk (i32_of _) hR
  refine l_aload_n (pc := 881) C 1 rfl rfl dL_law_881 ?_
  refine l_aload_n (pc := 882) C 0 rfl rfl dL_law_882 ?_
  refine l_iload_n (pc := 883) C 3 rfl rfl dL_law_883 ?_
  refine l_iconst (pc := 884) C dL_law_884 ?_
  refine l_iadd (pc := 885) C dL_law_885 ?_
  refine l_sld (pc := 886) C hX hbl hL ⟨by omega, by omega⟩ dL_law_886 ?_
  refine l_callX (pc := 887) (rest := []) (st1 := [vB r]) C hbX hbM hE0 [vI (xs (6 * (k : Int) + 1).toNat).toInt] (c_x_X_strike l h1) cl_RL_116 x_s0 rfl rfl rfl rfl ⟨(Nat.le_of_ble_eq_true rfl), (Nat.le_of_ble_eq_true rfl)⟩ hce (Nat.le_of_ble_eq_true rfl) rfl rfl dL_law_887 ?_
  refine l_aload_n (pc := 890) C 2 rfl rfl dL_law_890 ?_
  refine l_aload_n (pc := 891) C 0 rfl rfl dL_law_891 ?_
  refine l_iload_n (pc := 892) C 3 rfl rfl dL_law_892 ?_
  refine l_iconst (pc := 893) C dL_law_893 ?_
  refine l_iadd (pc := 894) C dL_law_894 ?_
  refine l_sld (pc := 895) C hX hbl hL ⟨by omega, by omega⟩ dL_law_895 ?_
  refine l_callM (pc := 896) (rest := [vB r]) (st1 := [vB r', vB r]) C hbX hbM [vI (xs (6 * (k : Int) + 1).toNat).toInt] (c_m_strike l h2) cl_RL_119 m_s0 rfl rfl rfl rfl ⟨(Nat.le_of_ble_eq_true rfl), (Nat.le_of_ble_eq_true rfl)⟩ hce (Nat.le_of_ble_eq_true rfl) rfl rfl dL_law_896 ?_
  refine l_icmp_eq (pc := 899) (tgt := 1134) (α := Unit) (f := some ()) (g := none) (r := ()) C (if_pos (by rw [h3])) dL_law_899 (by decide) (fun _ _ => ?_) (fun _ z => nomatch z)
  exact hnext _ _ h4
theorem lc_heal (C : CX p s m #[Value.ref b] meth c code 4 RL D E vwCl Ext (fun q => s.heap.size ≤ q)) (hX : va_X b L xs s s.heap) (hbl : b < s.heap.size) (hL : L ≤ 3072) (hbX : s.heap.size ≤ bX) (hbM : bM = bX + xN) (hE0 : xExt σ bX s) (hce : ce ≤ room_1.cells ∧ sl ≤ room_1.slots) {R : Nat → Mem → Mem → Prop} (hs : LS_heal R) {k : Nat} (hk : k < 512) (hk6 : 6 * k + 6 ≤ L) {Mx Mm : Mem} (hR : R k Mx Mm) (hnext : ∀ Mx1 Mm1, R (k + 1) Mx1 Mm1 → WLw p l e room_1 s m #[Value.ref b] below meth c 4 D E bX bM ce sl Q Mx1 Mm1 1134 [(0, vR b 0), (1, vR bX 0), (2, vR bM 0), (3, vI (6 * (k : Int)))] []) : WLw p l e room_1 s m #[Value.ref b] below meth c 4 D E bX bM ce sl Q Mx Mm 904 [(0, vR b 0), (1, vR bX 0), (2, vR bM 0), (3, vI (6 * (k : Int)))] [] := by
  obtain ⟨r, r', Mx1, Mm1, h1, h2, h3, h4⟩ := hs k Mx Mm (xs (6 * (k : Int) + 1).toNat).toInt hk (i32_of _) hR
  refine l_aload_n (pc := 904) C 1 rfl rfl dL_law_904 ?_
  refine l_aload_n (pc := 905) C 0 rfl rfl dL_law_905 ?_
  refine l_iload_n (pc := 906) C 3 rfl rfl dL_law_906 ?_
  refine l_iconst (pc := 907) C dL_law_907 ?_
  refine l_iadd (pc := 908) C dL_law_908 ?_
  refine l_sld (pc := 909) C hX hbl hL ⟨by omega, by omega⟩ dL_law_909 ?_
  refine l_callX (pc := 910) (rest := []) (st1 := [vB r]) C hbX hbM hE0 [vI (xs (6 * (k : Int) + 1).toNat).toInt] (c_x_X_heal l h1) cl_RL_120 x_s0 rfl rfl rfl rfl ⟨(Nat.le_of_ble_eq_true rfl), (Nat.le_of_ble_eq_true rfl)⟩ hce (Nat.le_of_ble_eq_true rfl) rfl rfl dL_law_910 ?_
  refine l_aload_n (pc := 913) C 2 rfl rfl dL_law_913 ?_
  refine l_aload_n (pc := 914) C 0 rfl rfl dL_law_914 ?_
  refine l_iload_n (pc := 915) C 3 rfl rfl dL_law_915 ?_
  refine l_iconst (pc := 916) C dL_law_916 ?_
  refine l_iadd (pc := 917) C dL_law_917 ?_
  refine l_sld (pc := 918) C hX hbl hL ⟨by omega, by omega⟩ dL_law_918 ?_
  refine l_callM (pc := 919) (rest := [vB r]) (st1 := [vB r', vB r]) C hbX hbM [vI (xs (6 * (k : Int) + 1).toNat).toInt] (c_m_heal l h2) cl_RL_123 m_s0 rfl rfl rfl rfl ⟨(Nat.le_of_ble_eq_true rfl), (Nat.le_of_ble_eq_true rfl)⟩ hce (Nat.le_of_ble_eq_true rfl) rfl rfl dL_law_919 ?_
  refine l_icmp_eq (pc := 922) (tgt := 1134) (α := Unit) (f := some ()) (g := none) (r := ()) C (if_pos (by rw [h3])) dL_law_922 (by decide) (fun _ _ => ?_) (fun _ z => nomatch z)
  exact hnext _ _ h4
theorem lc_train (C : CX p s m #[Value.ref b] meth c code 4 RL D E vwCl Ext (fun q => s.heap.size ≤ q)) (hX : va_X b L xs s s.heap) (hbl : b < s.heap.size) (hL : L ≤ 3072) (hbX : s.heap.size ≤ bX) (hbM : bM = bX + xN) (hE0 : xExt σ bX s) (hce : ce ≤ room_1.cells ∧ sl ≤ room_1.slots) {R : Nat → Mem → Mem → Prop} (hs : LS_train R) {k : Nat} (hk : k < 512) (hk6 : 6 * k + 6 ≤ L) {Mx Mm : Mem} (hR : R k Mx Mm) (hnext : ∀ Mx1 Mm1, R (k + 1) Mx1 Mm1 → WLw p l e room_1 s m #[Value.ref b] below meth c 4 D E bX bM ce sl Q Mx1 Mm1 1134 [(0, vR b 0), (1, vR bX 0), (2, vR bM 0), (3, vI (6 * (k : Int)))] []) : WLw p l e room_1 s m #[Value.ref b] below meth c 4 D E bX bM ce sl Q Mx Mm 927 [(0, vR b 0), (1, vR bX 0), (2, vR bM 0), (3, vI (6 * (k : Int)))] [] := by
  obtain ⟨r, r', Mx1, Mm1, h1, h2, h3, h4⟩ := hs k Mx Mm (xs (6 * (k : Int) + 1).toNat).toInt (xs (6 * (k : Int) + 2).toNat).toInt hk (i32_of _) (i32_of _) hR
  refine l_aload_n (pc := 927) C 1 rfl rfl dL_law_927 ?_
  refine l_aload_n (pc := 928) C 0 rfl rfl dL_law_928 ?_
  refine l_iload_n (pc := 929) C 3 rfl rfl dL_law_929 ?_
  refine l_iconst (pc := 930) C dL_law_930 ?_
  refine l_iadd (pc := 931) C dL_law_931 ?_
  refine l_sld (pc := 932) C hX hbl hL ⟨by omega, by omega⟩ dL_law_932 ?_
  refine l_aload_n (pc := 933) C 0 rfl rfl dL_law_933 ?_
  refine l_iload_n (pc := 934) C 3 rfl rfl dL_law_934 ?_
  refine l_iconst (pc := 935) C dL_law_935 ?_
  refine l_iadd (pc := 936) C dL_law_936 ?_
  refine l_sld (pc := 937) C hX hbl hL ⟨by omega, by omega⟩ dL_law_937 ?_
  refine l_callX (pc := 938) (rest := []) (st1 := [vB r]) C hbX hbM hE0 [vI (xs (6 * (k : Int) + 1).toNat).toInt, vI (xs (6 * (k : Int) + 2).toNat).toInt] (c_x_X_train l h1) cl_RL_124 x_s0 rfl rfl rfl rfl ⟨(Nat.le_of_ble_eq_true rfl), (Nat.le_of_ble_eq_true rfl)⟩ hce (Nat.le_of_ble_eq_true rfl) rfl rfl dL_law_938 ?_
  refine l_aload_n (pc := 941) C 2 rfl rfl dL_law_941 ?_
  refine l_aload_n (pc := 942) C 0 rfl rfl dL_law_942 ?_
  refine l_iload_n (pc := 943) C 3 rfl rfl dL_law_943 ?_
  refine l_iconst (pc := 944) C dL_law_944 ?_
  refine l_iadd (pc := 945) C dL_law_945 ?_
  refine l_sld (pc := 946) C hX hbl hL ⟨by omega, by omega⟩ dL_law_946 ?_
  refine l_aload_n (pc := 947) C 0 rfl rfl dL_law_947 ?_
  refine l_iload_n (pc := 948) C 3 rfl rfl dL_law_948 ?_
  refine l_iconst (pc := 949) C dL_law_949 ?_
  refine l_iadd (pc := 950) C dL_law_950 ?_
  refine l_sld (pc := 951) C hX hbl hL ⟨by omega, by omega⟩ dL_law_951 ?_
  refine l_callM (pc := 952) (rest := [vB r]) (st1 := [vB r', vB r]) C hbX hbM [vI (xs (6 * (k : Int) + 1).toNat).toInt, vI (xs (6 * (k : Int) + 2).toNat).toInt] (c_m_train l h2) cl_RL_128 m_s0 rfl rfl rfl rfl ⟨(Nat.le_of_ble_eq_true rfl), (Nat.le_of_ble_eq_true rfl)⟩ hce (Nat.le_of_ble_eq_true rfl) rfl rfl dL_law_952 ?_
  refine l_icmp_eq (pc := 955) (tgt := 1134) (α := Unit) (f := some ()) (g := none) (r := ()) C (if_pos (by rw [h3])) dL_law_955 (by decide) (fun _ _ => ?_) (fun _ z => nomatch z)
  exact hnext _ _ h4
theorem lc_delay (C : CX p s m #[Value.ref b] meth c code 4 RL D E vwCl Ext (fun q => s.heap.size ≤ q)) (hX : va_X b L xs s s.heap) (hbl : b < s.heap.size) (hL : L ≤ 3072) (hbX : s.heap.size ≤ bX) (hbM : bM = bX + xN) (hE0 : xExt σ bX s) (hce : ce ≤ room_1.cells ∧ sl ≤ room_1.slots) {R : Nat → Mem → Mem → Prop} (hs : LS_delay R) {k : Nat} (hk : k < 512) (hk6 : 6 * k + 6 ≤ L) {Mx Mm : Mem} (hR : R k Mx Mm) (hnext : ∀ Mx1 Mm1, R (k + 1) Mx1 Mm1 → WLw p l e room_1 s m #[Value.ref b] below meth c 4 D E bX bM ce sl Q Mx1 Mm1 1134 [(0, vR b 0), (1, vR bX 0), (2, vR bM 0), (3, vI (6 * (k : Int)))] []) : WLw p l e room_1 s m #[Value.ref b] below meth c 4 D E bX bM ce sl Q Mx Mm 960 [(0, vR b 0), (1, vR bX 0), (2, vR bM 0), (3, vI (6 * (k : Int)))] [] := by
  obtain ⟨r, r', Mx1, Mm1, h1, h2, h3, h4⟩ := hs k Mx Mm (xs (6 * (k : Int) + 1).toNat).toInt (xs (6 * (k : Int) + 2).toNat).toInt hk (i32_of _) (i32_of _) hR
  refine l_aload_n (pc := 960) C 1 rfl rfl dL_law_960 ?_
  refine l_aload_n (pc := 961) C 0 rfl rfl dL_law_961 ?_
  refine l_iload_n (pc := 962) C 3 rfl rfl dL_law_962 ?_
  refine l_iconst (pc := 963) C dL_law_963 ?_
  refine l_iadd (pc := 964) C dL_law_964 ?_
  refine l_sld (pc := 965) C hX hbl hL ⟨by omega, by omega⟩ dL_law_965 ?_
  refine l_aload_n (pc := 966) C 0 rfl rfl dL_law_966 ?_
  refine l_iload_n (pc := 967) C 3 rfl rfl dL_law_967 ?_
  refine l_iconst (pc := 968) C dL_law_968 ?_
  refine l_iadd (pc := 969) C dL_law_969 ?_
  refine l_sld (pc := 970) C hX hbl hL ⟨by omega, by omega⟩ dL_law_970 ?_
  refine l_callX (pc := 971) (rest := []) (st1 := [vB r]) C hbX hbM hE0 [vI (xs (6 * (k : Int) + 1).toNat).toInt, vI (xs (6 * (k : Int) + 2).toNat).toInt] (c_x_X_delay l h1) cl_RL_129 x_s0 rfl rfl rfl rfl ⟨(Nat.le_of_ble_eq_true rfl), (Nat.le_of_ble_eq_true rfl)⟩ hce (Nat.le_of_ble_eq_true rfl) rfl rfl dL_law_971 ?_
  refine l_aload_n (pc := 974) C 2 rfl rfl dL_law_974 ?_
  refine l_aload_n (pc := 975) C 0 rfl rfl dL_law_975 ?_
  refine l_iload_n (pc := 976) C 3 rfl rfl dL_law_976 ?_
  refine l_iconst (pc := 977) C dL_law_977 ?_
  refine l_iadd (pc := 978) C dL_law_978 ?_
  refine l_sld (pc := 979) C hX hbl hL ⟨by omega, by omega⟩ dL_law_979 ?_
  refine l_aload_n (pc := 980) C 0 rfl rfl dL_law_980 ?_
  refine l_iload_n (pc := 981) C 3 rfl rfl dL_law_981 ?_
  refine l_iconst (pc := 982) C dL_law_982 ?_
  refine l_iadd (pc := 983) C dL_law_983 ?_
  refine l_sld (pc := 984) C hX hbl hL ⟨by omega, by omega⟩ dL_law_984 ?_
  refine l_callM (pc := 985) (rest := [vB r]) (st1 := [vB r', vB r]) C hbX hbM [vI (xs (6 * (k : Int) + 1).toNat).toInt, vI (xs (6 * (k : Int) + 2).toNat).toInt] (c_m_delay l h2) cl_RL_132 m_s0 rfl rfl rfl rfl ⟨(Nat.le_of_ble_eq_true rfl), (Nat.le_of_ble_eq_true rfl)⟩ hce (Nat.le_of_ble_eq_true rfl) rfl rfl dL_law_985 ?_
  refine l_icmp_eq (pc := 988) (tgt := 1134) (α := Unit) (f := some ()) (g := none) (r := ()) C (if_pos (by rw [h3])) dL_law_988 (by decide) (fun _ _ => ?_) (fun _ z => nomatch z)
  exact hnext _ _ h4
theorem lc_undo (C : CX p s m #[Value.ref b] meth c code 4 RL D E vwCl Ext (fun q => s.heap.size ≤ q)) (hX : va_X b L xs s s.heap) (hbl : b < s.heap.size) (hL : L ≤ 3072) (hbX : s.heap.size ≤ bX) (hbM : bM = bX + xN) (hE0 : xExt σ bX s) (hce : ce ≤ room_1.cells ∧ sl ≤ room_1.slots) {R : Nat → Mem → Mem → Prop} (hs : LS_undo R) {k : Nat} (hk : k < 512) (hk6 : 6 * k + 6 ≤ L) {Mx Mm : Mem} (hR : R k Mx Mm) (hnext : ∀ Mx1 Mm1, R (k + 1) Mx1 Mm1 → WLw p l e room_1 s m #[Value.ref b] below meth c 4 D E bX bM ce sl Q Mx1 Mm1 1134 [(0, vR b 0), (1, vR bX 0), (2, vR bM 0), (3, vI (6 * (k : Int)))] []) : WLw p l e room_1 s m #[Value.ref b] below meth c 4 D E bX bM ce sl Q Mx Mm 993 [(0, vR b 0), (1, vR bX 0), (2, vR bM 0), (3, vI (6 * (k : Int)))] [] := by
  obtain ⟨r, r', Mx1, Mm1, h1, h2, h3, h4⟩ := hs k Mx Mm hk hR
  refine l_aload_n (pc := 993) C 1 rfl rfl dL_law_993 ?_
  refine l_callX (pc := 994) (rest := []) (st1 := [vB r]) C hbX hbM hE0 [] (c_x_X_undo l h1) cl_RL_133 x_s0 rfl rfl rfl rfl ⟨(Nat.le_of_ble_eq_true rfl), (Nat.le_of_ble_eq_true rfl)⟩ hce (Nat.le_of_ble_eq_true rfl) rfl rfl dL_law_994 ?_
  refine l_aload_n (pc := 997) C 2 rfl rfl dL_law_997 ?_
  refine l_callM (pc := 998) (rest := [vB r]) (st1 := [vB r', vB r]) C hbX hbM [] (c_m_undo l h2) cl_RL_137 m_s0 rfl rfl rfl rfl ⟨(Nat.le_of_ble_eq_true rfl), (Nat.le_of_ble_eq_true rfl)⟩ hce (Nat.le_of_ble_eq_true rfl) rfl rfl dL_law_998 ?_
  refine l_icmp_eq (pc := 1001) (tgt := 1134) (α := Unit) (f := some ()) (g := none) (r := ()) C (if_pos (by rw [h3])) dL_law_1001 (by decide) (fun _ _ => ?_) (fun _ z => nomatch z)
  exact hnext _ _ h4
theorem lc_seed (C : CX p s m #[Value.ref b] meth c code 4 RL D E vwCl Ext (fun q => s.heap.size ≤ q)) (hX : va_X b L xs s s.heap) (hbl : b < s.heap.size) (hL : L ≤ 3072) (hbX : s.heap.size ≤ bX) (hbM : bM = bX + xN) (hE0 : xExt σ bX s) (hce : ce ≤ room_1.cells ∧ sl ≤ room_1.slots) {R : Nat → Mem → Mem → Prop} (hs : LS_seed R) {k : Nat} (hk : k < 512) (hk6 : 6 * k + 6 ≤ L) {Mx Mm : Mem} (hR : R k Mx Mm) (hnext : ∀ Mx1 Mm1, R (k + 1) Mx1 Mm1 → WLw p l e room_1 s m #[Value.ref b] below meth c 4 D E bX bM ce sl Q Mx1 Mm1 1134 [(0, vR b 0), (1, vR bX 0), (2, vR bM 0), (3, vI (6 * (k : Int)))] []) : WLw p l e room_1 s m #[Value.ref b] below meth c 4 D E bX bM ce sl Q Mx Mm 1006 [(0, vR b 0), (1, vR bX 0), (2, vR bM 0), (3, vI (6 * (k : Int)))] [] := by
  obtain ⟨r, r', Mx1, Mm1, h1, h2, h3, h4⟩ := hs k Mx Mm (xs (6 * (k : Int) + 1).toNat).toInt hk (i32_of _) hR
  refine l_aload_n (pc := 1006) C 1 rfl rfl dL_law_1006 ?_
  refine l_aload_n (pc := 1007) C 0 rfl rfl dL_law_1007 ?_
  refine l_iload_n (pc := 1008) C 3 rfl rfl dL_law_1008 ?_
  refine l_iconst (pc := 1009) C dL_law_1009 ?_
  refine l_iadd (pc := 1010) C dL_law_1010 ?_
  refine l_sld (pc := 1011) C hX hbl hL ⟨by omega, by omega⟩ dL_law_1011 ?_
  refine l_callX (pc := 1012) (rest := []) (st1 := [vB r]) C hbX hbM hE0 [vI (xs (6 * (k : Int) + 1).toNat).toInt] (c_x_X_seed l h1) cl_RL_138 x_s0 rfl rfl rfl rfl ⟨(Nat.le_of_ble_eq_true rfl), (Nat.le_of_ble_eq_true rfl)⟩ hce (Nat.le_of_ble_eq_true rfl) rfl rfl dL_law_1012 ?_
  refine l_aload_n (pc := 1015) C 2 rfl rfl dL_law_1015 ?_
  refine l_aload_n (pc := 1016) C 0 rfl rfl dL_law_1016 ?_
  refine l_iload_n (pc := 1017) C 3 rfl rfl dL_law_1017 ?_
  refine l_iconst (pc := 1018) C dL_law_1018 ?_
  refine l_iadd (pc := 1019) C dL_law_1019 ?_
  refine l_sld (pc := 1020) C hX hbl hL ⟨by omega, by omega⟩ dL_law_1020 ?_
  refine l_callM (pc := 1021) (rest := [vB r]) (st1 := [vB r', vB r]) C hbX hbM [vI (xs (6 * (k : Int) + 1).toNat).toInt] (c_m_seed l h2) cl_RL_141 m_s0 rfl rfl rfl rfl ⟨(Nat.le_of_ble_eq_true rfl), (Nat.le_of_ble_eq_true rfl)⟩ hce (Nat.le_of_ble_eq_true rfl) rfl rfl dL_law_1021 ?_
  refine l_icmp_eq (pc := 1024) (tgt := 1134) (α := Unit) (f := some ()) (g := none) (r := ()) C (if_pos (by rw [h3])) dL_law_1024 (by decide) (fun _ _ => ?_) (fun _ z => nomatch z)
  exact hnext _ _ h4
theorem lc_kept (C : CX p s m #[Value.ref b] meth c code 4 RL D E vwCl Ext (fun q => s.heap.size ≤ q)) (hX : va_X b L xs s s.heap) (hbl : b < s.heap.size) (hL : L ≤ 3072) (hbX : s.heap.size ≤ bX) (hbM : bM = bX + xN) (hE0 : xExt σ bX s) (hce : ce ≤ room_1.cells ∧ sl ≤ room_1.slots) {R : Nat → Mem → Mem → Prop} (hs : LS_kept R) {k : Nat} (hk : k < 512) (hk6 : 6 * k + 6 ≤ L) {Mx Mm : Mem} (hR : R k Mx Mm) (hnext : ∀ Mx1 Mm1, R (k + 1) Mx1 Mm1 → WLw p l e room_1 s m #[Value.ref b] below meth c 4 D E bX bM ce sl Q Mx1 Mm1 1134 [(0, vR b 0), (1, vR bX 0), (2, vR bM 0), (3, vI (6 * (k : Int)))] []) : WLw p l e room_1 s m #[Value.ref b] below meth c 4 D E bX bM ce sl Q Mx Mm 1029 [(0, vR b 0), (1, vR bX 0), (2, vR bM 0), (3, vI (6 * (k : Int)))] [] := by
  obtain ⟨r, r', h1, h2, h3, h4⟩ := hs k Mx Mm (xs (6 * (k : Int) + 1).toNat).toInt (xs (6 * (k : Int) + 2).toNat).toInt hk (i32_of _) (i32_of _) hR
  refine l_aload_n (pc := 1029) C 1 rfl rfl dL_law_1029 ?_
  refine l_aload_n (pc := 1030) C 0 rfl rfl dL_law_1030 ?_
  refine l_iload_n (pc := 1031) C 3 rfl rfl dL_law_1031 ?_
  refine l_iconst (pc := 1032) C dL_law_1032 ?_
  refine l_iadd (pc := 1033) C dL_law_1033 ?_
  refine l_sld (pc := 1034) C hX hbl hL ⟨by omega, by omega⟩ dL_law_1034 ?_
  refine l_aload_n (pc := 1035) C 0 rfl rfl dL_law_1035 ?_
  refine l_iload_n (pc := 1036) C 3 rfl rfl dL_law_1036 ?_
  refine l_iconst (pc := 1037) C dL_law_1037 ?_
  refine l_iadd (pc := 1038) C dL_law_1038 ?_
  refine l_sld (pc := 1039) C hX hbl hL ⟨by omega, by omega⟩ dL_law_1039 ?_
  refine l_callX (pc := 1040) (rest := []) (st1 := [vI r]) C hbX hbM hE0 [vI (xs (6 * (k : Int) + 1).toNat).toInt, vI (xs (6 * (k : Int) + 2).toNat).toInt] (c_x_X_kept l h1) cl_RL_142 x_s0 rfl rfl rfl rfl ⟨(Nat.le_of_ble_eq_true rfl), (Nat.le_of_ble_eq_true rfl)⟩ hce (Nat.le_of_ble_eq_true rfl) rfl rfl dL_law_1040 ?_
  refine l_aload_n (pc := 1043) C 2 rfl rfl dL_law_1043 ?_
  refine l_aload_n (pc := 1044) C 0 rfl rfl dL_law_1044 ?_
  refine l_iload_n (pc := 1045) C 3 rfl rfl dL_law_1045 ?_
  refine l_iconst (pc := 1046) C dL_law_1046 ?_
  refine l_iadd (pc := 1047) C dL_law_1047 ?_
  refine l_sld (pc := 1048) C hX hbl hL ⟨by omega, by omega⟩ dL_law_1048 ?_
  refine l_aload_n (pc := 1049) C 0 rfl rfl dL_law_1049 ?_
  refine l_iload_n (pc := 1050) C 3 rfl rfl dL_law_1050 ?_
  refine l_iconst (pc := 1051) C dL_law_1051 ?_
  refine l_iadd (pc := 1052) C dL_law_1052 ?_
  refine l_sld (pc := 1053) C hX hbl hL ⟨by omega, by omega⟩ dL_law_1053 ?_
  refine l_callM (pc := 1054) (rest := [vI r]) (st1 := [vI r', vI r]) C hbX hbM [vI (xs (6 * (k : Int) + 1).toNat).toInt, vI (xs (6 * (k : Int) + 2).toNat).toInt] (c_m_kept l h2) cl_RL_145 m_s0 rfl rfl rfl rfl ⟨(Nat.le_of_ble_eq_true rfl), (Nat.le_of_ble_eq_true rfl)⟩ hce (Nat.le_of_ble_eq_true rfl) rfl rfl dL_law_1054 ?_
  refine l_icmp_eq (pc := 1057) (tgt := 1134) (α := Unit) (f := some ()) (g := none) (r := ()) C (if_pos h3) dL_law_1057 (by decide) (fun _ _ => ?_) (fun _ z => nomatch z)
  exact hnext _ _ h4
theorem lc_image (C : CX p s m #[Value.ref b] meth c code 4 RL D E vwCl Ext (fun q => s.heap.size ≤ q)) (hX : va_X b L xs s s.heap) (hbl : b < s.heap.size) (hL : L ≤ 3072) (hbX : s.heap.size ≤ bX) (hbM : bM = bX + xN) (hE0 : xExt σ bX s) (hce : ce ≤ room_1.cells ∧ sl ≤ room_1.slots) {R : Nat → Mem → Mem → Prop} (hs : LS_image R) {k : Nat} (hk : k < 512) (hk6 : 6 * k + 6 ≤ L) {Mx Mm : Mem} (hR : R k Mx Mm) (hnext : ∀ Mx1 Mm1, R (k + 1) Mx1 Mm1 → WLw p l e room_1 s m #[Value.ref b] below meth c 4 D E bX bM ce sl Q Mx1 Mm1 1134 [(0, vR b 0), (1, vR bX 0), (2, vR bM 0), (3, vI (6 * (k : Int)))] []) : WLw p l e room_1 s m #[Value.ref b] below meth c 4 D E bX bM ce sl Q Mx Mm 1062 [(0, vR b 0), (1, vR bX 0), (2, vR bM 0), (3, vI (6 * (k : Int)))] [] := by
  obtain ⟨r, r', Mx1, Mm1, h1, h2, h3, h4⟩ := hs k Mx Mm hk hR
  refine l_aload_n (pc := 1062) C 1 rfl rfl dL_law_1062 ?_
  refine l_callX (pc := 1063) (rest := []) (st1 := [vI r]) C hbX hbM hE0 [] (c_x_X_image l h1) cl_RL_146 x_s0 rfl rfl rfl rfl ⟨(Nat.le_of_ble_eq_true rfl), (Nat.le_of_ble_eq_true rfl)⟩ hce (Nat.le_of_ble_eq_true rfl) rfl rfl dL_law_1063 ?_
  refine l_aload_n (pc := 1066) C 2 rfl rfl dL_law_1066 ?_
  refine l_callM (pc := 1067) (rest := [vI r]) (st1 := [vI r', vI r]) C hbX hbM [] (c_m_image l h2) cl_RL_149 m_s0 rfl rfl rfl rfl ⟨(Nat.le_of_ble_eq_true rfl), (Nat.le_of_ble_eq_true rfl)⟩ hce (Nat.le_of_ble_eq_true rfl) rfl rfl dL_law_1067 ?_
  refine l_icmp_eq (pc := 1070) (tgt := 1134) (α := Unit) (f := some ()) (g := none) (r := ()) C (if_pos h3) dL_law_1070 (by decide) (fun _ _ => ?_) (fun _ z => nomatch z)
  exact hnext _ _ h4
theorem lc_octet (C : CX p s m #[Value.ref b] meth c code 4 RL D E vwCl Ext (fun q => s.heap.size ≤ q)) (hX : va_X b L xs s s.heap) (hbl : b < s.heap.size) (hL : L ≤ 3072) (hbX : s.heap.size ≤ bX) (hbM : bM = bX + xN) (hE0 : xExt σ bX s) (hce : ce ≤ room_1.cells ∧ sl ≤ room_1.slots) {R : Nat → Mem → Mem → Prop} (hs : LS_octet R) {k : Nat} (hk : k < 512) (hk6 : 6 * k + 6 ≤ L) {Mx Mm : Mem} (hR : R k Mx Mm) (hnext : ∀ Mx1 Mm1, R (k + 1) Mx1 Mm1 → WLw p l e room_1 s m #[Value.ref b] below meth c 4 D E bX bM ce sl Q Mx1 Mm1 1134 [(0, vR b 0), (1, vR bX 0), (2, vR bM 0), (3, vI (6 * (k : Int)))] []) : WLw p l e room_1 s m #[Value.ref b] below meth c 4 D E bX bM ce sl Q Mx Mm 1075 [(0, vR b 0), (1, vR bX 0), (2, vR bM 0), (3, vI (6 * (k : Int)))] [] := by
  obtain ⟨r, r', h1, h2, h3, h4⟩ := hs k Mx Mm (xs (6 * (k : Int) + 1).toNat).toInt hk (i32_of _) hR
  refine l_aload_n (pc := 1075) C 1 rfl rfl dL_law_1075 ?_
  refine l_aload_n (pc := 1076) C 0 rfl rfl dL_law_1076 ?_
  refine l_iload_n (pc := 1077) C 3 rfl rfl dL_law_1077 ?_
  refine l_iconst (pc := 1078) C dL_law_1078 ?_
  refine l_iadd (pc := 1079) C dL_law_1079 ?_
  refine l_sld (pc := 1080) C hX hbl hL ⟨by omega, by omega⟩ dL_law_1080 ?_
  refine l_callX (pc := 1081) (rest := []) (st1 := [vI r]) C hbX hbM hE0 [vI (xs (6 * (k : Int) + 1).toNat).toInt] (c_x_X_octet l h1) cl_RL_150 x_s0 rfl rfl rfl rfl ⟨(Nat.le_of_ble_eq_true rfl), (Nat.le_of_ble_eq_true rfl)⟩ hce (Nat.le_of_ble_eq_true rfl) rfl rfl dL_law_1081 ?_
  refine l_aload_n (pc := 1084) C 2 rfl rfl dL_law_1084 ?_
  refine l_aload_n (pc := 1085) C 0 rfl rfl dL_law_1085 ?_
  refine l_iload_n (pc := 1086) C 3 rfl rfl dL_law_1086 ?_
  refine l_iconst (pc := 1087) C dL_law_1087 ?_
  refine l_iadd (pc := 1088) C dL_law_1088 ?_
  refine l_sld (pc := 1089) C hX hbl hL ⟨by omega, by omega⟩ dL_law_1089 ?_
  refine l_callM (pc := 1090) (rest := [vI r]) (st1 := [vI r', vI r]) C hbX hbM [vI (xs (6 * (k : Int) + 1).toNat).toInt] (c_m_octet l h2) cl_RL_153 m_s0 rfl rfl rfl rfl ⟨(Nat.le_of_ble_eq_true rfl), (Nat.le_of_ble_eq_true rfl)⟩ hce (Nat.le_of_ble_eq_true rfl) rfl rfl dL_law_1090 ?_
  refine l_icmp_eq (pc := 1093) (tgt := 1134) (α := Unit) (f := some ()) (g := none) (r := ()) C (if_pos h3) dL_law_1093 (by decide) (fun _ _ => ?_) (fun _ z => nomatch z)
  exact hnext _ _ h4
theorem lc_on (C : CX p s m #[Value.ref b] meth c code 4 RL D E vwCl Ext (fun q => s.heap.size ≤ q)) (hX : va_X b L xs s s.heap) (hbl : b < s.heap.size) (hL : L ≤ 3072) (hbX : s.heap.size ≤ bX) (hbM : bM = bX + xN) (hE0 : xExt σ bX s) (hce : ce ≤ room_1.cells ∧ sl ≤ room_1.slots) {R : Nat → Mem → Mem → Prop} (hs : LS_on R) {k : Nat} (hk : k < 512) (hk6 : 6 * k + 6 ≤ L) {Mx Mm : Mem} (hR : R k Mx Mm) (hnext : ∀ Mx1 Mm1, R (k + 1) Mx1 Mm1 → WLw p l e room_1 s m #[Value.ref b] below meth c 4 D E bX bM ce sl Q Mx1 Mm1 1134 [(0, vR b 0), (1, vR bX 0), (2, vR bM 0), (3, vI (6 * (k : Int)))] []) : WLw p l e room_1 s m #[Value.ref b] below meth c 4 D E bX bM ce sl Q Mx Mm 1098 [(0, vR b 0), (1, vR bX 0), (2, vR bM 0), (3, vI (6 * (k : Int)))] [] := by
  obtain ⟨r, r', Mx1, Mm1, h1, h2, h3, h4⟩ := hs k Mx Mm hk hR
  refine l_aload_n (pc := 1098) C 1 rfl rfl dL_law_1098 ?_
  refine l_callX (pc := 1099) (rest := []) (st1 := [vB r]) C hbX hbM hE0 [] (c_x_X_on l h1) cl_RL_154 x_s0 rfl rfl rfl rfl ⟨(Nat.le_of_ble_eq_true rfl), (Nat.le_of_ble_eq_true rfl)⟩ hce (Nat.le_of_ble_eq_true rfl) rfl rfl dL_law_1099 ?_
  refine l_aload_n (pc := 1102) C 2 rfl rfl dL_law_1102 ?_
  refine l_callM (pc := 1103) (rest := [vB r]) (st1 := [vB r', vB r]) C hbX hbM [] (c_m_on l h2) cl_RL_157 m_s0 rfl rfl rfl rfl ⟨(Nat.le_of_ble_eq_true rfl), (Nat.le_of_ble_eq_true rfl)⟩ hce (Nat.le_of_ble_eq_true rfl) rfl rfl dL_law_1103 ?_
  refine l_icmp_eq (pc := 1106) (tgt := 1134) (α := Unit) (f := some ()) (g := none) (r := ()) C (if_pos (by rw [h3])) dL_law_1106 (by decide) (fun _ _ => ?_) (fun _ z => nomatch z)
  exact hnext _ _ h4
theorem lc_status (C : CX p s m #[Value.ref b] meth c code 4 RL D E vwCl Ext (fun q => s.heap.size ≤ q)) (hX : va_X b L xs s s.heap) (hbl : b < s.heap.size) (hL : L ≤ 3072) (hbX : s.heap.size ≤ bX) (hbM : bM = bX + xN) (hE0 : xExt σ bX s) (hce : ce ≤ room_1.cells ∧ sl ≤ room_1.slots) {R : Nat → Mem → Mem → Prop} (hs : LS_status R) {k : Nat} (hk : k < 512) (hk6 : 6 * k + 6 ≤ L) {Mx Mm : Mem} (hR : R k Mx Mm) (hnext : ∀ Mx1 Mm1, R (k + 1) Mx1 Mm1 → WLw p l e room_1 s m #[Value.ref b] below meth c 4 D E bX bM ce sl Q Mx1 Mm1 1134 [(0, vR b 0), (1, vR bX 0), (2, vR bM 0), (3, vI (6 * (k : Int)))] []) : WLw p l e room_1 s m #[Value.ref b] below meth c 4 D E bX bM ce sl Q Mx Mm 1111 [(0, vR b 0), (1, vR bX 0), (2, vR bM 0), (3, vI (6 * (k : Int)))] [] := by
  obtain ⟨r, r', h1, h2, h3, h4⟩ := hs k Mx Mm (xs (6 * (k : Int) + 1).toNat).toInt hk (i32_of _) hR
  refine l_aload_n (pc := 1111) C 1 rfl rfl dL_law_1111 ?_
  refine l_aload_n (pc := 1112) C 0 rfl rfl dL_law_1112 ?_
  refine l_iload_n (pc := 1113) C 3 rfl rfl dL_law_1113 ?_
  refine l_iconst (pc := 1114) C dL_law_1114 ?_
  refine l_iadd (pc := 1115) C dL_law_1115 ?_
  refine l_sld (pc := 1116) C hX hbl hL ⟨by omega, by omega⟩ dL_law_1116 ?_
  refine l_callX (pc := 1117) (rest := []) (st1 := [vI r]) C hbX hbM hE0 [vI (xs (6 * (k : Int) + 1).toNat).toInt] (c_x_X_status l h1) cl_RL_158 x_s0 rfl rfl rfl rfl ⟨(Nat.le_of_ble_eq_true rfl), (Nat.le_of_ble_eq_true rfl)⟩ hce (Nat.le_of_ble_eq_true rfl) rfl rfl dL_law_1117 ?_
  refine l_aload_n (pc := 1120) C 2 rfl rfl dL_law_1120 ?_
  refine l_aload_n (pc := 1121) C 0 rfl rfl dL_law_1121 ?_
  refine l_iload_n (pc := 1122) C 3 rfl rfl dL_law_1122 ?_
  refine l_iconst (pc := 1123) C dL_law_1123 ?_
  refine l_iadd (pc := 1124) C dL_law_1124 ?_
  refine l_sld (pc := 1125) C hX hbl hL ⟨by omega, by omega⟩ dL_law_1125 ?_
  refine l_callM (pc := 1126) (rest := [vI r]) (st1 := [vI r', vI r]) C hbX hbM [vI (xs (6 * (k : Int) + 1).toNat).toInt] (c_m_status l h2) cl_RL_161 m_s0 rfl rfl rfl rfl ⟨(Nat.le_of_ble_eq_true rfl), (Nat.le_of_ble_eq_true rfl)⟩ hce (Nat.le_of_ble_eq_true rfl) rfl rfl dL_law_1126 ?_
  refine l_icmp_eq (pc := 1129) (tgt := 1134) (α := Unit) (f := some ()) (g := none) (r := ()) C (if_pos h3) dL_law_1129 (by decide) (fun _ _ => ?_) (fun _ z => nomatch z)
  exact hnext _ _ h4
end LAWCASES
section LAWLOOP
variable {p : Program} {l : Launch} {e : Env} {s : State} {m : MethodId} {below : List Frame} {meth : Method} {c : Code} {D : va_G} {E : Nat → ClassId} {b bX bM ce sl L : Nat} {xs : Nat → Int32} {Q : State → Prop} {Ext : State → Prop} {σ : Nat → Nat}
set_option maxHeartbeats 8000000 in
set_option maxRecDepth 20000 in
theorem law_step (C : CX p s m #[Value.ref b] meth c code 4 RL D E vwCl Ext (fun q => s.heap.size ≤ q)) (hX : va_X b L xs s s.heap) (hbl : b < s.heap.size) (hL : L ≤ 3072) (hbX : s.heap.size ≤ bX) (hbM : bM = bX + xN) (hE0 : xExt σ bX s) (hce : ce ≤ room_1.cells ∧ sl ≤ room_1.slots) {R : Nat → Mem → Mem → Prop} (hsim : LawSim R) (hend : ∀ (Mx Mm : Mem) (k : Nat), WLw p l e room_1 s m #[Value.ref b] below meth c 4 D E bX bM ce sl Q Mx Mm 1140 [(0, vR b 0), (1, vR bX 0), (2, vR bM 0), (3, vI (6 * (k : Int)))] []) : ∀ (n k : Nat) (Mx Mm : Mem), 6 * k ≤ L → L < 6 * (k + n) → R k Mx Mm → WLw p l e room_1 s m #[Value.ref b] below meth c 4 D E bX bM ce sl Q Mx Mm 18 [(0, vR b 0), (1, vR bX 0), (2, vR bM 0), (3, vI (6 * (k : Int)))] [] := by
  obtain ⟨h0, s0, s1, s2, s3, s4, s5, s6, s7, s8, s9, s10, s11, s12, s13, s14, s15, s16, s17, s18, s19, s20, s21, s22, s23, s24, s25, s26, s27, s28, s29, s30, s31, s32, s33, s34⟩ := hsim
  intro n
  induction n with
  | zero => exact fun k Mx Mm h1 h2 _ => absurd h2 (by omega)
  | succ n ih =>
    intro k Mx Mm h1 h2 hR
    refine l_iload_n (pc := 18) C 3 rfl rfl dL_law_18 ?_
    refine l_aload_n (pc := 19) C 0 rfl rfl dL_law_19 ?_
    refine l_slen (pc := 20) C hX hbl dL_law_20 ?_
    refine l_bipush (pc := 21) (j := 6) C (by decide +kernel) dL_law_21 ?_
    refine l_isub (pc := 23) C dL_law_23 ?_
    have w1 : w32 ((L : Int) - 6) = (L : Int) - 6 := w32_eq (by omega) (by omega)
    have w2 : w32 (6 * (k : Int)) = 6 * (k : Int) := w32_eq (by omega) (by omega)
    by_cases hgo : 6 * k + 6 ≤ L
    · refine l_icmp_gt (pc := 24) (tgt := 1140) (α := Unit) (f := none) (g := some ()) (r := ()) C (if_neg (by rw [w1, w2]; omega)) dL_law_24 (by decide) (fun _ z => nomatch z) (fun _ _ => ?_)
      refine l_aload_n (pc := 27) C 0 rfl rfl dL_law_27 ?_
      refine l_iload_n (pc := 28) C 3 rfl rfl dL_law_28 ?_
      refine l_sld (pc := 29) C hX hbl hL ⟨by omega, by omega⟩ dL_law_29 ?_
      refine l_bipush (pc := 30) (j := 63) C (by decide +kernel) dL_law_30 ?_
      refine l_iand (pc := 32) C dL_law_32 ?_
      have hk : k < 512 := by omega
      have hnext : ∀ Mx1 Mm1, R (k + 1) Mx1 Mm1 → WLw p l e room_1 s m #[Value.ref b] below meth c 4 D E bX bM ce sl Q Mx1 Mm1 1134 [(0, vR b 0), (1, vR bX 0), (2, vR bM 0), (3, vI (6 * (k : Int)))] [] := by
        intro Mx1 Mm1 hR1
        refine l_iincN (pc := 1134) (y := 6 * ((k + 1 : Nat) : Int)) (lv' := [(3, vI (6 * ((k + 1 : Nat) : Int))), (0, vR b 0), (1, vR bX 0), (2, vR bM 0)]) C 3 rfl (by omega) dL_law_1134 (by decide) rfl ?_
        refine l_goto (pc := 1137) (tgt := 18) C dL_law_1137 (by decide) ?_
        refine l_sub [1, 2, 3, 0] rfl ?_
        exact ih (k + 1) Mx1 Mm1 (by omega) (by omega) hR1
      generalize (xs (6 * (k : Int)).toNat).toInt = z
      by_cases q0 : w32 (and32 z 63) = 0
      · refine l_tabI (pc := 33) (tgt := 188) C q0 (by decide) (by decide) rfl dL_law_33 (by decide) ?_
        exact lc_feed C hX hbl hL hbX hbM hE0 hce s0 hk hgo hR hnext
      by_cases q1 : w32 (and32 z 63) = 1
      · refine l_tabI (pc := 33) (tgt := 251) C q1 (by decide) (by decide) rfl dL_law_33 (by decide) ?_
        exact lc_end C hX hbl hL hbX hbM hE0 hce s1 hk hgo hR hnext
      by_cases q2 : w32 (and32 z 63) = 2
      · refine l_tabI (pc := 33) (tgt := 274) C q2 (by decide) (by decide) rfl dL_law_33 (by decide) ?_
        exact lc_town C hX hbl hL hbX hbM hE0 hce s2 hk hgo hR hnext
      by_cases q3 : w32 (and32 z 63) = 3
      · refine l_tabI (pc := 33) (tgt := 287) C q3 (by decide) (by decide) rfl dL_law_33 (by decide) ?_
        exact lc_fault C hX hbl hL hbX hbM hE0 hce s3 hk hgo hR hnext
      by_cases q4 : w32 (and32 z 63) = 4
      · refine l_tabI (pc := 33) (tgt := 310) C q4 (by decide) (by decide) rfl dL_law_33 (by decide) ?_
        exact lc_has C hX hbl hL hbX hbM hE0 hce s4 hk hgo hR hnext
      by_cases q5 : w32 (and32 z 63) = 5
      · refine l_tabI (pc := 33) (tgt := 333) C q5 (by decide) (by decide) rfl dL_law_33 (by decide) ?_
        exact lc_letter C hX hbl hL hbX hbM hE0 hce s5 hk hgo hR hnext
      by_cases q6 : w32 (and32 z 63) = 6
      · refine l_tabI (pc := 33) (tgt := 376) C q6 (by decide) (by decide) rfl dL_law_33 (by decide) ?_
        exact lc_voice C hX hbl hL hbX hbM hE0 hce s6 hk hgo hR hnext
      by_cases q7 : w32 (and32 z 63) = 7
      · refine l_tabI (pc := 33) (tgt := 409) C q7 (by decide) (by decide) rfl dL_law_33 (by decide) ?_
        exact lc_person C hX hbl hL hbX hbM hE0 hce s7 hk hgo hR hnext
      by_cases q8 : w32 (and32 z 63) = 8
      · refine l_tabI (pc := 33) (tgt := 442) C q8 (by decide) (by decide) rfl dL_law_33 (by decide) ?_
        exact lc_saying C hX hbl hL hbX hbM hE0 hce s8 hk hgo hR hnext
      by_cases q9 : w32 (and32 z 63) = 9
      · refine l_tabI (pc := 33) (tgt := 475) C q9 (by decide) (by decide) rfl dL_law_33 (by decide) ?_
        exact lc_picks C hX hbl hL hbX hbM hE0 hce s9 hk hgo hR hnext
      by_cases q10 : w32 (and32 z 63) = 10
      · refine l_tabI (pc := 33) (tgt := 509) C q10 (by decide) (by decide) rfl dL_law_33 (by decide) ?_
        exact lc_later C hX hbl hL hbX hbM hE0 hce s10 hk hgo hR hnext
      by_cases q11 : w32 (and32 z 63) = 11
      · refine l_tabI (pc := 33) (tgt := 552) C q11 (by decide) (by decide) rfl dL_law_33 (by decide) ?_
        exact lc_ends C hX hbl hL hbX hbM hE0 hce s11 hk hgo hR hnext
      by_cases q12 : w32 (and32 z 63) = 12
      · refine l_tabI (pc := 33) (tgt := 575) C q12 (by decide) (by decide) rfl dL_law_33 (by decide) ?_
        exact lc_busy C hX hbl hL hbX hbM hE0 hce s12 hk hgo hR hnext
      by_cases q13 : w32 (and32 z 63) = 13
      · refine l_tabI (pc := 33) (tgt := 598) C q13 (by decide) (by decide) rfl dL_law_33 (by decide) ?_
        exact lc_match C hX hbl hL hbX hbM hE0 hce s13 hk hgo hR hnext
      by_cases q14 : w32 (and32 z 63) = 14
      · refine l_tabI (pc := 33) (tgt := 621) C q14 (by decide) (by decide) rfl dL_law_33 (by decide) ?_
        exact lc_choir C hX hbl hL hbX hbM hE0 hce s14 hk hgo hR hnext
      by_cases q15 : w32 (and32 z 63) = 15
      · refine l_tabI (pc := 33) (tgt := 644) C q15 (by decide) (by decide) rfl dL_law_33 (by decide) ?_
        exact lc_worst C hX hbl hL hbX hbM hE0 hce s15 hk hgo hR hnext
      by_cases q16 : w32 (and32 z 63) = 16
      · refine l_tabI (pc := 33) (tgt := 677) C q16 (by decide) (by decide) rfl dL_law_33 (by decide) ?_
        exact lc_tune C hX hbl hL hbX hbM hE0 hce s16 hk hgo hR hnext
      by_cases q17 : w32 (and32 z 63) = 17
      · refine l_tabI (pc := 33) (tgt := 720) C q17 (by decide) (by decide) rfl dL_law_33 (by decide) ?_
        exact lc_needed C hX hbl hL hbX hbM hE0 hce s17 hk hgo hR hnext
      by_cases q18 : w32 (and32 z 63) = 18
      · refine l_tabI (pc := 33) (tgt := 743) C q18 (by decide) (by decide) rfl dL_law_33 (by decide) ?_
        exact lc_odds C hX hbl hL hbX hbM hE0 hce s18 hk hgo hR hnext
      by_cases q19 : w32 (and32 z 63) = 19
      · refine l_tabI (pc := 33) (tgt := 766) C q19 (by decide) (by decide) rfl dL_law_33 (by decide) ?_
        exact lc_hear C hX hbl hL hbX hbM hE0 hce s19 hk hgo hR hnext
      by_cases q20 : w32 (and32 z 63) = 20
      · refine l_tabI (pc := 33) (tgt := 779) C q20 (by decide) (by decide) rfl dL_law_33 (by decide) ?_
        exact lc_pitches C hX hbl hL hbX hbM hE0 hce s20 hk hgo hR hnext
      by_cases q21 : w32 (and32 z 63) = 21
      · refine l_tabI (pc := 33) (tgt := 802) C q21 (by decide) (by decide) rfl dL_law_33 (by decide) ?_
        exact lc_tells C hX hbl hL hbX hbM hE0 hce s21 hk hgo hR hnext
      by_cases q22 : w32 (and32 z 63) = 22
      · refine l_tabI (pc := 33) (tgt := 835) C q22 (by decide) (by decide) rfl dL_law_33 (by decide) ?_
        exact lc_minutes C hX hbl hL hbX hbM hE0 hce s22 hk hgo hR hnext
      by_cases q23 : w32 (and32 z 63) = 23
      · refine l_tabI (pc := 33) (tgt := 858) C q23 (by decide) (by decide) rfl dL_law_33 (by decide) ?_
        exact lc_chance C hX hbl hL hbX hbM hE0 hce s23 hk hgo hR hnext
      by_cases q24 : w32 (and32 z 63) = 24
      · refine l_tabI (pc := 33) (tgt := 881) C q24 (by decide) (by decide) rfl dL_law_33 (by decide) ?_
        exact lc_strike C hX hbl hL hbX hbM hE0 hce s24 hk hgo hR hnext
      by_cases q25 : w32 (and32 z 63) = 25
      · refine l_tabI (pc := 33) (tgt := 904) C q25 (by decide) (by decide) rfl dL_law_33 (by decide) ?_
        exact lc_heal C hX hbl hL hbX hbM hE0 hce s25 hk hgo hR hnext
      by_cases q26 : w32 (and32 z 63) = 26
      · refine l_tabI (pc := 33) (tgt := 927) C q26 (by decide) (by decide) rfl dL_law_33 (by decide) ?_
        exact lc_train C hX hbl hL hbX hbM hE0 hce s26 hk hgo hR hnext
      by_cases q27 : w32 (and32 z 63) = 27
      · refine l_tabI (pc := 33) (tgt := 960) C q27 (by decide) (by decide) rfl dL_law_33 (by decide) ?_
        exact lc_delay C hX hbl hL hbX hbM hE0 hce s27 hk hgo hR hnext
      by_cases q28 : w32 (and32 z 63) = 28
      · refine l_tabI (pc := 33) (tgt := 993) C q28 (by decide) (by decide) rfl dL_law_33 (by decide) ?_
        exact lc_undo C hX hbl hL hbX hbM hE0 hce s28 hk hgo hR hnext
      by_cases q29 : w32 (and32 z 63) = 29
      · refine l_tabI (pc := 33) (tgt := 1006) C q29 (by decide) (by decide) rfl dL_law_33 (by decide) ?_
        exact lc_seed C hX hbl hL hbX hbM hE0 hce s29 hk hgo hR hnext
      by_cases q30 : w32 (and32 z 63) = 30
      · refine l_tabI (pc := 33) (tgt := 1029) C q30 (by decide) (by decide) rfl dL_law_33 (by decide) ?_
        exact lc_kept C hX hbl hL hbX hbM hE0 hce s30 hk hgo hR hnext
      by_cases q31 : w32 (and32 z 63) = 31
      · refine l_tabI (pc := 33) (tgt := 1062) C q31 (by decide) (by decide) rfl dL_law_33 (by decide) ?_
        exact lc_image C hX hbl hL hbX hbM hE0 hce s31 hk hgo hR hnext
      by_cases q32 : w32 (and32 z 63) = 32
      · refine l_tabI (pc := 33) (tgt := 1075) C q32 (by decide) (by decide) rfl dL_law_33 (by decide) ?_
        exact lc_octet C hX hbl hL hbX hbM hE0 hce s32 hk hgo hR hnext
      by_cases q33 : w32 (and32 z 63) = 33
      · refine l_tabI (pc := 33) (tgt := 1098) C q33 (by decide) (by decide) rfl dL_law_33 (by decide) ?_
        exact lc_on C hX hbl hL hbX hbM hE0 hce s33 hk hgo hR hnext
      by_cases q34 : w32 (and32 z 63) = 34
      · refine l_tabI (pc := 33) (tgt := 1111) C q34 (by decide) (by decide) rfl dL_law_33 (by decide) ?_
        exact lc_status C hX hbl hL hbX hbM hE0 hce s34 hk hgo hR hnext
      refine l_tabO (pc := 33) (tgt := 1134) C (by have hz := w32_rng (and32 z 63); omega) dL_law_33 (by decide) ?_
      exact hnext _ _ (h0 _ _ _ hR)
    · refine l_icmp_gt (pc := 24) (tgt := 1140) (α := Unit) (f := some ()) (g := none) (r := ()) C (if_pos (by rw [w1, w2]; omega)) dL_law_24 (by decide) (fun _ _ => ?_) (fun _ z => nomatch z)
      exact hend Mx Mm k
end LAWLOOP
