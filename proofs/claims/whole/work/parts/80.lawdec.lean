theorem dL_law_0 : decode cL_law 0 = .ok (.new 8, 3) := by decide +kernel
theorem dL_law_3 : decode cL_law 3 = .ok (.dup, 1) := by decide +kernel
theorem dL_law_4 : decode cL_law 4 = .ok (.invokespecial 108, 3) := by decide +kernel
theorem dL_law_7 : decode cL_law 7 = .ok (.astore_n 1, 1) := by decide +kernel
theorem dL_law_8 : decode cL_law 8 = .ok (.new 109, 3) := by decide +kernel
theorem dL_law_11 : decode cL_law 11 = .ok (.dup, 1) := by decide +kernel
theorem dL_law_12 : decode cL_law 12 = .ok (.invokespecial 111, 3) := by decide +kernel
theorem dL_law_15 : decode cL_law 15 = .ok (.astore_n 2, 1) := by decide +kernel
theorem dL_law_16 : decode cL_law 16 = .ok (.iconst 1, 1) := by decide +kernel
theorem dL_law_17 : decode cL_law 17 = .ok (.newarray .long, 2) := by decide +kernel
theorem dL_law_19 : decode cL_law 19 = .ok (.astore_n 3, 1) := by decide +kernel
theorem dL_law_20 : decode cL_law 20 = .ok (.iconst 0, 1) := by decide +kernel
theorem dL_law_21 : decode cL_law 21 = .ok (.istore 4, 2) := by decide +kernel
theorem dL_law_23 : decode cL_law 23 = .ok (.iload 4, 2) := by decide +kernel
theorem dL_law_25 : decode cL_law 25 = .ok (.aload_n 0, 1) := by decide +kernel
theorem dL_law_26 : decode cL_law 26 = .ok (.arraylength, 1) := by decide +kernel
theorem dL_law_27 : decode cL_law 27 = .ok (.bipush 6, 2) := by decide +kernel
theorem dL_law_29 : decode cL_law 29 = .ok (.isub, 1) := by decide +kernel
theorem dL_law_30 : decode cL_law 30 = .ok (.if_icmp .gt 2358, 3) := by decide +kernel
theorem dL_law_33 : decode cL_law 33 = .ok (.aload_n 0, 1) := by decide +kernel
theorem dL_law_34 : decode cL_law 34 = .ok (.iload 4, 2) := by decide +kernel
theorem dL_law_36 : decode cL_law 36 = .ok (.iaload, 1) := by decide +kernel
theorem dL_law_37 : decode cL_law 37 = .ok (.bipush 31, 2) := by decide +kernel
theorem dL_law_39 : decode cL_law 39 = .ok (.iand, 1) := by decide +kernel
theorem dL_law_40 : decode cL_law 40 = .ok (.tableswitch 2342 0 30 #[140, 260, 328, 420, 495, 575, 588, 680, 784, 888, 956, 1048, 1128, 1184, 1264, 1351, 1431, 1511, 1591, 1683, 1751, 1807, 1820, 1888, 1956, 2024, 2092, 2148, 2204, 2284, 2328], 140) := by decide +kernel
theorem dL_law_180 : decode cL_law 180 = .ok (.aload_n 1, 1) := by decide +kernel
theorem dL_law_181 : decode cL_law 181 = .ok (.aload_n 0, 1) := by decide +kernel
theorem dL_law_182 : decode cL_law 182 = .ok (.iload 4, 2) := by decide +kernel
theorem dL_law_184 : decode cL_law 184 = .ok (.iconst 1, 1) := by decide +kernel
theorem dL_law_185 : decode cL_law 185 = .ok (.iadd, 1) := by decide +kernel
theorem dL_law_186 : decode cL_law 186 = .ok (.iaload, 1) := by decide +kernel
theorem dL_law_187 : decode cL_law 187 = .ok (.aload_n 0, 1) := by decide +kernel
theorem dL_law_188 : decode cL_law 188 = .ok (.iload 4, 2) := by decide +kernel
theorem dL_law_190 : decode cL_law 190 = .ok (.iconst 2, 1) := by decide +kernel
theorem dL_law_191 : decode cL_law 191 = .ok (.iadd, 1) := by decide +kernel
theorem dL_law_192 : decode cL_law 192 = .ok (.iaload, 1) := by decide +kernel
theorem dL_law_193 : decode cL_law 193 = .ok (.aload_n 0, 1) := by decide +kernel
theorem dL_law_194 : decode cL_law 194 = .ok (.iload 4, 2) := by decide +kernel
theorem dL_law_196 : decode cL_law 196 = .ok (.iconst 3, 1) := by decide +kernel
theorem dL_law_197 : decode cL_law 197 = .ok (.iadd, 1) := by decide +kernel
theorem dL_law_198 : decode cL_law 198 = .ok (.iaload, 1) := by decide +kernel
theorem dL_law_199 : decode cL_law 199 = .ok (.ifCond .eq 7, 3) := by decide +kernel
theorem dL_law_202 : decode cL_law 202 = .ok (.iconst 1, 1) := by decide +kernel
theorem dL_law_203 : decode cL_law 203 = .ok (.goto 4, 3) := by decide +kernel
theorem dL_law_206 : decode cL_law 206 = .ok (.iconst 0, 1) := by decide +kernel
theorem dL_law_207 : decode cL_law 207 = .ok (.aload_n 0, 1) := by decide +kernel
theorem dL_law_208 : decode cL_law 208 = .ok (.iload 4, 2) := by decide +kernel
theorem dL_law_210 : decode cL_law 210 = .ok (.iconst 4, 1) := by decide +kernel
theorem dL_law_211 : decode cL_law 211 = .ok (.iadd, 1) := by decide +kernel
theorem dL_law_212 : decode cL_law 212 = .ok (.iaload, 1) := by decide +kernel
theorem dL_law_213 : decode cL_law 213 = .ok (.aload_n 0, 1) := by decide +kernel
theorem dL_law_214 : decode cL_law 214 = .ok (.iload 4, 2) := by decide +kernel
theorem dL_law_216 : decode cL_law 216 = .ok (.iconst 5, 1) := by decide +kernel
theorem dL_law_217 : decode cL_law 217 = .ok (.iadd, 1) := by decide +kernel
theorem dL_law_218 : decode cL_law 218 = .ok (.iaload, 1) := by decide +kernel
theorem dL_law_219 : decode cL_law 219 = .ok (.aload_n 3, 1) := by decide +kernel
theorem dL_law_220 : decode cL_law 220 = .ok (.invokestatic 112, 3) := by decide +kernel
theorem dL_law_223 : decode cL_law 223 = .ok (.istore 5, 2) := by decide +kernel
theorem dL_law_225 : decode cL_law 225 = .ok (.aload_n 2, 1) := by decide +kernel
theorem dL_law_226 : decode cL_law 226 = .ok (.aload_n 0, 1) := by decide +kernel
theorem dL_law_227 : decode cL_law 227 = .ok (.iload 4, 2) := by decide +kernel
theorem dL_law_229 : decode cL_law 229 = .ok (.iconst 1, 1) := by decide +kernel
theorem dL_law_230 : decode cL_law 230 = .ok (.iadd, 1) := by decide +kernel
theorem dL_law_231 : decode cL_law 231 = .ok (.iaload, 1) := by decide +kernel
theorem dL_law_232 : decode cL_law 232 = .ok (.aload_n 0, 1) := by decide +kernel
theorem dL_law_233 : decode cL_law 233 = .ok (.iload 4, 2) := by decide +kernel
theorem dL_law_235 : decode cL_law 235 = .ok (.iconst 2, 1) := by decide +kernel
theorem dL_law_236 : decode cL_law 236 = .ok (.iadd, 1) := by decide +kernel
theorem dL_law_237 : decode cL_law 237 = .ok (.iaload, 1) := by decide +kernel
theorem dL_law_238 : decode cL_law 238 = .ok (.aload_n 0, 1) := by decide +kernel
theorem dL_law_239 : decode cL_law 239 = .ok (.iload 4, 2) := by decide +kernel
theorem dL_law_241 : decode cL_law 241 = .ok (.iconst 3, 1) := by decide +kernel
theorem dL_law_242 : decode cL_law 242 = .ok (.iadd, 1) := by decide +kernel
theorem dL_law_243 : decode cL_law 243 = .ok (.iaload, 1) := by decide +kernel
theorem dL_law_244 : decode cL_law 244 = .ok (.ifCond .eq 7, 3) := by decide +kernel
theorem dL_law_247 : decode cL_law 247 = .ok (.iconst 1, 1) := by decide +kernel
theorem dL_law_248 : decode cL_law 248 = .ok (.goto 4, 3) := by decide +kernel
theorem dL_law_251 : decode cL_law 251 = .ok (.iconst 0, 1) := by decide +kernel
theorem dL_law_252 : decode cL_law 252 = .ok (.aload_n 0, 1) := by decide +kernel
theorem dL_law_253 : decode cL_law 253 = .ok (.iload 4, 2) := by decide +kernel
theorem dL_law_255 : decode cL_law 255 = .ok (.iconst 4, 1) := by decide +kernel
theorem dL_law_256 : decode cL_law 256 = .ok (.iadd, 1) := by decide +kernel
theorem dL_law_257 : decode cL_law 257 = .ok (.iaload, 1) := by decide +kernel
theorem dL_law_258 : decode cL_law 258 = .ok (.aload_n 0, 1) := by decide +kernel
theorem dL_law_259 : decode cL_law 259 = .ok (.iload 4, 2) := by decide +kernel
theorem dL_law_261 : decode cL_law 261 = .ok (.iconst 5, 1) := by decide +kernel
theorem dL_law_262 : decode cL_law 262 = .ok (.iadd, 1) := by decide +kernel
theorem dL_law_263 : decode cL_law 263 = .ok (.iaload, 1) := by decide +kernel
theorem dL_law_264 : decode cL_law 264 = .ok (.invokevirtual 117, 3) := by decide +kernel
theorem dL_law_267 : decode cL_law 267 = .ok (.istore 6, 2) := by decide +kernel
theorem dL_law_269 : decode cL_law 269 = .ok (.aload_n 2, 1) := by decide +kernel
theorem dL_law_270 : decode cL_law 270 = .ok (.invokevirtual 118, 3) := by decide +kernel
theorem dL_law_273 : decode cL_law 273 = .ok (.iload 5, 2) := by decide +kernel
theorem dL_law_275 : decode cL_law 275 = .ok (.if_icmp .eq 5, 3) := by decide +kernel
theorem dL_law_278 : decode cL_law 278 = .ok (.iconst 0, 1) := by decide +kernel
theorem dL_law_279 : decode cL_law 279 = .ok (.ireturn, 1) := by decide +kernel
theorem dL_law_280 : decode cL_law 280 = .ok (.iload 5, 2) := by decide +kernel
theorem dL_law_282 : decode cL_law 282 = .ok (.ifCond .ne 15, 3) := by decide +kernel
theorem dL_law_285 : decode cL_law 285 = .ok (.aload_n 3, 1) := by decide +kernel
theorem dL_law_286 : decode cL_law 286 = .ok (.iconst 0, 1) := by decide +kernel
theorem dL_law_287 : decode cL_law 287 = .ok (.laload, 1) := by decide +kernel
theorem dL_law_288 : decode cL_law 288 = .ok (.iload 6, 2) := by decide +kernel
theorem dL_law_290 : decode cL_law 290 = .ok (.i2l, 1) := by decide +kernel
theorem dL_law_291 : decode cL_law 291 = .ok (.lcmp, 1) := by decide +kernel
theorem dL_law_292 : decode cL_law 292 = .ok (.ifCond .eq 5, 3) := by decide +kernel
theorem dL_law_295 : decode cL_law 295 = .ok (.iconst 0, 1) := by decide +kernel
theorem dL_law_296 : decode cL_law 296 = .ok (.ireturn, 1) := by decide +kernel
theorem dL_law_297 : decode cL_law 297 = .ok (.goto 2085, 3) := by decide +kernel
theorem dL_law_300 : decode cL_law 300 = .ok (.aload_n 1, 1) := by decide +kernel
theorem dL_law_301 : decode cL_law 301 = .ok (.aload_n 0, 1) := by decide +kernel
theorem dL_law_302 : decode cL_law 302 = .ok (.iload 4, 2) := by decide +kernel
theorem dL_law_304 : decode cL_law 304 = .ok (.iconst 1, 1) := by decide +kernel
theorem dL_law_305 : decode cL_law 305 = .ok (.iadd, 1) := by decide +kernel
theorem dL_law_306 : decode cL_law 306 = .ok (.iaload, 1) := by decide +kernel
theorem dL_law_307 : decode cL_law 307 = .ok (.aload_n 0, 1) := by decide +kernel
theorem dL_law_308 : decode cL_law 308 = .ok (.iload 4, 2) := by decide +kernel
theorem dL_law_310 : decode cL_law 310 = .ok (.iconst 2, 1) := by decide +kernel
theorem dL_law_311 : decode cL_law 311 = .ok (.iadd, 1) := by decide +kernel
theorem dL_law_312 : decode cL_law 312 = .ok (.iaload, 1) := by decide +kernel
theorem dL_law_313 : decode cL_law 313 = .ok (.aload_n 3, 1) := by decide +kernel
theorem dL_law_314 : decode cL_law 314 = .ok (.invokestatic 121, 3) := by decide +kernel
theorem dL_law_317 : decode cL_law 317 = .ok (.istore 5, 2) := by decide +kernel
theorem dL_law_319 : decode cL_law 319 = .ok (.aload_n 2, 1) := by decide +kernel
theorem dL_law_320 : decode cL_law 320 = .ok (.aload_n 0, 1) := by decide +kernel
theorem dL_law_321 : decode cL_law 321 = .ok (.iload 4, 2) := by decide +kernel
theorem dL_law_323 : decode cL_law 323 = .ok (.iconst 1, 1) := by decide +kernel
theorem dL_law_324 : decode cL_law 324 = .ok (.iadd, 1) := by decide +kernel
theorem dL_law_325 : decode cL_law 325 = .ok (.iaload, 1) := by decide +kernel
theorem dL_law_326 : decode cL_law 326 = .ok (.aload_n 0, 1) := by decide +kernel
theorem dL_law_327 : decode cL_law 327 = .ok (.iload 4, 2) := by decide +kernel
theorem dL_law_329 : decode cL_law 329 = .ok (.iconst 2, 1) := by decide +kernel
theorem dL_law_330 : decode cL_law 330 = .ok (.iadd, 1) := by decide +kernel
theorem dL_law_331 : decode cL_law 331 = .ok (.iaload, 1) := by decide +kernel
theorem dL_law_332 : decode cL_law 332 = .ok (.invokevirtual 124, 3) := by decide +kernel
theorem dL_law_335 : decode cL_law 335 = .ok (.istore 6, 2) := by decide +kernel
theorem dL_law_337 : decode cL_law 337 = .ok (.aload_n 2, 1) := by decide +kernel
theorem dL_law_338 : decode cL_law 338 = .ok (.invokevirtual 118, 3) := by decide +kernel
theorem dL_law_341 : decode cL_law 341 = .ok (.iload 5, 2) := by decide +kernel
theorem dL_law_343 : decode cL_law 343 = .ok (.if_icmp .eq 5, 3) := by decide +kernel
theorem dL_law_346 : decode cL_law 346 = .ok (.iconst 0, 1) := by decide +kernel
theorem dL_law_347 : decode cL_law 347 = .ok (.ireturn, 1) := by decide +kernel
theorem dL_law_348 : decode cL_law 348 = .ok (.iload 5, 2) := by decide +kernel
theorem dL_law_350 : decode cL_law 350 = .ok (.ifCond .ne 15, 3) := by decide +kernel
theorem dL_law_353 : decode cL_law 353 = .ok (.aload_n 3, 1) := by decide +kernel
theorem dL_law_354 : decode cL_law 354 = .ok (.iconst 0, 1) := by decide +kernel
theorem dL_law_355 : decode cL_law 355 = .ok (.laload, 1) := by decide +kernel
theorem dL_law_356 : decode cL_law 356 = .ok (.iload 6, 2) := by decide +kernel
theorem dL_law_358 : decode cL_law 358 = .ok (.i2l, 1) := by decide +kernel
theorem dL_law_359 : decode cL_law 359 = .ok (.lcmp, 1) := by decide +kernel
theorem dL_law_360 : decode cL_law 360 = .ok (.ifCond .eq 5, 3) := by decide +kernel
theorem dL_law_363 : decode cL_law 363 = .ok (.iconst 0, 1) := by decide +kernel
theorem dL_law_364 : decode cL_law 364 = .ok (.ireturn, 1) := by decide +kernel
theorem dL_law_365 : decode cL_law 365 = .ok (.goto 2017, 3) := by decide +kernel
theorem dL_law_368 : decode cL_law 368 = .ok (.aload_n 1, 1) := by decide +kernel
theorem dL_law_369 : decode cL_law 369 = .ok (.aload_n 0, 1) := by decide +kernel
theorem dL_law_370 : decode cL_law 370 = .ok (.iload 4, 2) := by decide +kernel
theorem dL_law_372 : decode cL_law 372 = .ok (.iconst 1, 1) := by decide +kernel
theorem dL_law_373 : decode cL_law 373 = .ok (.iadd, 1) := by decide +kernel
theorem dL_law_374 : decode cL_law 374 = .ok (.iaload, 1) := by decide +kernel
theorem dL_law_375 : decode cL_law 375 = .ok (.aload_n 0, 1) := by decide +kernel
theorem dL_law_376 : decode cL_law 376 = .ok (.iload 4, 2) := by decide +kernel
theorem dL_law_378 : decode cL_law 378 = .ok (.iconst 2, 1) := by decide +kernel
theorem dL_law_379 : decode cL_law 379 = .ok (.iadd, 1) := by decide +kernel
theorem dL_law_380 : decode cL_law 380 = .ok (.iaload, 1) := by decide +kernel
theorem dL_law_381 : decode cL_law 381 = .ok (.aload_n 0, 1) := by decide +kernel
theorem dL_law_382 : decode cL_law 382 = .ok (.iload 4, 2) := by decide +kernel
theorem dL_law_384 : decode cL_law 384 = .ok (.iconst 3, 1) := by decide +kernel
theorem dL_law_385 : decode cL_law 385 = .ok (.iadd, 1) := by decide +kernel
theorem dL_law_386 : decode cL_law 386 = .ok (.iaload, 1) := by decide +kernel
theorem dL_law_387 : decode cL_law 387 = .ok (.aload_n 0, 1) := by decide +kernel
theorem dL_law_388 : decode cL_law 388 = .ok (.iload 4, 2) := by decide +kernel
theorem dL_law_390 : decode cL_law 390 = .ok (.iconst 4, 1) := by decide +kernel
theorem dL_law_391 : decode cL_law 391 = .ok (.iadd, 1) := by decide +kernel
theorem dL_law_392 : decode cL_law 392 = .ok (.iaload, 1) := by decide +kernel
theorem dL_law_393 : decode cL_law 393 = .ok (.aload_n 3, 1) := by decide +kernel
theorem dL_law_394 : decode cL_law 394 = .ok (.invokestatic 125, 3) := by decide +kernel
theorem dL_law_397 : decode cL_law 397 = .ok (.istore 5, 2) := by decide +kernel
theorem dL_law_399 : decode cL_law 399 = .ok (.aload_n 2, 1) := by decide +kernel
theorem dL_law_400 : decode cL_law 400 = .ok (.aload_n 0, 1) := by decide +kernel
theorem dL_law_401 : decode cL_law 401 = .ok (.iload 4, 2) := by decide +kernel
theorem dL_law_403 : decode cL_law 403 = .ok (.iconst 1, 1) := by decide +kernel
theorem dL_law_404 : decode cL_law 404 = .ok (.iadd, 1) := by decide +kernel
theorem dL_law_405 : decode cL_law 405 = .ok (.iaload, 1) := by decide +kernel
theorem dL_law_406 : decode cL_law 406 = .ok (.aload_n 0, 1) := by decide +kernel
theorem dL_law_407 : decode cL_law 407 = .ok (.iload 4, 2) := by decide +kernel
theorem dL_law_409 : decode cL_law 409 = .ok (.iconst 2, 1) := by decide +kernel
theorem dL_law_410 : decode cL_law 410 = .ok (.iadd, 1) := by decide +kernel
theorem dL_law_411 : decode cL_law 411 = .ok (.iaload, 1) := by decide +kernel
theorem dL_law_412 : decode cL_law 412 = .ok (.aload_n 0, 1) := by decide +kernel
theorem dL_law_413 : decode cL_law 413 = .ok (.iload 4, 2) := by decide +kernel
theorem dL_law_415 : decode cL_law 415 = .ok (.iconst 3, 1) := by decide +kernel
theorem dL_law_416 : decode cL_law 416 = .ok (.iadd, 1) := by decide +kernel
theorem dL_law_417 : decode cL_law 417 = .ok (.iaload, 1) := by decide +kernel
theorem dL_law_418 : decode cL_law 418 = .ok (.aload_n 0, 1) := by decide +kernel
theorem dL_law_419 : decode cL_law 419 = .ok (.iload 4, 2) := by decide +kernel
theorem dL_law_421 : decode cL_law 421 = .ok (.iconst 4, 1) := by decide +kernel
theorem dL_law_422 : decode cL_law 422 = .ok (.iadd, 1) := by decide +kernel
theorem dL_law_423 : decode cL_law 423 = .ok (.iaload, 1) := by decide +kernel
theorem dL_law_424 : decode cL_law 424 = .ok (.invokevirtual 128, 3) := by decide +kernel
theorem dL_law_427 : decode cL_law 427 = .ok (.istore 6, 2) := by decide +kernel
theorem dL_law_429 : decode cL_law 429 = .ok (.aload_n 2, 1) := by decide +kernel
theorem dL_law_430 : decode cL_law 430 = .ok (.invokevirtual 118, 3) := by decide +kernel
theorem dL_law_433 : decode cL_law 433 = .ok (.iload 5, 2) := by decide +kernel
theorem dL_law_435 : decode cL_law 435 = .ok (.if_icmp .eq 5, 3) := by decide +kernel
theorem dL_law_438 : decode cL_law 438 = .ok (.iconst 0, 1) := by decide +kernel
theorem dL_law_439 : decode cL_law 439 = .ok (.ireturn, 1) := by decide +kernel
theorem dL_law_440 : decode cL_law 440 = .ok (.iload 5, 2) := by decide +kernel
theorem dL_law_442 : decode cL_law 442 = .ok (.ifCond .ne 15, 3) := by decide +kernel
theorem dL_law_445 : decode cL_law 445 = .ok (.aload_n 3, 1) := by decide +kernel
theorem dL_law_446 : decode cL_law 446 = .ok (.iconst 0, 1) := by decide +kernel
theorem dL_law_447 : decode cL_law 447 = .ok (.laload, 1) := by decide +kernel
theorem dL_law_448 : decode cL_law 448 = .ok (.iload 6, 2) := by decide +kernel
theorem dL_law_450 : decode cL_law 450 = .ok (.i2l, 1) := by decide +kernel
theorem dL_law_451 : decode cL_law 451 = .ok (.lcmp, 1) := by decide +kernel
theorem dL_law_452 : decode cL_law 452 = .ok (.ifCond .eq 5, 3) := by decide +kernel
theorem dL_law_455 : decode cL_law 455 = .ok (.iconst 0, 1) := by decide +kernel
theorem dL_law_456 : decode cL_law 456 = .ok (.ireturn, 1) := by decide +kernel
theorem dL_law_457 : decode cL_law 457 = .ok (.goto 1925, 3) := by decide +kernel
theorem dL_law_460 : decode cL_law 460 = .ok (.aload_n 1, 1) := by decide +kernel
theorem dL_law_461 : decode cL_law 461 = .ok (.aload_n 0, 1) := by decide +kernel
theorem dL_law_462 : decode cL_law 462 = .ok (.iload 4, 2) := by decide +kernel
theorem dL_law_464 : decode cL_law 464 = .ok (.iconst 1, 1) := by decide +kernel
theorem dL_law_465 : decode cL_law 465 = .ok (.iadd, 1) := by decide +kernel
theorem dL_law_466 : decode cL_law 466 = .ok (.iaload, 1) := by decide +kernel
theorem dL_law_467 : decode cL_law 467 = .ok (.aload_n 0, 1) := by decide +kernel
theorem dL_law_468 : decode cL_law 468 = .ok (.iload 4, 2) := by decide +kernel
theorem dL_law_470 : decode cL_law 470 = .ok (.iconst 2, 1) := by decide +kernel
theorem dL_law_471 : decode cL_law 471 = .ok (.iadd, 1) := by decide +kernel
theorem dL_law_472 : decode cL_law 472 = .ok (.iaload, 1) := by decide +kernel
theorem dL_law_473 : decode cL_law 473 = .ok (.aload_n 3, 1) := by decide +kernel
theorem dL_law_474 : decode cL_law 474 = .ok (.invokestatic 129, 3) := by decide +kernel
theorem dL_law_477 : decode cL_law 477 = .ok (.istore 5, 2) := by decide +kernel
theorem dL_law_479 : decode cL_law 479 = .ok (.aload_n 2, 1) := by decide +kernel
theorem dL_law_480 : decode cL_law 480 = .ok (.aload_n 0, 1) := by decide +kernel
theorem dL_law_481 : decode cL_law 481 = .ok (.iload 4, 2) := by decide +kernel
theorem dL_law_483 : decode cL_law 483 = .ok (.iconst 1, 1) := by decide +kernel
theorem dL_law_484 : decode cL_law 484 = .ok (.iadd, 1) := by decide +kernel
theorem dL_law_485 : decode cL_law 485 = .ok (.iaload, 1) := by decide +kernel
theorem dL_law_486 : decode cL_law 486 = .ok (.aload_n 0, 1) := by decide +kernel
theorem dL_law_487 : decode cL_law 487 = .ok (.iload 4, 2) := by decide +kernel
theorem dL_law_489 : decode cL_law 489 = .ok (.iconst 2, 1) := by decide +kernel
theorem dL_law_490 : decode cL_law 490 = .ok (.iadd, 1) := by decide +kernel
theorem dL_law_491 : decode cL_law 491 = .ok (.iaload, 1) := by decide +kernel
theorem dL_law_492 : decode cL_law 492 = .ok (.invokevirtual 131, 3) := by decide +kernel
theorem dL_law_495 : decode cL_law 495 = .ok (.istore 6, 2) := by decide +kernel
theorem dL_law_497 : decode cL_law 497 = .ok (.aload_n 2, 1) := by decide +kernel
theorem dL_law_498 : decode cL_law 498 = .ok (.invokevirtual 118, 3) := by decide +kernel
theorem dL_law_501 : decode cL_law 501 = .ok (.iload 5, 2) := by decide +kernel
theorem dL_law_503 : decode cL_law 503 = .ok (.if_icmp .eq 5, 3) := by decide +kernel
theorem dL_law_506 : decode cL_law 506 = .ok (.iconst 0, 1) := by decide +kernel
theorem dL_law_507 : decode cL_law 507 = .ok (.ireturn, 1) := by decide +kernel
theorem dL_law_508 : decode cL_law 508 = .ok (.iload 5, 2) := by decide +kernel
theorem dL_law_510 : decode cL_law 510 = .ok (.ifCond .ne 22, 3) := by decide +kernel
theorem dL_law_513 : decode cL_law 513 = .ok (.aload_n 3, 1) := by decide +kernel
theorem dL_law_514 : decode cL_law 514 = .ok (.iconst 0, 1) := by decide +kernel
theorem dL_law_515 : decode cL_law 515 = .ok (.laload, 1) := by decide +kernel
theorem dL_law_516 : decode cL_law 516 = .ok (.iload 6, 2) := by decide +kernel
theorem dL_law_518 : decode cL_law 518 = .ok (.ifCond .eq 7, 3) := by decide +kernel
theorem dL_law_521 : decode cL_law 521 = .ok (.lconst 1, 1) := by decide +kernel
theorem dL_law_522 : decode cL_law 522 = .ok (.goto 4, 3) := by decide +kernel
theorem dL_law_525 : decode cL_law 525 = .ok (.lconst 0, 1) := by decide +kernel
theorem dL_law_526 : decode cL_law 526 = .ok (.lcmp, 1) := by decide +kernel
theorem dL_law_527 : decode cL_law 527 = .ok (.ifCond .eq 5, 3) := by decide +kernel
theorem dL_law_530 : decode cL_law 530 = .ok (.iconst 0, 1) := by decide +kernel
theorem dL_law_531 : decode cL_law 531 = .ok (.ireturn, 1) := by decide +kernel
theorem dL_law_532 : decode cL_law 532 = .ok (.goto 1850, 3) := by decide +kernel
theorem dL_law_535 : decode cL_law 535 = .ok (.aload_n 1, 1) := by decide +kernel
theorem dL_law_536 : decode cL_law 536 = .ok (.aload_n 0, 1) := by decide +kernel
theorem dL_law_537 : decode cL_law 537 = .ok (.iload 4, 2) := by decide +kernel
theorem dL_law_539 : decode cL_law 539 = .ok (.iconst 1, 1) := by decide +kernel
theorem dL_law_540 : decode cL_law 540 = .ok (.iadd, 1) := by decide +kernel
theorem dL_law_541 : decode cL_law 541 = .ok (.iaload, 1) := by decide +kernel
theorem dL_law_542 : decode cL_law 542 = .ok (.aload_n 0, 1) := by decide +kernel
theorem dL_law_543 : decode cL_law 543 = .ok (.iload 4, 2) := by decide +kernel
theorem dL_law_545 : decode cL_law 545 = .ok (.iconst 2, 1) := by decide +kernel
theorem dL_law_546 : decode cL_law 546 = .ok (.iadd, 1) := by decide +kernel
theorem dL_law_547 : decode cL_law 547 = .ok (.iaload, 1) := by decide +kernel
theorem dL_law_548 : decode cL_law 548 = .ok (.aload_n 0, 1) := by decide +kernel
theorem dL_law_549 : decode cL_law 549 = .ok (.iload 4, 2) := by decide +kernel
theorem dL_law_551 : decode cL_law 551 = .ok (.iconst 3, 1) := by decide +kernel
theorem dL_law_552 : decode cL_law 552 = .ok (.iadd, 1) := by decide +kernel
theorem dL_law_553 : decode cL_law 553 = .ok (.iaload, 1) := by decide +kernel
theorem dL_law_554 : decode cL_law 554 = .ok (.aload_n 3, 1) := by decide +kernel
theorem dL_law_555 : decode cL_law 555 = .ok (.invokestatic 132, 3) := by decide +kernel
theorem dL_law_558 : decode cL_law 558 = .ok (.istore 5, 2) := by decide +kernel
theorem dL_law_560 : decode cL_law 560 = .ok (.aload_n 2, 1) := by decide +kernel
theorem dL_law_561 : decode cL_law 561 = .ok (.aload_n 0, 1) := by decide +kernel
theorem dL_law_562 : decode cL_law 562 = .ok (.iload 4, 2) := by decide +kernel
theorem dL_law_564 : decode cL_law 564 = .ok (.iconst 1, 1) := by decide +kernel
theorem dL_law_565 : decode cL_law 565 = .ok (.iadd, 1) := by decide +kernel
theorem dL_law_566 : decode cL_law 566 = .ok (.iaload, 1) := by decide +kernel
theorem dL_law_567 : decode cL_law 567 = .ok (.aload_n 0, 1) := by decide +kernel
theorem dL_law_568 : decode cL_law 568 = .ok (.iload 4, 2) := by decide +kernel
theorem dL_law_570 : decode cL_law 570 = .ok (.iconst 2, 1) := by decide +kernel
theorem dL_law_571 : decode cL_law 571 = .ok (.iadd, 1) := by decide +kernel
theorem dL_law_572 : decode cL_law 572 = .ok (.iaload, 1) := by decide +kernel
theorem dL_law_573 : decode cL_law 573 = .ok (.aload_n 0, 1) := by decide +kernel
theorem dL_law_574 : decode cL_law 574 = .ok (.iload 4, 2) := by decide +kernel
theorem dL_law_576 : decode cL_law 576 = .ok (.iconst 3, 1) := by decide +kernel
theorem dL_law_577 : decode cL_law 577 = .ok (.iadd, 1) := by decide +kernel
theorem dL_law_578 : decode cL_law 578 = .ok (.iaload, 1) := by decide +kernel
theorem dL_law_579 : decode cL_law 579 = .ok (.invokevirtual 135, 3) := by decide +kernel
theorem dL_law_582 : decode cL_law 582 = .ok (.istore 6, 2) := by decide +kernel
theorem dL_law_584 : decode cL_law 584 = .ok (.aload_n 2, 1) := by decide +kernel
theorem dL_law_585 : decode cL_law 585 = .ok (.invokevirtual 118, 3) := by decide +kernel
theorem dL_law_588 : decode cL_law 588 = .ok (.iload 5, 2) := by decide +kernel
theorem dL_law_590 : decode cL_law 590 = .ok (.if_icmp .eq 5, 3) := by decide +kernel
theorem dL_law_593 : decode cL_law 593 = .ok (.iconst 0, 1) := by decide +kernel
theorem dL_law_594 : decode cL_law 594 = .ok (.ireturn, 1) := by decide +kernel
theorem dL_law_595 : decode cL_law 595 = .ok (.iload 5, 2) := by decide +kernel
theorem dL_law_597 : decode cL_law 597 = .ok (.ifCond .ne 15, 3) := by decide +kernel
theorem dL_law_600 : decode cL_law 600 = .ok (.aload_n 3, 1) := by decide +kernel
theorem dL_law_601 : decode cL_law 601 = .ok (.iconst 0, 1) := by decide +kernel
theorem dL_law_602 : decode cL_law 602 = .ok (.laload, 1) := by decide +kernel
theorem dL_law_603 : decode cL_law 603 = .ok (.iload 6, 2) := by decide +kernel
theorem dL_law_605 : decode cL_law 605 = .ok (.i2l, 1) := by decide +kernel
theorem dL_law_606 : decode cL_law 606 = .ok (.lcmp, 1) := by decide +kernel
theorem dL_law_607 : decode cL_law 607 = .ok (.ifCond .eq 5, 3) := by decide +kernel
theorem dL_law_610 : decode cL_law 610 = .ok (.iconst 0, 1) := by decide +kernel
theorem dL_law_611 : decode cL_law 611 = .ok (.ireturn, 1) := by decide +kernel
theorem dL_law_612 : decode cL_law 612 = .ok (.goto 1770, 3) := by decide +kernel
theorem dL_law_615 : decode cL_law 615 = .ok (.aload_n 1, 1) := by decide +kernel
theorem dL_law_616 : decode cL_law 616 = .ok (.invokevirtual 136, 3) := by decide +kernel
theorem dL_law_619 : decode cL_law 619 = .ok (.aload_n 2, 1) := by decide +kernel
theorem dL_law_620 : decode cL_law 620 = .ok (.invokevirtual 139, 3) := by decide +kernel
theorem dL_law_623 : decode cL_law 623 = .ok (.if_icmp .eq 1759, 3) := by decide +kernel
theorem dL_law_626 : decode cL_law 626 = .ok (.iconst 0, 1) := by decide +kernel
theorem dL_law_627 : decode cL_law 627 = .ok (.ireturn, 1) := by decide +kernel
theorem dL_law_628 : decode cL_law 628 = .ok (.aload_n 1, 1) := by decide +kernel
theorem dL_law_629 : decode cL_law 629 = .ok (.aload_n 0, 1) := by decide +kernel
theorem dL_law_630 : decode cL_law 630 = .ok (.iload 4, 2) := by decide +kernel
theorem dL_law_632 : decode cL_law 632 = .ok (.iconst 1, 1) := by decide +kernel
theorem dL_law_633 : decode cL_law 633 = .ok (.iadd, 1) := by decide +kernel
theorem dL_law_634 : decode cL_law 634 = .ok (.iaload, 1) := by decide +kernel
theorem dL_law_635 : decode cL_law 635 = .ok (.aload_n 0, 1) := by decide +kernel
theorem dL_law_636 : decode cL_law 636 = .ok (.iload 4, 2) := by decide +kernel
theorem dL_law_638 : decode cL_law 638 = .ok (.iconst 2, 1) := by decide +kernel
theorem dL_law_639 : decode cL_law 639 = .ok (.iadd, 1) := by decide +kernel
theorem dL_law_640 : decode cL_law 640 = .ok (.iaload, 1) := by decide +kernel
theorem dL_law_641 : decode cL_law 641 = .ok (.aload_n 0, 1) := by decide +kernel
theorem dL_law_642 : decode cL_law 642 = .ok (.iload 4, 2) := by decide +kernel
theorem dL_law_644 : decode cL_law 644 = .ok (.iconst 3, 1) := by decide +kernel
theorem dL_law_645 : decode cL_law 645 = .ok (.iadd, 1) := by decide +kernel
theorem dL_law_646 : decode cL_law 646 = .ok (.iaload, 1) := by decide +kernel
theorem dL_law_647 : decode cL_law 647 = .ok (.aload_n 0, 1) := by decide +kernel
theorem dL_law_648 : decode cL_law 648 = .ok (.iload 4, 2) := by decide +kernel
theorem dL_law_650 : decode cL_law 650 = .ok (.iconst 4, 1) := by decide +kernel
theorem dL_law_651 : decode cL_law 651 = .ok (.iadd, 1) := by decide +kernel
theorem dL_law_652 : decode cL_law 652 = .ok (.iaload, 1) := by decide +kernel
theorem dL_law_653 : decode cL_law 653 = .ok (.aload_n 3, 1) := by decide +kernel
theorem dL_law_654 : decode cL_law 654 = .ok (.invokestatic 140, 3) := by decide +kernel
theorem dL_law_657 : decode cL_law 657 = .ok (.istore 5, 2) := by decide +kernel
theorem dL_law_659 : decode cL_law 659 = .ok (.aload_n 2, 1) := by decide +kernel
theorem dL_law_660 : decode cL_law 660 = .ok (.aload_n 0, 1) := by decide +kernel
theorem dL_law_661 : decode cL_law 661 = .ok (.iload 4, 2) := by decide +kernel
theorem dL_law_663 : decode cL_law 663 = .ok (.iconst 1, 1) := by decide +kernel
theorem dL_law_664 : decode cL_law 664 = .ok (.iadd, 1) := by decide +kernel
theorem dL_law_665 : decode cL_law 665 = .ok (.iaload, 1) := by decide +kernel
theorem dL_law_666 : decode cL_law 666 = .ok (.aload_n 0, 1) := by decide +kernel
theorem dL_law_667 : decode cL_law 667 = .ok (.iload 4, 2) := by decide +kernel
theorem dL_law_669 : decode cL_law 669 = .ok (.iconst 2, 1) := by decide +kernel
theorem dL_law_670 : decode cL_law 670 = .ok (.iadd, 1) := by decide +kernel
theorem dL_law_671 : decode cL_law 671 = .ok (.iaload, 1) := by decide +kernel
theorem dL_law_672 : decode cL_law 672 = .ok (.aload_n 0, 1) := by decide +kernel
theorem dL_law_673 : decode cL_law 673 = .ok (.iload 4, 2) := by decide +kernel
theorem dL_law_675 : decode cL_law 675 = .ok (.iconst 3, 1) := by decide +kernel
theorem dL_law_676 : decode cL_law 676 = .ok (.iadd, 1) := by decide +kernel
theorem dL_law_677 : decode cL_law 677 = .ok (.iaload, 1) := by decide +kernel
theorem dL_law_678 : decode cL_law 678 = .ok (.aload_n 0, 1) := by decide +kernel
theorem dL_law_679 : decode cL_law 679 = .ok (.iload 4, 2) := by decide +kernel
theorem dL_law_681 : decode cL_law 681 = .ok (.iconst 4, 1) := by decide +kernel
theorem dL_law_682 : decode cL_law 682 = .ok (.iadd, 1) := by decide +kernel
theorem dL_law_683 : decode cL_law 683 = .ok (.iaload, 1) := by decide +kernel
theorem dL_law_684 : decode cL_law 684 = .ok (.invokevirtual 142, 3) := by decide +kernel
theorem dL_law_687 : decode cL_law 687 = .ok (.istore 6, 2) := by decide +kernel
theorem dL_law_689 : decode cL_law 689 = .ok (.aload_n 2, 1) := by decide +kernel
theorem dL_law_690 : decode cL_law 690 = .ok (.invokevirtual 118, 3) := by decide +kernel
theorem dL_law_693 : decode cL_law 693 = .ok (.iload 5, 2) := by decide +kernel
theorem dL_law_695 : decode cL_law 695 = .ok (.if_icmp .eq 5, 3) := by decide +kernel
theorem dL_law_698 : decode cL_law 698 = .ok (.iconst 0, 1) := by decide +kernel
theorem dL_law_699 : decode cL_law 699 = .ok (.ireturn, 1) := by decide +kernel
theorem dL_law_700 : decode cL_law 700 = .ok (.iload 5, 2) := by decide +kernel
theorem dL_law_702 : decode cL_law 702 = .ok (.ifCond .ne 15, 3) := by decide +kernel
theorem dL_law_705 : decode cL_law 705 = .ok (.aload_n 3, 1) := by decide +kernel
theorem dL_law_706 : decode cL_law 706 = .ok (.iconst 0, 1) := by decide +kernel
theorem dL_law_707 : decode cL_law 707 = .ok (.laload, 1) := by decide +kernel
theorem dL_law_708 : decode cL_law 708 = .ok (.iload 6, 2) := by decide +kernel
theorem dL_law_710 : decode cL_law 710 = .ok (.i2l, 1) := by decide +kernel
theorem dL_law_711 : decode cL_law 711 = .ok (.lcmp, 1) := by decide +kernel
theorem dL_law_712 : decode cL_law 712 = .ok (.ifCond .eq 5, 3) := by decide +kernel
theorem dL_law_715 : decode cL_law 715 = .ok (.iconst 0, 1) := by decide +kernel
theorem dL_law_716 : decode cL_law 716 = .ok (.ireturn, 1) := by decide +kernel
theorem dL_law_717 : decode cL_law 717 = .ok (.goto 1665, 3) := by decide +kernel
theorem dL_law_720 : decode cL_law 720 = .ok (.aload_n 1, 1) := by decide +kernel
theorem dL_law_721 : decode cL_law 721 = .ok (.aload_n 0, 1) := by decide +kernel
theorem dL_law_722 : decode cL_law 722 = .ok (.iload 4, 2) := by decide +kernel
theorem dL_law_724 : decode cL_law 724 = .ok (.iconst 1, 1) := by decide +kernel
theorem dL_law_725 : decode cL_law 725 = .ok (.iadd, 1) := by decide +kernel
theorem dL_law_726 : decode cL_law 726 = .ok (.iaload, 1) := by decide +kernel
theorem dL_law_727 : decode cL_law 727 = .ok (.aload_n 0, 1) := by decide +kernel
theorem dL_law_728 : decode cL_law 728 = .ok (.iload 4, 2) := by decide +kernel
theorem dL_law_730 : decode cL_law 730 = .ok (.iconst 2, 1) := by decide +kernel
theorem dL_law_731 : decode cL_law 731 = .ok (.iadd, 1) := by decide +kernel
theorem dL_law_732 : decode cL_law 732 = .ok (.iaload, 1) := by decide +kernel
theorem dL_law_733 : decode cL_law 733 = .ok (.aload_n 0, 1) := by decide +kernel
theorem dL_law_734 : decode cL_law 734 = .ok (.iload 4, 2) := by decide +kernel
theorem dL_law_736 : decode cL_law 736 = .ok (.iconst 3, 1) := by decide +kernel
theorem dL_law_737 : decode cL_law 737 = .ok (.iadd, 1) := by decide +kernel
theorem dL_law_738 : decode cL_law 738 = .ok (.iaload, 1) := by decide +kernel
theorem dL_law_739 : decode cL_law 739 = .ok (.aload_n 0, 1) := by decide +kernel
theorem dL_law_740 : decode cL_law 740 = .ok (.iload 4, 2) := by decide +kernel
theorem dL_law_742 : decode cL_law 742 = .ok (.iconst 4, 1) := by decide +kernel
theorem dL_law_743 : decode cL_law 743 = .ok (.iadd, 1) := by decide +kernel
theorem dL_law_744 : decode cL_law 744 = .ok (.iaload, 1) := by decide +kernel
theorem dL_law_745 : decode cL_law 745 = .ok (.aload_n 0, 1) := by decide +kernel
theorem dL_law_746 : decode cL_law 746 = .ok (.iload 4, 2) := by decide +kernel
theorem dL_law_748 : decode cL_law 748 = .ok (.iconst 5, 1) := by decide +kernel
theorem dL_law_749 : decode cL_law 749 = .ok (.iadd, 1) := by decide +kernel
theorem dL_law_750 : decode cL_law 750 = .ok (.iaload, 1) := by decide +kernel
theorem dL_law_751 : decode cL_law 751 = .ok (.aload_n 3, 1) := by decide +kernel
theorem dL_law_752 : decode cL_law 752 = .ok (.invokestatic 143, 3) := by decide +kernel
theorem dL_law_755 : decode cL_law 755 = .ok (.istore 5, 2) := by decide +kernel
theorem dL_law_757 : decode cL_law 757 = .ok (.aload_n 2, 1) := by decide +kernel
theorem dL_law_758 : decode cL_law 758 = .ok (.aload_n 0, 1) := by decide +kernel
theorem dL_law_759 : decode cL_law 759 = .ok (.iload 4, 2) := by decide +kernel
theorem dL_law_761 : decode cL_law 761 = .ok (.iconst 1, 1) := by decide +kernel
theorem dL_law_762 : decode cL_law 762 = .ok (.iadd, 1) := by decide +kernel
theorem dL_law_763 : decode cL_law 763 = .ok (.iaload, 1) := by decide +kernel
theorem dL_law_764 : decode cL_law 764 = .ok (.aload_n 0, 1) := by decide +kernel
theorem dL_law_765 : decode cL_law 765 = .ok (.iload 4, 2) := by decide +kernel
theorem dL_law_767 : decode cL_law 767 = .ok (.iconst 2, 1) := by decide +kernel
theorem dL_law_768 : decode cL_law 768 = .ok (.iadd, 1) := by decide +kernel
theorem dL_law_769 : decode cL_law 769 = .ok (.iaload, 1) := by decide +kernel
theorem dL_law_770 : decode cL_law 770 = .ok (.aload_n 0, 1) := by decide +kernel
theorem dL_law_771 : decode cL_law 771 = .ok (.iload 4, 2) := by decide +kernel
theorem dL_law_773 : decode cL_law 773 = .ok (.iconst 3, 1) := by decide +kernel
theorem dL_law_774 : decode cL_law 774 = .ok (.iadd, 1) := by decide +kernel
theorem dL_law_775 : decode cL_law 775 = .ok (.iaload, 1) := by decide +kernel
theorem dL_law_776 : decode cL_law 776 = .ok (.aload_n 0, 1) := by decide +kernel
theorem dL_law_777 : decode cL_law 777 = .ok (.iload 4, 2) := by decide +kernel
theorem dL_law_779 : decode cL_law 779 = .ok (.iconst 4, 1) := by decide +kernel
theorem dL_law_780 : decode cL_law 780 = .ok (.iadd, 1) := by decide +kernel
theorem dL_law_781 : decode cL_law 781 = .ok (.iaload, 1) := by decide +kernel
theorem dL_law_782 : decode cL_law 782 = .ok (.aload_n 0, 1) := by decide +kernel
theorem dL_law_783 : decode cL_law 783 = .ok (.iload 4, 2) := by decide +kernel
theorem dL_law_785 : decode cL_law 785 = .ok (.iconst 5, 1) := by decide +kernel
theorem dL_law_786 : decode cL_law 786 = .ok (.iadd, 1) := by decide +kernel
theorem dL_law_787 : decode cL_law 787 = .ok (.iaload, 1) := by decide +kernel
theorem dL_law_788 : decode cL_law 788 = .ok (.invokevirtual 146, 3) := by decide +kernel
theorem dL_law_791 : decode cL_law 791 = .ok (.istore 6, 2) := by decide +kernel
theorem dL_law_793 : decode cL_law 793 = .ok (.aload_n 2, 1) := by decide +kernel
theorem dL_law_794 : decode cL_law 794 = .ok (.invokevirtual 118, 3) := by decide +kernel
theorem dL_law_797 : decode cL_law 797 = .ok (.iload 5, 2) := by decide +kernel
theorem dL_law_799 : decode cL_law 799 = .ok (.if_icmp .eq 5, 3) := by decide +kernel
theorem dL_law_802 : decode cL_law 802 = .ok (.iconst 0, 1) := by decide +kernel
theorem dL_law_803 : decode cL_law 803 = .ok (.ireturn, 1) := by decide +kernel
theorem dL_law_804 : decode cL_law 804 = .ok (.iload 5, 2) := by decide +kernel
theorem dL_law_806 : decode cL_law 806 = .ok (.ifCond .ne 15, 3) := by decide +kernel
theorem dL_law_809 : decode cL_law 809 = .ok (.aload_n 3, 1) := by decide +kernel
theorem dL_law_810 : decode cL_law 810 = .ok (.iconst 0, 1) := by decide +kernel
theorem dL_law_811 : decode cL_law 811 = .ok (.laload, 1) := by decide +kernel
theorem dL_law_812 : decode cL_law 812 = .ok (.iload 6, 2) := by decide +kernel
theorem dL_law_814 : decode cL_law 814 = .ok (.i2l, 1) := by decide +kernel
theorem dL_law_815 : decode cL_law 815 = .ok (.lcmp, 1) := by decide +kernel
theorem dL_law_816 : decode cL_law 816 = .ok (.ifCond .eq 5, 3) := by decide +kernel
theorem dL_law_819 : decode cL_law 819 = .ok (.iconst 0, 1) := by decide +kernel
theorem dL_law_820 : decode cL_law 820 = .ok (.ireturn, 1) := by decide +kernel
theorem dL_law_821 : decode cL_law 821 = .ok (.goto 1561, 3) := by decide +kernel
theorem dL_law_824 : decode cL_law 824 = .ok (.aload_n 1, 1) := by decide +kernel
theorem dL_law_825 : decode cL_law 825 = .ok (.aload_n 0, 1) := by decide +kernel
theorem dL_law_826 : decode cL_law 826 = .ok (.iload 4, 2) := by decide +kernel
theorem dL_law_828 : decode cL_law 828 = .ok (.iconst 1, 1) := by decide +kernel
theorem dL_law_829 : decode cL_law 829 = .ok (.iadd, 1) := by decide +kernel
theorem dL_law_830 : decode cL_law 830 = .ok (.iaload, 1) := by decide +kernel
theorem dL_law_831 : decode cL_law 831 = .ok (.aload_n 0, 1) := by decide +kernel
theorem dL_law_832 : decode cL_law 832 = .ok (.iload 4, 2) := by decide +kernel
theorem dL_law_834 : decode cL_law 834 = .ok (.iconst 2, 1) := by decide +kernel
theorem dL_law_835 : decode cL_law 835 = .ok (.iadd, 1) := by decide +kernel
theorem dL_law_836 : decode cL_law 836 = .ok (.iaload, 1) := by decide +kernel
theorem dL_law_837 : decode cL_law 837 = .ok (.aload_n 0, 1) := by decide +kernel
theorem dL_law_838 : decode cL_law 838 = .ok (.iload 4, 2) := by decide +kernel
theorem dL_law_840 : decode cL_law 840 = .ok (.iconst 3, 1) := by decide +kernel
theorem dL_law_841 : decode cL_law 841 = .ok (.iadd, 1) := by decide +kernel
theorem dL_law_842 : decode cL_law 842 = .ok (.iaload, 1) := by decide +kernel
theorem dL_law_843 : decode cL_law 843 = .ok (.aload_n 0, 1) := by decide +kernel
theorem dL_law_844 : decode cL_law 844 = .ok (.iload 4, 2) := by decide +kernel
theorem dL_law_846 : decode cL_law 846 = .ok (.iconst 4, 1) := by decide +kernel
theorem dL_law_847 : decode cL_law 847 = .ok (.iadd, 1) := by decide +kernel
theorem dL_law_848 : decode cL_law 848 = .ok (.iaload, 1) := by decide +kernel
theorem dL_law_849 : decode cL_law 849 = .ok (.aload_n 0, 1) := by decide +kernel
theorem dL_law_850 : decode cL_law 850 = .ok (.iload 4, 2) := by decide +kernel
theorem dL_law_852 : decode cL_law 852 = .ok (.iconst 5, 1) := by decide +kernel
theorem dL_law_853 : decode cL_law 853 = .ok (.iadd, 1) := by decide +kernel
theorem dL_law_854 : decode cL_law 854 = .ok (.iaload, 1) := by decide +kernel
theorem dL_law_855 : decode cL_law 855 = .ok (.aload_n 3, 1) := by decide +kernel
theorem dL_law_856 : decode cL_law 856 = .ok (.invokestatic 147, 3) := by decide +kernel
theorem dL_law_859 : decode cL_law 859 = .ok (.istore 5, 2) := by decide +kernel
theorem dL_law_861 : decode cL_law 861 = .ok (.aload_n 2, 1) := by decide +kernel
theorem dL_law_862 : decode cL_law 862 = .ok (.aload_n 0, 1) := by decide +kernel
theorem dL_law_863 : decode cL_law 863 = .ok (.iload 4, 2) := by decide +kernel
theorem dL_law_865 : decode cL_law 865 = .ok (.iconst 1, 1) := by decide +kernel
theorem dL_law_866 : decode cL_law 866 = .ok (.iadd, 1) := by decide +kernel
theorem dL_law_867 : decode cL_law 867 = .ok (.iaload, 1) := by decide +kernel
theorem dL_law_868 : decode cL_law 868 = .ok (.aload_n 0, 1) := by decide +kernel
theorem dL_law_869 : decode cL_law 869 = .ok (.iload 4, 2) := by decide +kernel
theorem dL_law_871 : decode cL_law 871 = .ok (.iconst 2, 1) := by decide +kernel
theorem dL_law_872 : decode cL_law 872 = .ok (.iadd, 1) := by decide +kernel
theorem dL_law_873 : decode cL_law 873 = .ok (.iaload, 1) := by decide +kernel
theorem dL_law_874 : decode cL_law 874 = .ok (.aload_n 0, 1) := by decide +kernel
theorem dL_law_875 : decode cL_law 875 = .ok (.iload 4, 2) := by decide +kernel
theorem dL_law_877 : decode cL_law 877 = .ok (.iconst 3, 1) := by decide +kernel
theorem dL_law_878 : decode cL_law 878 = .ok (.iadd, 1) := by decide +kernel
theorem dL_law_879 : decode cL_law 879 = .ok (.iaload, 1) := by decide +kernel
theorem dL_law_880 : decode cL_law 880 = .ok (.aload_n 0, 1) := by decide +kernel
theorem dL_law_881 : decode cL_law 881 = .ok (.iload 4, 2) := by decide +kernel
theorem dL_law_883 : decode cL_law 883 = .ok (.iconst 4, 1) := by decide +kernel
theorem dL_law_884 : decode cL_law 884 = .ok (.iadd, 1) := by decide +kernel
theorem dL_law_885 : decode cL_law 885 = .ok (.iaload, 1) := by decide +kernel
theorem dL_law_886 : decode cL_law 886 = .ok (.aload_n 0, 1) := by decide +kernel
theorem dL_law_887 : decode cL_law 887 = .ok (.iload 4, 2) := by decide +kernel
theorem dL_law_889 : decode cL_law 889 = .ok (.iconst 5, 1) := by decide +kernel
theorem dL_law_890 : decode cL_law 890 = .ok (.iadd, 1) := by decide +kernel
theorem dL_law_891 : decode cL_law 891 = .ok (.iaload, 1) := by decide +kernel
theorem dL_law_892 : decode cL_law 892 = .ok (.invokevirtual 149, 3) := by decide +kernel
theorem dL_law_895 : decode cL_law 895 = .ok (.istore 6, 2) := by decide +kernel
theorem dL_law_897 : decode cL_law 897 = .ok (.aload_n 2, 1) := by decide +kernel
theorem dL_law_898 : decode cL_law 898 = .ok (.invokevirtual 118, 3) := by decide +kernel
theorem dL_law_901 : decode cL_law 901 = .ok (.iload 5, 2) := by decide +kernel
theorem dL_law_903 : decode cL_law 903 = .ok (.if_icmp .eq 5, 3) := by decide +kernel
theorem dL_law_906 : decode cL_law 906 = .ok (.iconst 0, 1) := by decide +kernel
theorem dL_law_907 : decode cL_law 907 = .ok (.ireturn, 1) := by decide +kernel
theorem dL_law_908 : decode cL_law 908 = .ok (.iload 5, 2) := by decide +kernel
theorem dL_law_910 : decode cL_law 910 = .ok (.ifCond .ne 15, 3) := by decide +kernel
theorem dL_law_913 : decode cL_law 913 = .ok (.aload_n 3, 1) := by decide +kernel
theorem dL_law_914 : decode cL_law 914 = .ok (.iconst 0, 1) := by decide +kernel
theorem dL_law_915 : decode cL_law 915 = .ok (.laload, 1) := by decide +kernel
theorem dL_law_916 : decode cL_law 916 = .ok (.iload 6, 2) := by decide +kernel
theorem dL_law_918 : decode cL_law 918 = .ok (.i2l, 1) := by decide +kernel
theorem dL_law_919 : decode cL_law 919 = .ok (.lcmp, 1) := by decide +kernel
theorem dL_law_920 : decode cL_law 920 = .ok (.ifCond .eq 5, 3) := by decide +kernel
theorem dL_law_923 : decode cL_law 923 = .ok (.iconst 0, 1) := by decide +kernel
theorem dL_law_924 : decode cL_law 924 = .ok (.ireturn, 1) := by decide +kernel
theorem dL_law_925 : decode cL_law 925 = .ok (.goto 1457, 3) := by decide +kernel
theorem dL_law_928 : decode cL_law 928 = .ok (.aload_n 1, 1) := by decide +kernel
theorem dL_law_929 : decode cL_law 929 = .ok (.aload_n 0, 1) := by decide +kernel
theorem dL_law_930 : decode cL_law 930 = .ok (.iload 4, 2) := by decide +kernel
theorem dL_law_932 : decode cL_law 932 = .ok (.iconst 1, 1) := by decide +kernel
theorem dL_law_933 : decode cL_law 933 = .ok (.iadd, 1) := by decide +kernel
theorem dL_law_934 : decode cL_law 934 = .ok (.iaload, 1) := by decide +kernel
theorem dL_law_935 : decode cL_law 935 = .ok (.aload_n 0, 1) := by decide +kernel
theorem dL_law_936 : decode cL_law 936 = .ok (.iload 4, 2) := by decide +kernel
theorem dL_law_938 : decode cL_law 938 = .ok (.iconst 2, 1) := by decide +kernel
theorem dL_law_939 : decode cL_law 939 = .ok (.iadd, 1) := by decide +kernel
theorem dL_law_940 : decode cL_law 940 = .ok (.iaload, 1) := by decide +kernel
theorem dL_law_941 : decode cL_law 941 = .ok (.aload_n 3, 1) := by decide +kernel
theorem dL_law_942 : decode cL_law 942 = .ok (.invokestatic 150, 3) := by decide +kernel
theorem dL_law_945 : decode cL_law 945 = .ok (.istore 5, 2) := by decide +kernel
theorem dL_law_947 : decode cL_law 947 = .ok (.aload_n 2, 1) := by decide +kernel
theorem dL_law_948 : decode cL_law 948 = .ok (.aload_n 0, 1) := by decide +kernel
theorem dL_law_949 : decode cL_law 949 = .ok (.iload 4, 2) := by decide +kernel
theorem dL_law_951 : decode cL_law 951 = .ok (.iconst 1, 1) := by decide +kernel
theorem dL_law_952 : decode cL_law 952 = .ok (.iadd, 1) := by decide +kernel
theorem dL_law_953 : decode cL_law 953 = .ok (.iaload, 1) := by decide +kernel
theorem dL_law_954 : decode cL_law 954 = .ok (.aload_n 0, 1) := by decide +kernel
theorem dL_law_955 : decode cL_law 955 = .ok (.iload 4, 2) := by decide +kernel
theorem dL_law_957 : decode cL_law 957 = .ok (.iconst 2, 1) := by decide +kernel
theorem dL_law_958 : decode cL_law 958 = .ok (.iadd, 1) := by decide +kernel
theorem dL_law_959 : decode cL_law 959 = .ok (.iaload, 1) := by decide +kernel
theorem dL_law_960 : decode cL_law 960 = .ok (.invokevirtual 152, 3) := by decide +kernel
theorem dL_law_963 : decode cL_law 963 = .ok (.istore 6, 2) := by decide +kernel
theorem dL_law_965 : decode cL_law 965 = .ok (.aload_n 2, 1) := by decide +kernel
theorem dL_law_966 : decode cL_law 966 = .ok (.invokevirtual 118, 3) := by decide +kernel
theorem dL_law_969 : decode cL_law 969 = .ok (.iload 5, 2) := by decide +kernel
theorem dL_law_971 : decode cL_law 971 = .ok (.if_icmp .eq 5, 3) := by decide +kernel
theorem dL_law_974 : decode cL_law 974 = .ok (.iconst 0, 1) := by decide +kernel
theorem dL_law_975 : decode cL_law 975 = .ok (.ireturn, 1) := by decide +kernel
theorem dL_law_976 : decode cL_law 976 = .ok (.iload 5, 2) := by decide +kernel
theorem dL_law_978 : decode cL_law 978 = .ok (.ifCond .ne 15, 3) := by decide +kernel
theorem dL_law_981 : decode cL_law 981 = .ok (.aload_n 3, 1) := by decide +kernel
theorem dL_law_982 : decode cL_law 982 = .ok (.iconst 0, 1) := by decide +kernel
theorem dL_law_983 : decode cL_law 983 = .ok (.laload, 1) := by decide +kernel
theorem dL_law_984 : decode cL_law 984 = .ok (.iload 6, 2) := by decide +kernel
theorem dL_law_986 : decode cL_law 986 = .ok (.i2l, 1) := by decide +kernel
theorem dL_law_987 : decode cL_law 987 = .ok (.lcmp, 1) := by decide +kernel
theorem dL_law_988 : decode cL_law 988 = .ok (.ifCond .eq 5, 3) := by decide +kernel
theorem dL_law_991 : decode cL_law 991 = .ok (.iconst 0, 1) := by decide +kernel
theorem dL_law_992 : decode cL_law 992 = .ok (.ireturn, 1) := by decide +kernel
theorem dL_law_993 : decode cL_law 993 = .ok (.goto 1389, 3) := by decide +kernel
theorem dL_law_996 : decode cL_law 996 = .ok (.aload_n 1, 1) := by decide +kernel
theorem dL_law_997 : decode cL_law 997 = .ok (.aload_n 0, 1) := by decide +kernel
theorem dL_law_998 : decode cL_law 998 = .ok (.iload 4, 2) := by decide +kernel
theorem dL_law_1000 : decode cL_law 1000 = .ok (.iconst 1, 1) := by decide +kernel
theorem dL_law_1001 : decode cL_law 1001 = .ok (.iadd, 1) := by decide +kernel
theorem dL_law_1002 : decode cL_law 1002 = .ok (.iaload, 1) := by decide +kernel
theorem dL_law_1003 : decode cL_law 1003 = .ok (.aload_n 0, 1) := by decide +kernel
theorem dL_law_1004 : decode cL_law 1004 = .ok (.iload 4, 2) := by decide +kernel
theorem dL_law_1006 : decode cL_law 1006 = .ok (.iconst 2, 1) := by decide +kernel
theorem dL_law_1007 : decode cL_law 1007 = .ok (.iadd, 1) := by decide +kernel
theorem dL_law_1008 : decode cL_law 1008 = .ok (.iaload, 1) := by decide +kernel
theorem dL_law_1009 : decode cL_law 1009 = .ok (.aload_n 0, 1) := by decide +kernel
theorem dL_law_1010 : decode cL_law 1010 = .ok (.iload 4, 2) := by decide +kernel
theorem dL_law_1012 : decode cL_law 1012 = .ok (.iconst 3, 1) := by decide +kernel
theorem dL_law_1013 : decode cL_law 1013 = .ok (.iadd, 1) := by decide +kernel
theorem dL_law_1014 : decode cL_law 1014 = .ok (.iaload, 1) := by decide +kernel
theorem dL_law_1015 : decode cL_law 1015 = .ok (.aload_n 0, 1) := by decide +kernel
theorem dL_law_1016 : decode cL_law 1016 = .ok (.iload 4, 2) := by decide +kernel
theorem dL_law_1018 : decode cL_law 1018 = .ok (.iconst 4, 1) := by decide +kernel
theorem dL_law_1019 : decode cL_law 1019 = .ok (.iadd, 1) := by decide +kernel
theorem dL_law_1020 : decode cL_law 1020 = .ok (.iaload, 1) := by decide +kernel
theorem dL_law_1021 : decode cL_law 1021 = .ok (.aload_n 3, 1) := by decide +kernel
theorem dL_law_1022 : decode cL_law 1022 = .ok (.invokestatic 153, 3) := by decide +kernel
theorem dL_law_1025 : decode cL_law 1025 = .ok (.istore 5, 2) := by decide +kernel
theorem dL_law_1027 : decode cL_law 1027 = .ok (.aload_n 2, 1) := by decide +kernel
theorem dL_law_1028 : decode cL_law 1028 = .ok (.aload_n 0, 1) := by decide +kernel
theorem dL_law_1029 : decode cL_law 1029 = .ok (.iload 4, 2) := by decide +kernel
theorem dL_law_1031 : decode cL_law 1031 = .ok (.iconst 1, 1) := by decide +kernel
theorem dL_law_1032 : decode cL_law 1032 = .ok (.iadd, 1) := by decide +kernel
theorem dL_law_1033 : decode cL_law 1033 = .ok (.iaload, 1) := by decide +kernel
theorem dL_law_1034 : decode cL_law 1034 = .ok (.aload_n 0, 1) := by decide +kernel
theorem dL_law_1035 : decode cL_law 1035 = .ok (.iload 4, 2) := by decide +kernel
theorem dL_law_1037 : decode cL_law 1037 = .ok (.iconst 2, 1) := by decide +kernel
theorem dL_law_1038 : decode cL_law 1038 = .ok (.iadd, 1) := by decide +kernel
theorem dL_law_1039 : decode cL_law 1039 = .ok (.iaload, 1) := by decide +kernel
theorem dL_law_1040 : decode cL_law 1040 = .ok (.aload_n 0, 1) := by decide +kernel
theorem dL_law_1041 : decode cL_law 1041 = .ok (.iload 4, 2) := by decide +kernel
theorem dL_law_1043 : decode cL_law 1043 = .ok (.iconst 3, 1) := by decide +kernel
theorem dL_law_1044 : decode cL_law 1044 = .ok (.iadd, 1) := by decide +kernel
theorem dL_law_1045 : decode cL_law 1045 = .ok (.iaload, 1) := by decide +kernel
theorem dL_law_1046 : decode cL_law 1046 = .ok (.aload_n 0, 1) := by decide +kernel
theorem dL_law_1047 : decode cL_law 1047 = .ok (.iload 4, 2) := by decide +kernel
theorem dL_law_1049 : decode cL_law 1049 = .ok (.iconst 4, 1) := by decide +kernel
theorem dL_law_1050 : decode cL_law 1050 = .ok (.iadd, 1) := by decide +kernel
theorem dL_law_1051 : decode cL_law 1051 = .ok (.iaload, 1) := by decide +kernel
theorem dL_law_1052 : decode cL_law 1052 = .ok (.invokevirtual 155, 3) := by decide +kernel
theorem dL_law_1055 : decode cL_law 1055 = .ok (.istore 6, 2) := by decide +kernel
theorem dL_law_1057 : decode cL_law 1057 = .ok (.aload_n 2, 1) := by decide +kernel
theorem dL_law_1058 : decode cL_law 1058 = .ok (.invokevirtual 118, 3) := by decide +kernel
theorem dL_law_1061 : decode cL_law 1061 = .ok (.iload 5, 2) := by decide +kernel
theorem dL_law_1063 : decode cL_law 1063 = .ok (.if_icmp .eq 5, 3) := by decide +kernel
theorem dL_law_1066 : decode cL_law 1066 = .ok (.iconst 0, 1) := by decide +kernel
theorem dL_law_1067 : decode cL_law 1067 = .ok (.ireturn, 1) := by decide +kernel
theorem dL_law_1068 : decode cL_law 1068 = .ok (.iload 5, 2) := by decide +kernel
theorem dL_law_1070 : decode cL_law 1070 = .ok (.ifCond .ne 15, 3) := by decide +kernel
theorem dL_law_1073 : decode cL_law 1073 = .ok (.aload_n 3, 1) := by decide +kernel
theorem dL_law_1074 : decode cL_law 1074 = .ok (.iconst 0, 1) := by decide +kernel
theorem dL_law_1075 : decode cL_law 1075 = .ok (.laload, 1) := by decide +kernel
theorem dL_law_1076 : decode cL_law 1076 = .ok (.iload 6, 2) := by decide +kernel
theorem dL_law_1078 : decode cL_law 1078 = .ok (.i2l, 1) := by decide +kernel
theorem dL_law_1079 : decode cL_law 1079 = .ok (.lcmp, 1) := by decide +kernel
theorem dL_law_1080 : decode cL_law 1080 = .ok (.ifCond .eq 5, 3) := by decide +kernel
theorem dL_law_1083 : decode cL_law 1083 = .ok (.iconst 0, 1) := by decide +kernel
theorem dL_law_1084 : decode cL_law 1084 = .ok (.ireturn, 1) := by decide +kernel
theorem dL_law_1085 : decode cL_law 1085 = .ok (.goto 1297, 3) := by decide +kernel
theorem dL_law_1088 : decode cL_law 1088 = .ok (.aload_n 1, 1) := by decide +kernel
theorem dL_law_1089 : decode cL_law 1089 = .ok (.aload_n 0, 1) := by decide +kernel
theorem dL_law_1090 : decode cL_law 1090 = .ok (.iload 4, 2) := by decide +kernel
theorem dL_law_1092 : decode cL_law 1092 = .ok (.iconst 1, 1) := by decide +kernel
theorem dL_law_1093 : decode cL_law 1093 = .ok (.iadd, 1) := by decide +kernel
theorem dL_law_1094 : decode cL_law 1094 = .ok (.iaload, 1) := by decide +kernel
theorem dL_law_1095 : decode cL_law 1095 = .ok (.aload_n 0, 1) := by decide +kernel
theorem dL_law_1096 : decode cL_law 1096 = .ok (.iload 4, 2) := by decide +kernel
theorem dL_law_1098 : decode cL_law 1098 = .ok (.iconst 2, 1) := by decide +kernel
theorem dL_law_1099 : decode cL_law 1099 = .ok (.iadd, 1) := by decide +kernel
theorem dL_law_1100 : decode cL_law 1100 = .ok (.iaload, 1) := by decide +kernel
theorem dL_law_1101 : decode cL_law 1101 = .ok (.aload_n 0, 1) := by decide +kernel
theorem dL_law_1102 : decode cL_law 1102 = .ok (.iload 4, 2) := by decide +kernel
theorem dL_law_1104 : decode cL_law 1104 = .ok (.iconst 3, 1) := by decide +kernel
theorem dL_law_1105 : decode cL_law 1105 = .ok (.iadd, 1) := by decide +kernel
theorem dL_law_1106 : decode cL_law 1106 = .ok (.iaload, 1) := by decide +kernel
theorem dL_law_1107 : decode cL_law 1107 = .ok (.aload_n 3, 1) := by decide +kernel
theorem dL_law_1108 : decode cL_law 1108 = .ok (.invokestatic 156, 3) := by decide +kernel
theorem dL_law_1111 : decode cL_law 1111 = .ok (.istore 5, 2) := by decide +kernel
theorem dL_law_1113 : decode cL_law 1113 = .ok (.aload_n 2, 1) := by decide +kernel
theorem dL_law_1114 : decode cL_law 1114 = .ok (.aload_n 0, 1) := by decide +kernel
theorem dL_law_1115 : decode cL_law 1115 = .ok (.iload 4, 2) := by decide +kernel
theorem dL_law_1117 : decode cL_law 1117 = .ok (.iconst 1, 1) := by decide +kernel
theorem dL_law_1118 : decode cL_law 1118 = .ok (.iadd, 1) := by decide +kernel
theorem dL_law_1119 : decode cL_law 1119 = .ok (.iaload, 1) := by decide +kernel
theorem dL_law_1120 : decode cL_law 1120 = .ok (.aload_n 0, 1) := by decide +kernel
theorem dL_law_1121 : decode cL_law 1121 = .ok (.iload 4, 2) := by decide +kernel
theorem dL_law_1123 : decode cL_law 1123 = .ok (.iconst 2, 1) := by decide +kernel
theorem dL_law_1124 : decode cL_law 1124 = .ok (.iadd, 1) := by decide +kernel
theorem dL_law_1125 : decode cL_law 1125 = .ok (.iaload, 1) := by decide +kernel
theorem dL_law_1126 : decode cL_law 1126 = .ok (.aload_n 0, 1) := by decide +kernel
theorem dL_law_1127 : decode cL_law 1127 = .ok (.iload 4, 2) := by decide +kernel
theorem dL_law_1129 : decode cL_law 1129 = .ok (.iconst 3, 1) := by decide +kernel
theorem dL_law_1130 : decode cL_law 1130 = .ok (.iadd, 1) := by decide +kernel
theorem dL_law_1131 : decode cL_law 1131 = .ok (.iaload, 1) := by decide +kernel
theorem dL_law_1132 : decode cL_law 1132 = .ok (.invokevirtual 158, 3) := by decide +kernel
theorem dL_law_1135 : decode cL_law 1135 = .ok (.istore 6, 2) := by decide +kernel
theorem dL_law_1137 : decode cL_law 1137 = .ok (.aload_n 2, 1) := by decide +kernel
theorem dL_law_1138 : decode cL_law 1138 = .ok (.invokevirtual 118, 3) := by decide +kernel
theorem dL_law_1141 : decode cL_law 1141 = .ok (.iload 5, 2) := by decide +kernel
theorem dL_law_1143 : decode cL_law 1143 = .ok (.if_icmp .eq 5, 3) := by decide +kernel
theorem dL_law_1146 : decode cL_law 1146 = .ok (.iconst 0, 1) := by decide +kernel
theorem dL_law_1147 : decode cL_law 1147 = .ok (.ireturn, 1) := by decide +kernel
theorem dL_law_1148 : decode cL_law 1148 = .ok (.iload 5, 2) := by decide +kernel
theorem dL_law_1150 : decode cL_law 1150 = .ok (.ifCond .ne 15, 3) := by decide +kernel
theorem dL_law_1153 : decode cL_law 1153 = .ok (.aload_n 3, 1) := by decide +kernel
theorem dL_law_1154 : decode cL_law 1154 = .ok (.iconst 0, 1) := by decide +kernel
theorem dL_law_1155 : decode cL_law 1155 = .ok (.laload, 1) := by decide +kernel
theorem dL_law_1156 : decode cL_law 1156 = .ok (.iload 6, 2) := by decide +kernel
theorem dL_law_1158 : decode cL_law 1158 = .ok (.i2l, 1) := by decide +kernel
theorem dL_law_1159 : decode cL_law 1159 = .ok (.lcmp, 1) := by decide +kernel
theorem dL_law_1160 : decode cL_law 1160 = .ok (.ifCond .eq 5, 3) := by decide +kernel
theorem dL_law_1163 : decode cL_law 1163 = .ok (.iconst 0, 1) := by decide +kernel
theorem dL_law_1164 : decode cL_law 1164 = .ok (.ireturn, 1) := by decide +kernel
theorem dL_law_1165 : decode cL_law 1165 = .ok (.goto 1217, 3) := by decide +kernel
theorem dL_law_1168 : decode cL_law 1168 = .ok (.aload_n 1, 1) := by decide +kernel
theorem dL_law_1169 : decode cL_law 1169 = .ok (.aload_n 0, 1) := by decide +kernel
theorem dL_law_1170 : decode cL_law 1170 = .ok (.iload 4, 2) := by decide +kernel
theorem dL_law_1172 : decode cL_law 1172 = .ok (.iconst 1, 1) := by decide +kernel
theorem dL_law_1173 : decode cL_law 1173 = .ok (.iadd, 1) := by decide +kernel
theorem dL_law_1174 : decode cL_law 1174 = .ok (.iaload, 1) := by decide +kernel
theorem dL_law_1175 : decode cL_law 1175 = .ok (.aload_n 3, 1) := by decide +kernel
theorem dL_law_1176 : decode cL_law 1176 = .ok (.invokestatic 159, 3) := by decide +kernel
theorem dL_law_1179 : decode cL_law 1179 = .ok (.istore 5, 2) := by decide +kernel
theorem dL_law_1181 : decode cL_law 1181 = .ok (.aload_n 2, 1) := by decide +kernel
theorem dL_law_1182 : decode cL_law 1182 = .ok (.aload_n 0, 1) := by decide +kernel
theorem dL_law_1183 : decode cL_law 1183 = .ok (.iload 4, 2) := by decide +kernel
theorem dL_law_1185 : decode cL_law 1185 = .ok (.iconst 1, 1) := by decide +kernel
theorem dL_law_1186 : decode cL_law 1186 = .ok (.iadd, 1) := by decide +kernel
theorem dL_law_1187 : decode cL_law 1187 = .ok (.iaload, 1) := by decide +kernel
theorem dL_law_1188 : decode cL_law 1188 = .ok (.invokevirtual 162, 3) := by decide +kernel
theorem dL_law_1191 : decode cL_law 1191 = .ok (.istore 6, 2) := by decide +kernel
theorem dL_law_1193 : decode cL_law 1193 = .ok (.aload_n 2, 1) := by decide +kernel
theorem dL_law_1194 : decode cL_law 1194 = .ok (.invokevirtual 118, 3) := by decide +kernel
theorem dL_law_1197 : decode cL_law 1197 = .ok (.iload 5, 2) := by decide +kernel
theorem dL_law_1199 : decode cL_law 1199 = .ok (.if_icmp .eq 5, 3) := by decide +kernel
theorem dL_law_1202 : decode cL_law 1202 = .ok (.iconst 0, 1) := by decide +kernel
theorem dL_law_1203 : decode cL_law 1203 = .ok (.ireturn, 1) := by decide +kernel
theorem dL_law_1204 : decode cL_law 1204 = .ok (.iload 5, 2) := by decide +kernel
theorem dL_law_1206 : decode cL_law 1206 = .ok (.ifCond .ne 15, 3) := by decide +kernel
theorem dL_law_1209 : decode cL_law 1209 = .ok (.aload_n 3, 1) := by decide +kernel
theorem dL_law_1210 : decode cL_law 1210 = .ok (.iconst 0, 1) := by decide +kernel
theorem dL_law_1211 : decode cL_law 1211 = .ok (.laload, 1) := by decide +kernel
theorem dL_law_1212 : decode cL_law 1212 = .ok (.iload 6, 2) := by decide +kernel
theorem dL_law_1214 : decode cL_law 1214 = .ok (.i2l, 1) := by decide +kernel
theorem dL_law_1215 : decode cL_law 1215 = .ok (.lcmp, 1) := by decide +kernel
theorem dL_law_1216 : decode cL_law 1216 = .ok (.ifCond .eq 5, 3) := by decide +kernel
theorem dL_law_1219 : decode cL_law 1219 = .ok (.iconst 0, 1) := by decide +kernel
theorem dL_law_1220 : decode cL_law 1220 = .ok (.ireturn, 1) := by decide +kernel
theorem dL_law_1221 : decode cL_law 1221 = .ok (.goto 1161, 3) := by decide +kernel
theorem dL_law_1224 : decode cL_law 1224 = .ok (.aload_n 1, 1) := by decide +kernel
theorem dL_law_1225 : decode cL_law 1225 = .ok (.aload_n 0, 1) := by decide +kernel
theorem dL_law_1226 : decode cL_law 1226 = .ok (.iload 4, 2) := by decide +kernel
theorem dL_law_1228 : decode cL_law 1228 = .ok (.iconst 1, 1) := by decide +kernel
theorem dL_law_1229 : decode cL_law 1229 = .ok (.iadd, 1) := by decide +kernel
theorem dL_law_1230 : decode cL_law 1230 = .ok (.iaload, 1) := by decide +kernel
theorem dL_law_1231 : decode cL_law 1231 = .ok (.aload_n 0, 1) := by decide +kernel
theorem dL_law_1232 : decode cL_law 1232 = .ok (.iload 4, 2) := by decide +kernel
theorem dL_law_1234 : decode cL_law 1234 = .ok (.iconst 2, 1) := by decide +kernel
theorem dL_law_1235 : decode cL_law 1235 = .ok (.iadd, 1) := by decide +kernel
theorem dL_law_1236 : decode cL_law 1236 = .ok (.iaload, 1) := by decide +kernel
theorem dL_law_1237 : decode cL_law 1237 = .ok (.aload_n 0, 1) := by decide +kernel
theorem dL_law_1238 : decode cL_law 1238 = .ok (.iload 4, 2) := by decide +kernel
theorem dL_law_1240 : decode cL_law 1240 = .ok (.iconst 3, 1) := by decide +kernel
theorem dL_law_1241 : decode cL_law 1241 = .ok (.iadd, 1) := by decide +kernel
theorem dL_law_1242 : decode cL_law 1242 = .ok (.iaload, 1) := by decide +kernel
theorem dL_law_1243 : decode cL_law 1243 = .ok (.aload_n 3, 1) := by decide +kernel
theorem dL_law_1244 : decode cL_law 1244 = .ok (.invokestatic 163, 3) := by decide +kernel
theorem dL_law_1247 : decode cL_law 1247 = .ok (.istore 5, 2) := by decide +kernel
theorem dL_law_1249 : decode cL_law 1249 = .ok (.aload_n 2, 1) := by decide +kernel
theorem dL_law_1250 : decode cL_law 1250 = .ok (.aload_n 0, 1) := by decide +kernel
theorem dL_law_1251 : decode cL_law 1251 = .ok (.iload 4, 2) := by decide +kernel
theorem dL_law_1253 : decode cL_law 1253 = .ok (.iconst 1, 1) := by decide +kernel
theorem dL_law_1254 : decode cL_law 1254 = .ok (.iadd, 1) := by decide +kernel
theorem dL_law_1255 : decode cL_law 1255 = .ok (.iaload, 1) := by decide +kernel
theorem dL_law_1256 : decode cL_law 1256 = .ok (.aload_n 0, 1) := by decide +kernel
theorem dL_law_1257 : decode cL_law 1257 = .ok (.iload 4, 2) := by decide +kernel
theorem dL_law_1259 : decode cL_law 1259 = .ok (.iconst 2, 1) := by decide +kernel
theorem dL_law_1260 : decode cL_law 1260 = .ok (.iadd, 1) := by decide +kernel
theorem dL_law_1261 : decode cL_law 1261 = .ok (.iaload, 1) := by decide +kernel
theorem dL_law_1262 : decode cL_law 1262 = .ok (.aload_n 0, 1) := by decide +kernel
theorem dL_law_1263 : decode cL_law 1263 = .ok (.iload 4, 2) := by decide +kernel
theorem dL_law_1265 : decode cL_law 1265 = .ok (.iconst 3, 1) := by decide +kernel
theorem dL_law_1266 : decode cL_law 1266 = .ok (.iadd, 1) := by decide +kernel
theorem dL_law_1267 : decode cL_law 1267 = .ok (.iaload, 1) := by decide +kernel
theorem dL_law_1268 : decode cL_law 1268 = .ok (.invokevirtual 165, 3) := by decide +kernel
theorem dL_law_1271 : decode cL_law 1271 = .ok (.istore 6, 2) := by decide +kernel
theorem dL_law_1273 : decode cL_law 1273 = .ok (.aload_n 2, 1) := by decide +kernel
theorem dL_law_1274 : decode cL_law 1274 = .ok (.invokevirtual 118, 3) := by decide +kernel
theorem dL_law_1277 : decode cL_law 1277 = .ok (.iload 5, 2) := by decide +kernel
theorem dL_law_1279 : decode cL_law 1279 = .ok (.if_icmp .eq 5, 3) := by decide +kernel
theorem dL_law_1282 : decode cL_law 1282 = .ok (.iconst 0, 1) := by decide +kernel
theorem dL_law_1283 : decode cL_law 1283 = .ok (.ireturn, 1) := by decide +kernel
theorem dL_law_1284 : decode cL_law 1284 = .ok (.iload 5, 2) := by decide +kernel
theorem dL_law_1286 : decode cL_law 1286 = .ok (.ifCond .ne 15, 3) := by decide +kernel
theorem dL_law_1289 : decode cL_law 1289 = .ok (.aload_n 3, 1) := by decide +kernel
theorem dL_law_1290 : decode cL_law 1290 = .ok (.iconst 0, 1) := by decide +kernel
theorem dL_law_1291 : decode cL_law 1291 = .ok (.laload, 1) := by decide +kernel
theorem dL_law_1292 : decode cL_law 1292 = .ok (.iload 6, 2) := by decide +kernel
theorem dL_law_1294 : decode cL_law 1294 = .ok (.i2l, 1) := by decide +kernel
theorem dL_law_1295 : decode cL_law 1295 = .ok (.lcmp, 1) := by decide +kernel
theorem dL_law_1296 : decode cL_law 1296 = .ok (.ifCond .eq 5, 3) := by decide +kernel
theorem dL_law_1299 : decode cL_law 1299 = .ok (.iconst 0, 1) := by decide +kernel
theorem dL_law_1300 : decode cL_law 1300 = .ok (.ireturn, 1) := by decide +kernel
theorem dL_law_1301 : decode cL_law 1301 = .ok (.goto 1081, 3) := by decide +kernel
theorem dL_law_1304 : decode cL_law 1304 = .ok (.aload_n 1, 1) := by decide +kernel
theorem dL_law_1305 : decode cL_law 1305 = .ok (.aload_n 0, 1) := by decide +kernel
theorem dL_law_1306 : decode cL_law 1306 = .ok (.iload 4, 2) := by decide +kernel
theorem dL_law_1308 : decode cL_law 1308 = .ok (.iconst 1, 1) := by decide +kernel
theorem dL_law_1309 : decode cL_law 1309 = .ok (.iadd, 1) := by decide +kernel
theorem dL_law_1310 : decode cL_law 1310 = .ok (.iaload, 1) := by decide +kernel
theorem dL_law_1311 : decode cL_law 1311 = .ok (.aload_n 0, 1) := by decide +kernel
theorem dL_law_1312 : decode cL_law 1312 = .ok (.iload 4, 2) := by decide +kernel
theorem dL_law_1314 : decode cL_law 1314 = .ok (.iconst 2, 1) := by decide +kernel
theorem dL_law_1315 : decode cL_law 1315 = .ok (.iadd, 1) := by decide +kernel
theorem dL_law_1316 : decode cL_law 1316 = .ok (.iaload, 1) := by decide +kernel
theorem dL_law_1317 : decode cL_law 1317 = .ok (.aload_n 0, 1) := by decide +kernel
theorem dL_law_1318 : decode cL_law 1318 = .ok (.iload 4, 2) := by decide +kernel
theorem dL_law_1320 : decode cL_law 1320 = .ok (.iconst 3, 1) := by decide +kernel
theorem dL_law_1321 : decode cL_law 1321 = .ok (.iadd, 1) := by decide +kernel
theorem dL_law_1322 : decode cL_law 1322 = .ok (.iaload, 1) := by decide +kernel
theorem dL_law_1323 : decode cL_law 1323 = .ok (.aload_n 3, 1) := by decide +kernel
theorem dL_law_1324 : decode cL_law 1324 = .ok (.invokestatic 166, 3) := by decide +kernel
theorem dL_law_1327 : decode cL_law 1327 = .ok (.istore 5, 2) := by decide +kernel
theorem dL_law_1329 : decode cL_law 1329 = .ok (.aload_n 2, 1) := by decide +kernel
theorem dL_law_1330 : decode cL_law 1330 = .ok (.aload_n 0, 1) := by decide +kernel
theorem dL_law_1331 : decode cL_law 1331 = .ok (.iload 4, 2) := by decide +kernel
theorem dL_law_1333 : decode cL_law 1333 = .ok (.iconst 1, 1) := by decide +kernel
theorem dL_law_1334 : decode cL_law 1334 = .ok (.iadd, 1) := by decide +kernel
theorem dL_law_1335 : decode cL_law 1335 = .ok (.iaload, 1) := by decide +kernel
theorem dL_law_1336 : decode cL_law 1336 = .ok (.aload_n 0, 1) := by decide +kernel
theorem dL_law_1337 : decode cL_law 1337 = .ok (.iload 4, 2) := by decide +kernel
theorem dL_law_1339 : decode cL_law 1339 = .ok (.iconst 2, 1) := by decide +kernel
theorem dL_law_1340 : decode cL_law 1340 = .ok (.iadd, 1) := by decide +kernel
theorem dL_law_1341 : decode cL_law 1341 = .ok (.iaload, 1) := by decide +kernel
theorem dL_law_1342 : decode cL_law 1342 = .ok (.aload_n 0, 1) := by decide +kernel
theorem dL_law_1343 : decode cL_law 1343 = .ok (.iload 4, 2) := by decide +kernel
theorem dL_law_1345 : decode cL_law 1345 = .ok (.iconst 3, 1) := by decide +kernel
theorem dL_law_1346 : decode cL_law 1346 = .ok (.iadd, 1) := by decide +kernel
theorem dL_law_1347 : decode cL_law 1347 = .ok (.iaload, 1) := by decide +kernel
theorem dL_law_1348 : decode cL_law 1348 = .ok (.invokevirtual 168, 3) := by decide +kernel
theorem dL_law_1351 : decode cL_law 1351 = .ok (.istore 6, 2) := by decide +kernel
theorem dL_law_1353 : decode cL_law 1353 = .ok (.aload_n 2, 1) := by decide +kernel
theorem dL_law_1354 : decode cL_law 1354 = .ok (.invokevirtual 118, 3) := by decide +kernel
theorem dL_law_1357 : decode cL_law 1357 = .ok (.iload 5, 2) := by decide +kernel
theorem dL_law_1359 : decode cL_law 1359 = .ok (.if_icmp .eq 5, 3) := by decide +kernel
theorem dL_law_1362 : decode cL_law 1362 = .ok (.iconst 0, 1) := by decide +kernel
theorem dL_law_1363 : decode cL_law 1363 = .ok (.ireturn, 1) := by decide +kernel
theorem dL_law_1364 : decode cL_law 1364 = .ok (.iload 5, 2) := by decide +kernel
theorem dL_law_1366 : decode cL_law 1366 = .ok (.ifCond .ne 22, 3) := by decide +kernel
theorem dL_law_1369 : decode cL_law 1369 = .ok (.aload_n 3, 1) := by decide +kernel
theorem dL_law_1370 : decode cL_law 1370 = .ok (.iconst 0, 1) := by decide +kernel
theorem dL_law_1371 : decode cL_law 1371 = .ok (.laload, 1) := by decide +kernel
theorem dL_law_1372 : decode cL_law 1372 = .ok (.iload 6, 2) := by decide +kernel
theorem dL_law_1374 : decode cL_law 1374 = .ok (.ifCond .eq 7, 3) := by decide +kernel
theorem dL_law_1377 : decode cL_law 1377 = .ok (.lconst 1, 1) := by decide +kernel
theorem dL_law_1378 : decode cL_law 1378 = .ok (.goto 4, 3) := by decide +kernel
theorem dL_law_1381 : decode cL_law 1381 = .ok (.lconst 0, 1) := by decide +kernel
theorem dL_law_1382 : decode cL_law 1382 = .ok (.lcmp, 1) := by decide +kernel
theorem dL_law_1383 : decode cL_law 1383 = .ok (.ifCond .eq 5, 3) := by decide +kernel
theorem dL_law_1386 : decode cL_law 1386 = .ok (.iconst 0, 1) := by decide +kernel
theorem dL_law_1387 : decode cL_law 1387 = .ok (.ireturn, 1) := by decide +kernel
theorem dL_law_1388 : decode cL_law 1388 = .ok (.goto 994, 3) := by decide +kernel
theorem dL_law_1391 : decode cL_law 1391 = .ok (.aload_n 1, 1) := by decide +kernel
theorem dL_law_1392 : decode cL_law 1392 = .ok (.aload_n 0, 1) := by decide +kernel
theorem dL_law_1393 : decode cL_law 1393 = .ok (.iload 4, 2) := by decide +kernel
theorem dL_law_1395 : decode cL_law 1395 = .ok (.iconst 1, 1) := by decide +kernel
theorem dL_law_1396 : decode cL_law 1396 = .ok (.iadd, 1) := by decide +kernel
theorem dL_law_1397 : decode cL_law 1397 = .ok (.iaload, 1) := by decide +kernel
theorem dL_law_1398 : decode cL_law 1398 = .ok (.aload_n 0, 1) := by decide +kernel
theorem dL_law_1399 : decode cL_law 1399 = .ok (.iload 4, 2) := by decide +kernel
theorem dL_law_1401 : decode cL_law 1401 = .ok (.iconst 2, 1) := by decide +kernel
theorem dL_law_1402 : decode cL_law 1402 = .ok (.iadd, 1) := by decide +kernel
theorem dL_law_1403 : decode cL_law 1403 = .ok (.iaload, 1) := by decide +kernel
theorem dL_law_1404 : decode cL_law 1404 = .ok (.aload_n 0, 1) := by decide +kernel
theorem dL_law_1405 : decode cL_law 1405 = .ok (.iload 4, 2) := by decide +kernel
theorem dL_law_1407 : decode cL_law 1407 = .ok (.iconst 3, 1) := by decide +kernel
theorem dL_law_1408 : decode cL_law 1408 = .ok (.iadd, 1) := by decide +kernel
theorem dL_law_1409 : decode cL_law 1409 = .ok (.iaload, 1) := by decide +kernel
theorem dL_law_1410 : decode cL_law 1410 = .ok (.aload_n 3, 1) := by decide +kernel
theorem dL_law_1411 : decode cL_law 1411 = .ok (.invokestatic 169, 3) := by decide +kernel
theorem dL_law_1414 : decode cL_law 1414 = .ok (.istore 5, 2) := by decide +kernel
theorem dL_law_1416 : decode cL_law 1416 = .ok (.aload_n 2, 1) := by decide +kernel
theorem dL_law_1417 : decode cL_law 1417 = .ok (.aload_n 0, 1) := by decide +kernel
theorem dL_law_1418 : decode cL_law 1418 = .ok (.iload 4, 2) := by decide +kernel
theorem dL_law_1420 : decode cL_law 1420 = .ok (.iconst 1, 1) := by decide +kernel
theorem dL_law_1421 : decode cL_law 1421 = .ok (.iadd, 1) := by decide +kernel
theorem dL_law_1422 : decode cL_law 1422 = .ok (.iaload, 1) := by decide +kernel
theorem dL_law_1423 : decode cL_law 1423 = .ok (.aload_n 0, 1) := by decide +kernel
theorem dL_law_1424 : decode cL_law 1424 = .ok (.iload 4, 2) := by decide +kernel
theorem dL_law_1426 : decode cL_law 1426 = .ok (.iconst 2, 1) := by decide +kernel
theorem dL_law_1427 : decode cL_law 1427 = .ok (.iadd, 1) := by decide +kernel
theorem dL_law_1428 : decode cL_law 1428 = .ok (.iaload, 1) := by decide +kernel
theorem dL_law_1429 : decode cL_law 1429 = .ok (.aload_n 0, 1) := by decide +kernel
theorem dL_law_1430 : decode cL_law 1430 = .ok (.iload 4, 2) := by decide +kernel
theorem dL_law_1432 : decode cL_law 1432 = .ok (.iconst 3, 1) := by decide +kernel
theorem dL_law_1433 : decode cL_law 1433 = .ok (.iadd, 1) := by decide +kernel
theorem dL_law_1434 : decode cL_law 1434 = .ok (.iaload, 1) := by decide +kernel
theorem dL_law_1435 : decode cL_law 1435 = .ok (.invokevirtual 171, 3) := by decide +kernel
theorem dL_law_1438 : decode cL_law 1438 = .ok (.istore 6, 2) := by decide +kernel
theorem dL_law_1440 : decode cL_law 1440 = .ok (.aload_n 2, 1) := by decide +kernel
theorem dL_law_1441 : decode cL_law 1441 = .ok (.invokevirtual 118, 3) := by decide +kernel
theorem dL_law_1444 : decode cL_law 1444 = .ok (.iload 5, 2) := by decide +kernel
theorem dL_law_1446 : decode cL_law 1446 = .ok (.if_icmp .eq 5, 3) := by decide +kernel
theorem dL_law_1449 : decode cL_law 1449 = .ok (.iconst 0, 1) := by decide +kernel
theorem dL_law_1450 : decode cL_law 1450 = .ok (.ireturn, 1) := by decide +kernel
theorem dL_law_1451 : decode cL_law 1451 = .ok (.iload 5, 2) := by decide +kernel
theorem dL_law_1453 : decode cL_law 1453 = .ok (.ifCond .ne 15, 3) := by decide +kernel
theorem dL_law_1456 : decode cL_law 1456 = .ok (.aload_n 3, 1) := by decide +kernel
theorem dL_law_1457 : decode cL_law 1457 = .ok (.iconst 0, 1) := by decide +kernel
theorem dL_law_1458 : decode cL_law 1458 = .ok (.laload, 1) := by decide +kernel
theorem dL_law_1459 : decode cL_law 1459 = .ok (.iload 6, 2) := by decide +kernel
theorem dL_law_1461 : decode cL_law 1461 = .ok (.i2l, 1) := by decide +kernel
theorem dL_law_1462 : decode cL_law 1462 = .ok (.lcmp, 1) := by decide +kernel
theorem dL_law_1463 : decode cL_law 1463 = .ok (.ifCond .eq 5, 3) := by decide +kernel
theorem dL_law_1466 : decode cL_law 1466 = .ok (.iconst 0, 1) := by decide +kernel
theorem dL_law_1467 : decode cL_law 1467 = .ok (.ireturn, 1) := by decide +kernel
theorem dL_law_1468 : decode cL_law 1468 = .ok (.goto 914, 3) := by decide +kernel
theorem dL_law_1471 : decode cL_law 1471 = .ok (.aload_n 1, 1) := by decide +kernel
theorem dL_law_1472 : decode cL_law 1472 = .ok (.aload_n 0, 1) := by decide +kernel
theorem dL_law_1473 : decode cL_law 1473 = .ok (.iload 4, 2) := by decide +kernel
theorem dL_law_1475 : decode cL_law 1475 = .ok (.iconst 1, 1) := by decide +kernel
theorem dL_law_1476 : decode cL_law 1476 = .ok (.iadd, 1) := by decide +kernel
theorem dL_law_1477 : decode cL_law 1477 = .ok (.iaload, 1) := by decide +kernel
theorem dL_law_1478 : decode cL_law 1478 = .ok (.aload_n 0, 1) := by decide +kernel
theorem dL_law_1479 : decode cL_law 1479 = .ok (.iload 4, 2) := by decide +kernel
theorem dL_law_1481 : decode cL_law 1481 = .ok (.iconst 2, 1) := by decide +kernel
theorem dL_law_1482 : decode cL_law 1482 = .ok (.iadd, 1) := by decide +kernel
theorem dL_law_1483 : decode cL_law 1483 = .ok (.iaload, 1) := by decide +kernel
theorem dL_law_1484 : decode cL_law 1484 = .ok (.aload_n 0, 1) := by decide +kernel
theorem dL_law_1485 : decode cL_law 1485 = .ok (.iload 4, 2) := by decide +kernel
theorem dL_law_1487 : decode cL_law 1487 = .ok (.iconst 3, 1) := by decide +kernel
theorem dL_law_1488 : decode cL_law 1488 = .ok (.iadd, 1) := by decide +kernel
theorem dL_law_1489 : decode cL_law 1489 = .ok (.iaload, 1) := by decide +kernel
theorem dL_law_1490 : decode cL_law 1490 = .ok (.aload_n 3, 1) := by decide +kernel
theorem dL_law_1491 : decode cL_law 1491 = .ok (.invokestatic 172, 3) := by decide +kernel
theorem dL_law_1494 : decode cL_law 1494 = .ok (.istore 5, 2) := by decide +kernel
theorem dL_law_1496 : decode cL_law 1496 = .ok (.aload_n 2, 1) := by decide +kernel
theorem dL_law_1497 : decode cL_law 1497 = .ok (.aload_n 0, 1) := by decide +kernel
theorem dL_law_1498 : decode cL_law 1498 = .ok (.iload 4, 2) := by decide +kernel
theorem dL_law_1500 : decode cL_law 1500 = .ok (.iconst 1, 1) := by decide +kernel
theorem dL_law_1501 : decode cL_law 1501 = .ok (.iadd, 1) := by decide +kernel
theorem dL_law_1502 : decode cL_law 1502 = .ok (.iaload, 1) := by decide +kernel
theorem dL_law_1503 : decode cL_law 1503 = .ok (.aload_n 0, 1) := by decide +kernel
theorem dL_law_1504 : decode cL_law 1504 = .ok (.iload 4, 2) := by decide +kernel
theorem dL_law_1506 : decode cL_law 1506 = .ok (.iconst 2, 1) := by decide +kernel
theorem dL_law_1507 : decode cL_law 1507 = .ok (.iadd, 1) := by decide +kernel
theorem dL_law_1508 : decode cL_law 1508 = .ok (.iaload, 1) := by decide +kernel
theorem dL_law_1509 : decode cL_law 1509 = .ok (.aload_n 0, 1) := by decide +kernel
theorem dL_law_1510 : decode cL_law 1510 = .ok (.iload 4, 2) := by decide +kernel
theorem dL_law_1512 : decode cL_law 1512 = .ok (.iconst 3, 1) := by decide +kernel
theorem dL_law_1513 : decode cL_law 1513 = .ok (.iadd, 1) := by decide +kernel
theorem dL_law_1514 : decode cL_law 1514 = .ok (.iaload, 1) := by decide +kernel
theorem dL_law_1515 : decode cL_law 1515 = .ok (.invokevirtual 174, 3) := by decide +kernel
theorem dL_law_1518 : decode cL_law 1518 = .ok (.istore 6, 2) := by decide +kernel
theorem dL_law_1520 : decode cL_law 1520 = .ok (.aload_n 2, 1) := by decide +kernel
theorem dL_law_1521 : decode cL_law 1521 = .ok (.invokevirtual 118, 3) := by decide +kernel
theorem dL_law_1524 : decode cL_law 1524 = .ok (.iload 5, 2) := by decide +kernel
theorem dL_law_1526 : decode cL_law 1526 = .ok (.if_icmp .eq 5, 3) := by decide +kernel
theorem dL_law_1529 : decode cL_law 1529 = .ok (.iconst 0, 1) := by decide +kernel
theorem dL_law_1530 : decode cL_law 1530 = .ok (.ireturn, 1) := by decide +kernel
theorem dL_law_1531 : decode cL_law 1531 = .ok (.iload 5, 2) := by decide +kernel
theorem dL_law_1533 : decode cL_law 1533 = .ok (.ifCond .ne 15, 3) := by decide +kernel
theorem dL_law_1536 : decode cL_law 1536 = .ok (.aload_n 3, 1) := by decide +kernel
theorem dL_law_1537 : decode cL_law 1537 = .ok (.iconst 0, 1) := by decide +kernel
theorem dL_law_1538 : decode cL_law 1538 = .ok (.laload, 1) := by decide +kernel
theorem dL_law_1539 : decode cL_law 1539 = .ok (.iload 6, 2) := by decide +kernel
theorem dL_law_1541 : decode cL_law 1541 = .ok (.i2l, 1) := by decide +kernel
theorem dL_law_1542 : decode cL_law 1542 = .ok (.lcmp, 1) := by decide +kernel
theorem dL_law_1543 : decode cL_law 1543 = .ok (.ifCond .eq 5, 3) := by decide +kernel
theorem dL_law_1546 : decode cL_law 1546 = .ok (.iconst 0, 1) := by decide +kernel
theorem dL_law_1547 : decode cL_law 1547 = .ok (.ireturn, 1) := by decide +kernel
theorem dL_law_1548 : decode cL_law 1548 = .ok (.goto 834, 3) := by decide +kernel
theorem dL_law_1551 : decode cL_law 1551 = .ok (.aload_n 1, 1) := by decide +kernel
theorem dL_law_1552 : decode cL_law 1552 = .ok (.aload_n 0, 1) := by decide +kernel
theorem dL_law_1553 : decode cL_law 1553 = .ok (.iload 4, 2) := by decide +kernel
theorem dL_law_1555 : decode cL_law 1555 = .ok (.iconst 1, 1) := by decide +kernel
theorem dL_law_1556 : decode cL_law 1556 = .ok (.iadd, 1) := by decide +kernel
theorem dL_law_1557 : decode cL_law 1557 = .ok (.iaload, 1) := by decide +kernel
theorem dL_law_1558 : decode cL_law 1558 = .ok (.aload_n 0, 1) := by decide +kernel
theorem dL_law_1559 : decode cL_law 1559 = .ok (.iload 4, 2) := by decide +kernel
theorem dL_law_1561 : decode cL_law 1561 = .ok (.iconst 2, 1) := by decide +kernel
theorem dL_law_1562 : decode cL_law 1562 = .ok (.iadd, 1) := by decide +kernel
theorem dL_law_1563 : decode cL_law 1563 = .ok (.iaload, 1) := by decide +kernel
theorem dL_law_1564 : decode cL_law 1564 = .ok (.aload_n 0, 1) := by decide +kernel
theorem dL_law_1565 : decode cL_law 1565 = .ok (.iload 4, 2) := by decide +kernel
theorem dL_law_1567 : decode cL_law 1567 = .ok (.iconst 3, 1) := by decide +kernel
theorem dL_law_1568 : decode cL_law 1568 = .ok (.iadd, 1) := by decide +kernel
theorem dL_law_1569 : decode cL_law 1569 = .ok (.iaload, 1) := by decide +kernel
theorem dL_law_1570 : decode cL_law 1570 = .ok (.aload_n 3, 1) := by decide +kernel
theorem dL_law_1571 : decode cL_law 1571 = .ok (.invokestatic 175, 3) := by decide +kernel
theorem dL_law_1574 : decode cL_law 1574 = .ok (.istore 5, 2) := by decide +kernel
theorem dL_law_1576 : decode cL_law 1576 = .ok (.aload_n 2, 1) := by decide +kernel
theorem dL_law_1577 : decode cL_law 1577 = .ok (.aload_n 0, 1) := by decide +kernel
theorem dL_law_1578 : decode cL_law 1578 = .ok (.iload 4, 2) := by decide +kernel
theorem dL_law_1580 : decode cL_law 1580 = .ok (.iconst 1, 1) := by decide +kernel
theorem dL_law_1581 : decode cL_law 1581 = .ok (.iadd, 1) := by decide +kernel
theorem dL_law_1582 : decode cL_law 1582 = .ok (.iaload, 1) := by decide +kernel
theorem dL_law_1583 : decode cL_law 1583 = .ok (.aload_n 0, 1) := by decide +kernel
theorem dL_law_1584 : decode cL_law 1584 = .ok (.iload 4, 2) := by decide +kernel
theorem dL_law_1586 : decode cL_law 1586 = .ok (.iconst 2, 1) := by decide +kernel
theorem dL_law_1587 : decode cL_law 1587 = .ok (.iadd, 1) := by decide +kernel
theorem dL_law_1588 : decode cL_law 1588 = .ok (.iaload, 1) := by decide +kernel
theorem dL_law_1589 : decode cL_law 1589 = .ok (.aload_n 0, 1) := by decide +kernel
theorem dL_law_1590 : decode cL_law 1590 = .ok (.iload 4, 2) := by decide +kernel
theorem dL_law_1592 : decode cL_law 1592 = .ok (.iconst 3, 1) := by decide +kernel
theorem dL_law_1593 : decode cL_law 1593 = .ok (.iadd, 1) := by decide +kernel
theorem dL_law_1594 : decode cL_law 1594 = .ok (.iaload, 1) := by decide +kernel
theorem dL_law_1595 : decode cL_law 1595 = .ok (.invokevirtual 177, 3) := by decide +kernel
theorem dL_law_1598 : decode cL_law 1598 = .ok (.istore 6, 2) := by decide +kernel
theorem dL_law_1600 : decode cL_law 1600 = .ok (.aload_n 2, 1) := by decide +kernel
theorem dL_law_1601 : decode cL_law 1601 = .ok (.invokevirtual 118, 3) := by decide +kernel
theorem dL_law_1604 : decode cL_law 1604 = .ok (.iload 5, 2) := by decide +kernel
theorem dL_law_1606 : decode cL_law 1606 = .ok (.if_icmp .eq 5, 3) := by decide +kernel
theorem dL_law_1609 : decode cL_law 1609 = .ok (.iconst 0, 1) := by decide +kernel
theorem dL_law_1610 : decode cL_law 1610 = .ok (.ireturn, 1) := by decide +kernel
theorem dL_law_1611 : decode cL_law 1611 = .ok (.iload 5, 2) := by decide +kernel
theorem dL_law_1613 : decode cL_law 1613 = .ok (.ifCond .ne 15, 3) := by decide +kernel
theorem dL_law_1616 : decode cL_law 1616 = .ok (.aload_n 3, 1) := by decide +kernel
theorem dL_law_1617 : decode cL_law 1617 = .ok (.iconst 0, 1) := by decide +kernel
theorem dL_law_1618 : decode cL_law 1618 = .ok (.laload, 1) := by decide +kernel
theorem dL_law_1619 : decode cL_law 1619 = .ok (.iload 6, 2) := by decide +kernel
theorem dL_law_1621 : decode cL_law 1621 = .ok (.i2l, 1) := by decide +kernel
theorem dL_law_1622 : decode cL_law 1622 = .ok (.lcmp, 1) := by decide +kernel
theorem dL_law_1623 : decode cL_law 1623 = .ok (.ifCond .eq 5, 3) := by decide +kernel
theorem dL_law_1626 : decode cL_law 1626 = .ok (.iconst 0, 1) := by decide +kernel
theorem dL_law_1627 : decode cL_law 1627 = .ok (.ireturn, 1) := by decide +kernel
theorem dL_law_1628 : decode cL_law 1628 = .ok (.goto 754, 3) := by decide +kernel
theorem dL_law_1631 : decode cL_law 1631 = .ok (.aload_n 1, 1) := by decide +kernel
theorem dL_law_1632 : decode cL_law 1632 = .ok (.aload_n 0, 1) := by decide +kernel
theorem dL_law_1633 : decode cL_law 1633 = .ok (.iload 4, 2) := by decide +kernel
theorem dL_law_1635 : decode cL_law 1635 = .ok (.iconst 1, 1) := by decide +kernel
theorem dL_law_1636 : decode cL_law 1636 = .ok (.iadd, 1) := by decide +kernel
theorem dL_law_1637 : decode cL_law 1637 = .ok (.iaload, 1) := by decide +kernel
theorem dL_law_1638 : decode cL_law 1638 = .ok (.aload_n 0, 1) := by decide +kernel
theorem dL_law_1639 : decode cL_law 1639 = .ok (.iload 4, 2) := by decide +kernel
theorem dL_law_1641 : decode cL_law 1641 = .ok (.iconst 2, 1) := by decide +kernel
theorem dL_law_1642 : decode cL_law 1642 = .ok (.iadd, 1) := by decide +kernel
theorem dL_law_1643 : decode cL_law 1643 = .ok (.iaload, 1) := by decide +kernel
theorem dL_law_1644 : decode cL_law 1644 = .ok (.aload_n 0, 1) := by decide +kernel
theorem dL_law_1645 : decode cL_law 1645 = .ok (.iload 4, 2) := by decide +kernel
theorem dL_law_1647 : decode cL_law 1647 = .ok (.iconst 3, 1) := by decide +kernel
theorem dL_law_1648 : decode cL_law 1648 = .ok (.iadd, 1) := by decide +kernel
theorem dL_law_1649 : decode cL_law 1649 = .ok (.iaload, 1) := by decide +kernel
theorem dL_law_1650 : decode cL_law 1650 = .ok (.aload_n 0, 1) := by decide +kernel
theorem dL_law_1651 : decode cL_law 1651 = .ok (.iload 4, 2) := by decide +kernel
theorem dL_law_1653 : decode cL_law 1653 = .ok (.iconst 4, 1) := by decide +kernel
theorem dL_law_1654 : decode cL_law 1654 = .ok (.iadd, 1) := by decide +kernel
theorem dL_law_1655 : decode cL_law 1655 = .ok (.iaload, 1) := by decide +kernel
theorem dL_law_1656 : decode cL_law 1656 = .ok (.aload_n 3, 1) := by decide +kernel
theorem dL_law_1657 : decode cL_law 1657 = .ok (.invokestatic 178, 3) := by decide +kernel
theorem dL_law_1660 : decode cL_law 1660 = .ok (.istore 5, 2) := by decide +kernel
theorem dL_law_1662 : decode cL_law 1662 = .ok (.aload_n 2, 1) := by decide +kernel
theorem dL_law_1663 : decode cL_law 1663 = .ok (.aload_n 0, 1) := by decide +kernel
theorem dL_law_1664 : decode cL_law 1664 = .ok (.iload 4, 2) := by decide +kernel
theorem dL_law_1666 : decode cL_law 1666 = .ok (.iconst 1, 1) := by decide +kernel
theorem dL_law_1667 : decode cL_law 1667 = .ok (.iadd, 1) := by decide +kernel
theorem dL_law_1668 : decode cL_law 1668 = .ok (.iaload, 1) := by decide +kernel
theorem dL_law_1669 : decode cL_law 1669 = .ok (.aload_n 0, 1) := by decide +kernel
theorem dL_law_1670 : decode cL_law 1670 = .ok (.iload 4, 2) := by decide +kernel
theorem dL_law_1672 : decode cL_law 1672 = .ok (.iconst 2, 1) := by decide +kernel
theorem dL_law_1673 : decode cL_law 1673 = .ok (.iadd, 1) := by decide +kernel
theorem dL_law_1674 : decode cL_law 1674 = .ok (.iaload, 1) := by decide +kernel
theorem dL_law_1675 : decode cL_law 1675 = .ok (.aload_n 0, 1) := by decide +kernel
theorem dL_law_1676 : decode cL_law 1676 = .ok (.iload 4, 2) := by decide +kernel
theorem dL_law_1678 : decode cL_law 1678 = .ok (.iconst 3, 1) := by decide +kernel
theorem dL_law_1679 : decode cL_law 1679 = .ok (.iadd, 1) := by decide +kernel
theorem dL_law_1680 : decode cL_law 1680 = .ok (.iaload, 1) := by decide +kernel
theorem dL_law_1681 : decode cL_law 1681 = .ok (.aload_n 0, 1) := by decide +kernel
theorem dL_law_1682 : decode cL_law 1682 = .ok (.iload 4, 2) := by decide +kernel
theorem dL_law_1684 : decode cL_law 1684 = .ok (.iconst 4, 1) := by decide +kernel
theorem dL_law_1685 : decode cL_law 1685 = .ok (.iadd, 1) := by decide +kernel
theorem dL_law_1686 : decode cL_law 1686 = .ok (.iaload, 1) := by decide +kernel
theorem dL_law_1687 : decode cL_law 1687 = .ok (.invokevirtual 180, 3) := by decide +kernel
theorem dL_law_1690 : decode cL_law 1690 = .ok (.istore 6, 2) := by decide +kernel
theorem dL_law_1692 : decode cL_law 1692 = .ok (.aload_n 2, 1) := by decide +kernel
theorem dL_law_1693 : decode cL_law 1693 = .ok (.invokevirtual 118, 3) := by decide +kernel
theorem dL_law_1696 : decode cL_law 1696 = .ok (.iload 5, 2) := by decide +kernel
theorem dL_law_1698 : decode cL_law 1698 = .ok (.if_icmp .eq 5, 3) := by decide +kernel
theorem dL_law_1701 : decode cL_law 1701 = .ok (.iconst 0, 1) := by decide +kernel
theorem dL_law_1702 : decode cL_law 1702 = .ok (.ireturn, 1) := by decide +kernel
theorem dL_law_1703 : decode cL_law 1703 = .ok (.iload 5, 2) := by decide +kernel
theorem dL_law_1705 : decode cL_law 1705 = .ok (.ifCond .ne 15, 3) := by decide +kernel
theorem dL_law_1708 : decode cL_law 1708 = .ok (.aload_n 3, 1) := by decide +kernel
theorem dL_law_1709 : decode cL_law 1709 = .ok (.iconst 0, 1) := by decide +kernel
theorem dL_law_1710 : decode cL_law 1710 = .ok (.laload, 1) := by decide +kernel
theorem dL_law_1711 : decode cL_law 1711 = .ok (.iload 6, 2) := by decide +kernel
theorem dL_law_1713 : decode cL_law 1713 = .ok (.i2l, 1) := by decide +kernel
theorem dL_law_1714 : decode cL_law 1714 = .ok (.lcmp, 1) := by decide +kernel
theorem dL_law_1715 : decode cL_law 1715 = .ok (.ifCond .eq 5, 3) := by decide +kernel
theorem dL_law_1718 : decode cL_law 1718 = .ok (.iconst 0, 1) := by decide +kernel
theorem dL_law_1719 : decode cL_law 1719 = .ok (.ireturn, 1) := by decide +kernel
theorem dL_law_1720 : decode cL_law 1720 = .ok (.goto 662, 3) := by decide +kernel
theorem dL_law_1723 : decode cL_law 1723 = .ok (.aload_n 1, 1) := by decide +kernel
theorem dL_law_1724 : decode cL_law 1724 = .ok (.aload_n 0, 1) := by decide +kernel
theorem dL_law_1725 : decode cL_law 1725 = .ok (.iload 4, 2) := by decide +kernel
theorem dL_law_1727 : decode cL_law 1727 = .ok (.iconst 1, 1) := by decide +kernel
theorem dL_law_1728 : decode cL_law 1728 = .ok (.iadd, 1) := by decide +kernel
theorem dL_law_1729 : decode cL_law 1729 = .ok (.iaload, 1) := by decide +kernel
theorem dL_law_1730 : decode cL_law 1730 = .ok (.aload_n 0, 1) := by decide +kernel
theorem dL_law_1731 : decode cL_law 1731 = .ok (.iload 4, 2) := by decide +kernel
theorem dL_law_1733 : decode cL_law 1733 = .ok (.iconst 2, 1) := by decide +kernel
theorem dL_law_1734 : decode cL_law 1734 = .ok (.iadd, 1) := by decide +kernel
theorem dL_law_1735 : decode cL_law 1735 = .ok (.iaload, 1) := by decide +kernel
theorem dL_law_1736 : decode cL_law 1736 = .ok (.aload_n 3, 1) := by decide +kernel
theorem dL_law_1737 : decode cL_law 1737 = .ok (.invokestatic 181, 3) := by decide +kernel
theorem dL_law_1740 : decode cL_law 1740 = .ok (.istore 5, 2) := by decide +kernel
theorem dL_law_1742 : decode cL_law 1742 = .ok (.aload_n 2, 1) := by decide +kernel
theorem dL_law_1743 : decode cL_law 1743 = .ok (.aload_n 0, 1) := by decide +kernel
theorem dL_law_1744 : decode cL_law 1744 = .ok (.iload 4, 2) := by decide +kernel
theorem dL_law_1746 : decode cL_law 1746 = .ok (.iconst 1, 1) := by decide +kernel
theorem dL_law_1747 : decode cL_law 1747 = .ok (.iadd, 1) := by decide +kernel
theorem dL_law_1748 : decode cL_law 1748 = .ok (.iaload, 1) := by decide +kernel
theorem dL_law_1749 : decode cL_law 1749 = .ok (.aload_n 0, 1) := by decide +kernel
theorem dL_law_1750 : decode cL_law 1750 = .ok (.iload 4, 2) := by decide +kernel
theorem dL_law_1752 : decode cL_law 1752 = .ok (.iconst 2, 1) := by decide +kernel
theorem dL_law_1753 : decode cL_law 1753 = .ok (.iadd, 1) := by decide +kernel
theorem dL_law_1754 : decode cL_law 1754 = .ok (.iaload, 1) := by decide +kernel
theorem dL_law_1755 : decode cL_law 1755 = .ok (.invokevirtual 183, 3) := by decide +kernel
theorem dL_law_1758 : decode cL_law 1758 = .ok (.istore 6, 2) := by decide +kernel
theorem dL_law_1760 : decode cL_law 1760 = .ok (.aload_n 2, 1) := by decide +kernel
theorem dL_law_1761 : decode cL_law 1761 = .ok (.invokevirtual 118, 3) := by decide +kernel
theorem dL_law_1764 : decode cL_law 1764 = .ok (.iload 5, 2) := by decide +kernel
theorem dL_law_1766 : decode cL_law 1766 = .ok (.if_icmp .eq 5, 3) := by decide +kernel
theorem dL_law_1769 : decode cL_law 1769 = .ok (.iconst 0, 1) := by decide +kernel
theorem dL_law_1770 : decode cL_law 1770 = .ok (.ireturn, 1) := by decide +kernel
theorem dL_law_1771 : decode cL_law 1771 = .ok (.iload 5, 2) := by decide +kernel
theorem dL_law_1773 : decode cL_law 1773 = .ok (.ifCond .ne 15, 3) := by decide +kernel
theorem dL_law_1776 : decode cL_law 1776 = .ok (.aload_n 3, 1) := by decide +kernel
theorem dL_law_1777 : decode cL_law 1777 = .ok (.iconst 0, 1) := by decide +kernel
theorem dL_law_1778 : decode cL_law 1778 = .ok (.laload, 1) := by decide +kernel
theorem dL_law_1779 : decode cL_law 1779 = .ok (.iload 6, 2) := by decide +kernel
theorem dL_law_1781 : decode cL_law 1781 = .ok (.i2l, 1) := by decide +kernel
theorem dL_law_1782 : decode cL_law 1782 = .ok (.lcmp, 1) := by decide +kernel
theorem dL_law_1783 : decode cL_law 1783 = .ok (.ifCond .eq 5, 3) := by decide +kernel
theorem dL_law_1786 : decode cL_law 1786 = .ok (.iconst 0, 1) := by decide +kernel
theorem dL_law_1787 : decode cL_law 1787 = .ok (.ireturn, 1) := by decide +kernel
theorem dL_law_1788 : decode cL_law 1788 = .ok (.goto 594, 3) := by decide +kernel
theorem dL_law_1791 : decode cL_law 1791 = .ok (.aload_n 1, 1) := by decide +kernel
theorem dL_law_1792 : decode cL_law 1792 = .ok (.aload_n 0, 1) := by decide +kernel
theorem dL_law_1793 : decode cL_law 1793 = .ok (.iload 4, 2) := by decide +kernel
theorem dL_law_1795 : decode cL_law 1795 = .ok (.iconst 1, 1) := by decide +kernel
theorem dL_law_1796 : decode cL_law 1796 = .ok (.iadd, 1) := by decide +kernel
theorem dL_law_1797 : decode cL_law 1797 = .ok (.iaload, 1) := by decide +kernel
theorem dL_law_1798 : decode cL_law 1798 = .ok (.aload_n 3, 1) := by decide +kernel
theorem dL_law_1799 : decode cL_law 1799 = .ok (.invokestatic 184, 3) := by decide +kernel
theorem dL_law_1802 : decode cL_law 1802 = .ok (.istore 5, 2) := by decide +kernel
theorem dL_law_1804 : decode cL_law 1804 = .ok (.aload_n 2, 1) := by decide +kernel
theorem dL_law_1805 : decode cL_law 1805 = .ok (.aload_n 0, 1) := by decide +kernel
theorem dL_law_1806 : decode cL_law 1806 = .ok (.iload 4, 2) := by decide +kernel
theorem dL_law_1808 : decode cL_law 1808 = .ok (.iconst 1, 1) := by decide +kernel
theorem dL_law_1809 : decode cL_law 1809 = .ok (.iadd, 1) := by decide +kernel
theorem dL_law_1810 : decode cL_law 1810 = .ok (.iaload, 1) := by decide +kernel
theorem dL_law_1811 : decode cL_law 1811 = .ok (.invokevirtual 186, 3) := by decide +kernel
theorem dL_law_1814 : decode cL_law 1814 = .ok (.istore 6, 2) := by decide +kernel
theorem dL_law_1816 : decode cL_law 1816 = .ok (.aload_n 2, 1) := by decide +kernel
theorem dL_law_1817 : decode cL_law 1817 = .ok (.invokevirtual 118, 3) := by decide +kernel
theorem dL_law_1820 : decode cL_law 1820 = .ok (.iload 5, 2) := by decide +kernel
theorem dL_law_1822 : decode cL_law 1822 = .ok (.if_icmp .eq 5, 3) := by decide +kernel
theorem dL_law_1825 : decode cL_law 1825 = .ok (.iconst 0, 1) := by decide +kernel
theorem dL_law_1826 : decode cL_law 1826 = .ok (.ireturn, 1) := by decide +kernel
theorem dL_law_1827 : decode cL_law 1827 = .ok (.iload 5, 2) := by decide +kernel
theorem dL_law_1829 : decode cL_law 1829 = .ok (.ifCond .ne 15, 3) := by decide +kernel
theorem dL_law_1832 : decode cL_law 1832 = .ok (.aload_n 3, 1) := by decide +kernel
theorem dL_law_1833 : decode cL_law 1833 = .ok (.iconst 0, 1) := by decide +kernel
theorem dL_law_1834 : decode cL_law 1834 = .ok (.laload, 1) := by decide +kernel
theorem dL_law_1835 : decode cL_law 1835 = .ok (.iload 6, 2) := by decide +kernel
theorem dL_law_1837 : decode cL_law 1837 = .ok (.i2l, 1) := by decide +kernel
theorem dL_law_1838 : decode cL_law 1838 = .ok (.lcmp, 1) := by decide +kernel
theorem dL_law_1839 : decode cL_law 1839 = .ok (.ifCond .eq 5, 3) := by decide +kernel
theorem dL_law_1842 : decode cL_law 1842 = .ok (.iconst 0, 1) := by decide +kernel
theorem dL_law_1843 : decode cL_law 1843 = .ok (.ireturn, 1) := by decide +kernel
theorem dL_law_1844 : decode cL_law 1844 = .ok (.goto 538, 3) := by decide +kernel
theorem dL_law_1847 : decode cL_law 1847 = .ok (.aload_n 1, 1) := by decide +kernel
theorem dL_law_1848 : decode cL_law 1848 = .ok (.invokevirtual 187, 3) := by decide +kernel
theorem dL_law_1851 : decode cL_law 1851 = .ok (.aload_n 2, 1) := by decide +kernel
theorem dL_law_1852 : decode cL_law 1852 = .ok (.invokevirtual 190, 3) := by decide +kernel
theorem dL_law_1855 : decode cL_law 1855 = .ok (.if_icmp .eq 527, 3) := by decide +kernel
theorem dL_law_1858 : decode cL_law 1858 = .ok (.iconst 0, 1) := by decide +kernel
theorem dL_law_1859 : decode cL_law 1859 = .ok (.ireturn, 1) := by decide +kernel
theorem dL_law_1860 : decode cL_law 1860 = .ok (.aload_n 1, 1) := by decide +kernel
theorem dL_law_1861 : decode cL_law 1861 = .ok (.aload_n 0, 1) := by decide +kernel
theorem dL_law_1862 : decode cL_law 1862 = .ok (.iload 4, 2) := by decide +kernel
theorem dL_law_1864 : decode cL_law 1864 = .ok (.iconst 1, 1) := by decide +kernel
theorem dL_law_1865 : decode cL_law 1865 = .ok (.iadd, 1) := by decide +kernel
theorem dL_law_1866 : decode cL_law 1866 = .ok (.iaload, 1) := by decide +kernel
theorem dL_law_1867 : decode cL_law 1867 = .ok (.aload_n 0, 1) := by decide +kernel
theorem dL_law_1868 : decode cL_law 1868 = .ok (.iload 4, 2) := by decide +kernel
theorem dL_law_1870 : decode cL_law 1870 = .ok (.iconst 2, 1) := by decide +kernel
theorem dL_law_1871 : decode cL_law 1871 = .ok (.iadd, 1) := by decide +kernel
theorem dL_law_1872 : decode cL_law 1872 = .ok (.iaload, 1) := by decide +kernel
theorem dL_law_1873 : decode cL_law 1873 = .ok (.aload_n 3, 1) := by decide +kernel
theorem dL_law_1874 : decode cL_law 1874 = .ok (.invokestatic 191, 3) := by decide +kernel
theorem dL_law_1877 : decode cL_law 1877 = .ok (.istore 5, 2) := by decide +kernel
theorem dL_law_1879 : decode cL_law 1879 = .ok (.aload_n 2, 1) := by decide +kernel
theorem dL_law_1880 : decode cL_law 1880 = .ok (.aload_n 0, 1) := by decide +kernel
theorem dL_law_1881 : decode cL_law 1881 = .ok (.iload 4, 2) := by decide +kernel
theorem dL_law_1883 : decode cL_law 1883 = .ok (.iconst 1, 1) := by decide +kernel
theorem dL_law_1884 : decode cL_law 1884 = .ok (.iadd, 1) := by decide +kernel
theorem dL_law_1885 : decode cL_law 1885 = .ok (.iaload, 1) := by decide +kernel
theorem dL_law_1886 : decode cL_law 1886 = .ok (.aload_n 0, 1) := by decide +kernel
theorem dL_law_1887 : decode cL_law 1887 = .ok (.iload 4, 2) := by decide +kernel
theorem dL_law_1889 : decode cL_law 1889 = .ok (.iconst 2, 1) := by decide +kernel
theorem dL_law_1890 : decode cL_law 1890 = .ok (.iadd, 1) := by decide +kernel
theorem dL_law_1891 : decode cL_law 1891 = .ok (.iaload, 1) := by decide +kernel
theorem dL_law_1892 : decode cL_law 1892 = .ok (.invokevirtual 193, 3) := by decide +kernel
theorem dL_law_1895 : decode cL_law 1895 = .ok (.istore 6, 2) := by decide +kernel
theorem dL_law_1897 : decode cL_law 1897 = .ok (.aload_n 2, 1) := by decide +kernel
theorem dL_law_1898 : decode cL_law 1898 = .ok (.invokevirtual 118, 3) := by decide +kernel
theorem dL_law_1901 : decode cL_law 1901 = .ok (.iload 5, 2) := by decide +kernel
theorem dL_law_1903 : decode cL_law 1903 = .ok (.if_icmp .eq 5, 3) := by decide +kernel
theorem dL_law_1906 : decode cL_law 1906 = .ok (.iconst 0, 1) := by decide +kernel
theorem dL_law_1907 : decode cL_law 1907 = .ok (.ireturn, 1) := by decide +kernel
theorem dL_law_1908 : decode cL_law 1908 = .ok (.iload 5, 2) := by decide +kernel
theorem dL_law_1910 : decode cL_law 1910 = .ok (.ifCond .ne 15, 3) := by decide +kernel
theorem dL_law_1913 : decode cL_law 1913 = .ok (.aload_n 3, 1) := by decide +kernel
theorem dL_law_1914 : decode cL_law 1914 = .ok (.iconst 0, 1) := by decide +kernel
theorem dL_law_1915 : decode cL_law 1915 = .ok (.laload, 1) := by decide +kernel
theorem dL_law_1916 : decode cL_law 1916 = .ok (.iload 6, 2) := by decide +kernel
theorem dL_law_1918 : decode cL_law 1918 = .ok (.i2l, 1) := by decide +kernel
theorem dL_law_1919 : decode cL_law 1919 = .ok (.lcmp, 1) := by decide +kernel
theorem dL_law_1920 : decode cL_law 1920 = .ok (.ifCond .eq 5, 3) := by decide +kernel
theorem dL_law_1923 : decode cL_law 1923 = .ok (.iconst 0, 1) := by decide +kernel
theorem dL_law_1924 : decode cL_law 1924 = .ok (.ireturn, 1) := by decide +kernel
theorem dL_law_1925 : decode cL_law 1925 = .ok (.goto 457, 3) := by decide +kernel
theorem dL_law_1928 : decode cL_law 1928 = .ok (.aload_n 1, 1) := by decide +kernel
theorem dL_law_1929 : decode cL_law 1929 = .ok (.aload_n 0, 1) := by decide +kernel
theorem dL_law_1930 : decode cL_law 1930 = .ok (.iload 4, 2) := by decide +kernel
theorem dL_law_1932 : decode cL_law 1932 = .ok (.iconst 1, 1) := by decide +kernel
theorem dL_law_1933 : decode cL_law 1933 = .ok (.iadd, 1) := by decide +kernel
theorem dL_law_1934 : decode cL_law 1934 = .ok (.iaload, 1) := by decide +kernel
theorem dL_law_1935 : decode cL_law 1935 = .ok (.aload_n 0, 1) := by decide +kernel
theorem dL_law_1936 : decode cL_law 1936 = .ok (.iload 4, 2) := by decide +kernel
theorem dL_law_1938 : decode cL_law 1938 = .ok (.iconst 2, 1) := by decide +kernel
theorem dL_law_1939 : decode cL_law 1939 = .ok (.iadd, 1) := by decide +kernel
theorem dL_law_1940 : decode cL_law 1940 = .ok (.iaload, 1) := by decide +kernel
theorem dL_law_1941 : decode cL_law 1941 = .ok (.aload_n 3, 1) := by decide +kernel
theorem dL_law_1942 : decode cL_law 1942 = .ok (.invokestatic 194, 3) := by decide +kernel
theorem dL_law_1945 : decode cL_law 1945 = .ok (.istore 5, 2) := by decide +kernel
theorem dL_law_1947 : decode cL_law 1947 = .ok (.aload_n 2, 1) := by decide +kernel
theorem dL_law_1948 : decode cL_law 1948 = .ok (.aload_n 0, 1) := by decide +kernel
theorem dL_law_1949 : decode cL_law 1949 = .ok (.iload 4, 2) := by decide +kernel
theorem dL_law_1951 : decode cL_law 1951 = .ok (.iconst 1, 1) := by decide +kernel
theorem dL_law_1952 : decode cL_law 1952 = .ok (.iadd, 1) := by decide +kernel
theorem dL_law_1953 : decode cL_law 1953 = .ok (.iaload, 1) := by decide +kernel
theorem dL_law_1954 : decode cL_law 1954 = .ok (.aload_n 0, 1) := by decide +kernel
theorem dL_law_1955 : decode cL_law 1955 = .ok (.iload 4, 2) := by decide +kernel
theorem dL_law_1957 : decode cL_law 1957 = .ok (.iconst 2, 1) := by decide +kernel
theorem dL_law_1958 : decode cL_law 1958 = .ok (.iadd, 1) := by decide +kernel
theorem dL_law_1959 : decode cL_law 1959 = .ok (.iaload, 1) := by decide +kernel
theorem dL_law_1960 : decode cL_law 1960 = .ok (.invokevirtual 196, 3) := by decide +kernel
theorem dL_law_1963 : decode cL_law 1963 = .ok (.istore 6, 2) := by decide +kernel
theorem dL_law_1965 : decode cL_law 1965 = .ok (.aload_n 2, 1) := by decide +kernel
theorem dL_law_1966 : decode cL_law 1966 = .ok (.invokevirtual 118, 3) := by decide +kernel
theorem dL_law_1969 : decode cL_law 1969 = .ok (.iload 5, 2) := by decide +kernel
theorem dL_law_1971 : decode cL_law 1971 = .ok (.if_icmp .eq 5, 3) := by decide +kernel
theorem dL_law_1974 : decode cL_law 1974 = .ok (.iconst 0, 1) := by decide +kernel
theorem dL_law_1975 : decode cL_law 1975 = .ok (.ireturn, 1) := by decide +kernel
theorem dL_law_1976 : decode cL_law 1976 = .ok (.iload 5, 2) := by decide +kernel
theorem dL_law_1978 : decode cL_law 1978 = .ok (.ifCond .ne 15, 3) := by decide +kernel
theorem dL_law_1981 : decode cL_law 1981 = .ok (.aload_n 3, 1) := by decide +kernel
theorem dL_law_1982 : decode cL_law 1982 = .ok (.iconst 0, 1) := by decide +kernel
theorem dL_law_1983 : decode cL_law 1983 = .ok (.laload, 1) := by decide +kernel
theorem dL_law_1984 : decode cL_law 1984 = .ok (.iload 6, 2) := by decide +kernel
theorem dL_law_1986 : decode cL_law 1986 = .ok (.i2l, 1) := by decide +kernel
theorem dL_law_1987 : decode cL_law 1987 = .ok (.lcmp, 1) := by decide +kernel
theorem dL_law_1988 : decode cL_law 1988 = .ok (.ifCond .eq 5, 3) := by decide +kernel
theorem dL_law_1991 : decode cL_law 1991 = .ok (.iconst 0, 1) := by decide +kernel
theorem dL_law_1992 : decode cL_law 1992 = .ok (.ireturn, 1) := by decide +kernel
theorem dL_law_1993 : decode cL_law 1993 = .ok (.goto 389, 3) := by decide +kernel
theorem dL_law_1996 : decode cL_law 1996 = .ok (.aload_n 1, 1) := by decide +kernel
theorem dL_law_1997 : decode cL_law 1997 = .ok (.aload_n 0, 1) := by decide +kernel
theorem dL_law_1998 : decode cL_law 1998 = .ok (.iload 4, 2) := by decide +kernel
theorem dL_law_2000 : decode cL_law 2000 = .ok (.iconst 1, 1) := by decide +kernel
theorem dL_law_2001 : decode cL_law 2001 = .ok (.iadd, 1) := by decide +kernel
theorem dL_law_2002 : decode cL_law 2002 = .ok (.iaload, 1) := by decide +kernel
theorem dL_law_2003 : decode cL_law 2003 = .ok (.aload_n 0, 1) := by decide +kernel
theorem dL_law_2004 : decode cL_law 2004 = .ok (.iload 4, 2) := by decide +kernel
theorem dL_law_2006 : decode cL_law 2006 = .ok (.iconst 2, 1) := by decide +kernel
theorem dL_law_2007 : decode cL_law 2007 = .ok (.iadd, 1) := by decide +kernel
theorem dL_law_2008 : decode cL_law 2008 = .ok (.iaload, 1) := by decide +kernel
theorem dL_law_2009 : decode cL_law 2009 = .ok (.aload_n 3, 1) := by decide +kernel
theorem dL_law_2010 : decode cL_law 2010 = .ok (.invokestatic 197, 3) := by decide +kernel
theorem dL_law_2013 : decode cL_law 2013 = .ok (.istore 5, 2) := by decide +kernel
theorem dL_law_2015 : decode cL_law 2015 = .ok (.aload_n 2, 1) := by decide +kernel
theorem dL_law_2016 : decode cL_law 2016 = .ok (.aload_n 0, 1) := by decide +kernel
theorem dL_law_2017 : decode cL_law 2017 = .ok (.iload 4, 2) := by decide +kernel
theorem dL_law_2019 : decode cL_law 2019 = .ok (.iconst 1, 1) := by decide +kernel
theorem dL_law_2020 : decode cL_law 2020 = .ok (.iadd, 1) := by decide +kernel
theorem dL_law_2021 : decode cL_law 2021 = .ok (.iaload, 1) := by decide +kernel
theorem dL_law_2022 : decode cL_law 2022 = .ok (.aload_n 0, 1) := by decide +kernel
theorem dL_law_2023 : decode cL_law 2023 = .ok (.iload 4, 2) := by decide +kernel
theorem dL_law_2025 : decode cL_law 2025 = .ok (.iconst 2, 1) := by decide +kernel
theorem dL_law_2026 : decode cL_law 2026 = .ok (.iadd, 1) := by decide +kernel
theorem dL_law_2027 : decode cL_law 2027 = .ok (.iaload, 1) := by decide +kernel
theorem dL_law_2028 : decode cL_law 2028 = .ok (.invokevirtual 199, 3) := by decide +kernel
theorem dL_law_2031 : decode cL_law 2031 = .ok (.istore 6, 2) := by decide +kernel
theorem dL_law_2033 : decode cL_law 2033 = .ok (.aload_n 2, 1) := by decide +kernel
theorem dL_law_2034 : decode cL_law 2034 = .ok (.invokevirtual 118, 3) := by decide +kernel
theorem dL_law_2037 : decode cL_law 2037 = .ok (.iload 5, 2) := by decide +kernel
theorem dL_law_2039 : decode cL_law 2039 = .ok (.if_icmp .eq 5, 3) := by decide +kernel
theorem dL_law_2042 : decode cL_law 2042 = .ok (.iconst 0, 1) := by decide +kernel
theorem dL_law_2043 : decode cL_law 2043 = .ok (.ireturn, 1) := by decide +kernel
theorem dL_law_2044 : decode cL_law 2044 = .ok (.iload 5, 2) := by decide +kernel
theorem dL_law_2046 : decode cL_law 2046 = .ok (.ifCond .ne 15, 3) := by decide +kernel
theorem dL_law_2049 : decode cL_law 2049 = .ok (.aload_n 3, 1) := by decide +kernel
theorem dL_law_2050 : decode cL_law 2050 = .ok (.iconst 0, 1) := by decide +kernel
theorem dL_law_2051 : decode cL_law 2051 = .ok (.laload, 1) := by decide +kernel
theorem dL_law_2052 : decode cL_law 2052 = .ok (.iload 6, 2) := by decide +kernel
theorem dL_law_2054 : decode cL_law 2054 = .ok (.i2l, 1) := by decide +kernel
theorem dL_law_2055 : decode cL_law 2055 = .ok (.lcmp, 1) := by decide +kernel
theorem dL_law_2056 : decode cL_law 2056 = .ok (.ifCond .eq 5, 3) := by decide +kernel
theorem dL_law_2059 : decode cL_law 2059 = .ok (.iconst 0, 1) := by decide +kernel
theorem dL_law_2060 : decode cL_law 2060 = .ok (.ireturn, 1) := by decide +kernel
theorem dL_law_2061 : decode cL_law 2061 = .ok (.goto 321, 3) := by decide +kernel
theorem dL_law_2064 : decode cL_law 2064 = .ok (.aload_n 1, 1) := by decide +kernel
theorem dL_law_2065 : decode cL_law 2065 = .ok (.aload_n 0, 1) := by decide +kernel
theorem dL_law_2066 : decode cL_law 2066 = .ok (.iload 4, 2) := by decide +kernel
theorem dL_law_2068 : decode cL_law 2068 = .ok (.iconst 1, 1) := by decide +kernel
theorem dL_law_2069 : decode cL_law 2069 = .ok (.iadd, 1) := by decide +kernel
theorem dL_law_2070 : decode cL_law 2070 = .ok (.iaload, 1) := by decide +kernel
theorem dL_law_2071 : decode cL_law 2071 = .ok (.aload_n 0, 1) := by decide +kernel
theorem dL_law_2072 : decode cL_law 2072 = .ok (.iload 4, 2) := by decide +kernel
theorem dL_law_2074 : decode cL_law 2074 = .ok (.iconst 2, 1) := by decide +kernel
theorem dL_law_2075 : decode cL_law 2075 = .ok (.iadd, 1) := by decide +kernel
theorem dL_law_2076 : decode cL_law 2076 = .ok (.iaload, 1) := by decide +kernel
theorem dL_law_2077 : decode cL_law 2077 = .ok (.aload_n 3, 1) := by decide +kernel
theorem dL_law_2078 : decode cL_law 2078 = .ok (.invokestatic 200, 3) := by decide +kernel
theorem dL_law_2081 : decode cL_law 2081 = .ok (.istore 5, 2) := by decide +kernel
theorem dL_law_2083 : decode cL_law 2083 = .ok (.aload_n 2, 1) := by decide +kernel
theorem dL_law_2084 : decode cL_law 2084 = .ok (.aload_n 0, 1) := by decide +kernel
theorem dL_law_2085 : decode cL_law 2085 = .ok (.iload 4, 2) := by decide +kernel
theorem dL_law_2087 : decode cL_law 2087 = .ok (.iconst 1, 1) := by decide +kernel
theorem dL_law_2088 : decode cL_law 2088 = .ok (.iadd, 1) := by decide +kernel
theorem dL_law_2089 : decode cL_law 2089 = .ok (.iaload, 1) := by decide +kernel
theorem dL_law_2090 : decode cL_law 2090 = .ok (.aload_n 0, 1) := by decide +kernel
theorem dL_law_2091 : decode cL_law 2091 = .ok (.iload 4, 2) := by decide +kernel
theorem dL_law_2093 : decode cL_law 2093 = .ok (.iconst 2, 1) := by decide +kernel
theorem dL_law_2094 : decode cL_law 2094 = .ok (.iadd, 1) := by decide +kernel
theorem dL_law_2095 : decode cL_law 2095 = .ok (.iaload, 1) := by decide +kernel
theorem dL_law_2096 : decode cL_law 2096 = .ok (.invokevirtual 202, 3) := by decide +kernel
theorem dL_law_2099 : decode cL_law 2099 = .ok (.istore 6, 2) := by decide +kernel
theorem dL_law_2101 : decode cL_law 2101 = .ok (.aload_n 2, 1) := by decide +kernel
theorem dL_law_2102 : decode cL_law 2102 = .ok (.invokevirtual 118, 3) := by decide +kernel
theorem dL_law_2105 : decode cL_law 2105 = .ok (.iload 5, 2) := by decide +kernel
theorem dL_law_2107 : decode cL_law 2107 = .ok (.if_icmp .eq 5, 3) := by decide +kernel
theorem dL_law_2110 : decode cL_law 2110 = .ok (.iconst 0, 1) := by decide +kernel
theorem dL_law_2111 : decode cL_law 2111 = .ok (.ireturn, 1) := by decide +kernel
theorem dL_law_2112 : decode cL_law 2112 = .ok (.iload 5, 2) := by decide +kernel
theorem dL_law_2114 : decode cL_law 2114 = .ok (.ifCond .ne 15, 3) := by decide +kernel
theorem dL_law_2117 : decode cL_law 2117 = .ok (.aload_n 3, 1) := by decide +kernel
theorem dL_law_2118 : decode cL_law 2118 = .ok (.iconst 0, 1) := by decide +kernel
theorem dL_law_2119 : decode cL_law 2119 = .ok (.laload, 1) := by decide +kernel
theorem dL_law_2120 : decode cL_law 2120 = .ok (.iload 6, 2) := by decide +kernel
theorem dL_law_2122 : decode cL_law 2122 = .ok (.i2l, 1) := by decide +kernel
theorem dL_law_2123 : decode cL_law 2123 = .ok (.lcmp, 1) := by decide +kernel
theorem dL_law_2124 : decode cL_law 2124 = .ok (.ifCond .eq 5, 3) := by decide +kernel
theorem dL_law_2127 : decode cL_law 2127 = .ok (.iconst 0, 1) := by decide +kernel
theorem dL_law_2128 : decode cL_law 2128 = .ok (.ireturn, 1) := by decide +kernel
theorem dL_law_2129 : decode cL_law 2129 = .ok (.goto 253, 3) := by decide +kernel
theorem dL_law_2132 : decode cL_law 2132 = .ok (.aload_n 1, 1) := by decide +kernel
theorem dL_law_2133 : decode cL_law 2133 = .ok (.aload_n 0, 1) := by decide +kernel
theorem dL_law_2134 : decode cL_law 2134 = .ok (.iload 4, 2) := by decide +kernel
theorem dL_law_2136 : decode cL_law 2136 = .ok (.iconst 1, 1) := by decide +kernel
theorem dL_law_2137 : decode cL_law 2137 = .ok (.iadd, 1) := by decide +kernel
theorem dL_law_2138 : decode cL_law 2138 = .ok (.iaload, 1) := by decide +kernel
theorem dL_law_2139 : decode cL_law 2139 = .ok (.aload_n 3, 1) := by decide +kernel
theorem dL_law_2140 : decode cL_law 2140 = .ok (.invokestatic 203, 3) := by decide +kernel
theorem dL_law_2143 : decode cL_law 2143 = .ok (.istore 5, 2) := by decide +kernel
theorem dL_law_2145 : decode cL_law 2145 = .ok (.aload_n 2, 1) := by decide +kernel
theorem dL_law_2146 : decode cL_law 2146 = .ok (.aload_n 0, 1) := by decide +kernel
theorem dL_law_2147 : decode cL_law 2147 = .ok (.iload 4, 2) := by decide +kernel
theorem dL_law_2149 : decode cL_law 2149 = .ok (.iconst 1, 1) := by decide +kernel
theorem dL_law_2150 : decode cL_law 2150 = .ok (.iadd, 1) := by decide +kernel
theorem dL_law_2151 : decode cL_law 2151 = .ok (.iaload, 1) := by decide +kernel
theorem dL_law_2152 : decode cL_law 2152 = .ok (.invokevirtual 205, 3) := by decide +kernel
theorem dL_law_2155 : decode cL_law 2155 = .ok (.istore 6, 2) := by decide +kernel
theorem dL_law_2157 : decode cL_law 2157 = .ok (.aload_n 2, 1) := by decide +kernel
theorem dL_law_2158 : decode cL_law 2158 = .ok (.invokevirtual 118, 3) := by decide +kernel
theorem dL_law_2161 : decode cL_law 2161 = .ok (.iload 5, 2) := by decide +kernel
theorem dL_law_2163 : decode cL_law 2163 = .ok (.if_icmp .eq 5, 3) := by decide +kernel
theorem dL_law_2166 : decode cL_law 2166 = .ok (.iconst 0, 1) := by decide +kernel
theorem dL_law_2167 : decode cL_law 2167 = .ok (.ireturn, 1) := by decide +kernel
theorem dL_law_2168 : decode cL_law 2168 = .ok (.iload 5, 2) := by decide +kernel
theorem dL_law_2170 : decode cL_law 2170 = .ok (.ifCond .ne 15, 3) := by decide +kernel
theorem dL_law_2173 : decode cL_law 2173 = .ok (.aload_n 3, 1) := by decide +kernel
theorem dL_law_2174 : decode cL_law 2174 = .ok (.iconst 0, 1) := by decide +kernel
theorem dL_law_2175 : decode cL_law 2175 = .ok (.laload, 1) := by decide +kernel
theorem dL_law_2176 : decode cL_law 2176 = .ok (.iload 6, 2) := by decide +kernel
theorem dL_law_2178 : decode cL_law 2178 = .ok (.i2l, 1) := by decide +kernel
theorem dL_law_2179 : decode cL_law 2179 = .ok (.lcmp, 1) := by decide +kernel
theorem dL_law_2180 : decode cL_law 2180 = .ok (.ifCond .eq 5, 3) := by decide +kernel
theorem dL_law_2183 : decode cL_law 2183 = .ok (.iconst 0, 1) := by decide +kernel
theorem dL_law_2184 : decode cL_law 2184 = .ok (.ireturn, 1) := by decide +kernel
theorem dL_law_2185 : decode cL_law 2185 = .ok (.goto 197, 3) := by decide +kernel
theorem dL_law_2188 : decode cL_law 2188 = .ok (.aload_n 1, 1) := by decide +kernel
theorem dL_law_2189 : decode cL_law 2189 = .ok (.aload_n 0, 1) := by decide +kernel
theorem dL_law_2190 : decode cL_law 2190 = .ok (.iload 4, 2) := by decide +kernel
theorem dL_law_2192 : decode cL_law 2192 = .ok (.iconst 1, 1) := by decide +kernel
theorem dL_law_2193 : decode cL_law 2193 = .ok (.iadd, 1) := by decide +kernel
theorem dL_law_2194 : decode cL_law 2194 = .ok (.iaload, 1) := by decide +kernel
theorem dL_law_2195 : decode cL_law 2195 = .ok (.aload_n 3, 1) := by decide +kernel
theorem dL_law_2196 : decode cL_law 2196 = .ok (.invokestatic 206, 3) := by decide +kernel
theorem dL_law_2199 : decode cL_law 2199 = .ok (.istore 5, 2) := by decide +kernel
theorem dL_law_2201 : decode cL_law 2201 = .ok (.aload_n 2, 1) := by decide +kernel
theorem dL_law_2202 : decode cL_law 2202 = .ok (.aload_n 0, 1) := by decide +kernel
theorem dL_law_2203 : decode cL_law 2203 = .ok (.iload 4, 2) := by decide +kernel
theorem dL_law_2205 : decode cL_law 2205 = .ok (.iconst 1, 1) := by decide +kernel
theorem dL_law_2206 : decode cL_law 2206 = .ok (.iadd, 1) := by decide +kernel
theorem dL_law_2207 : decode cL_law 2207 = .ok (.iaload, 1) := by decide +kernel
theorem dL_law_2208 : decode cL_law 2208 = .ok (.invokevirtual 208, 3) := by decide +kernel
theorem dL_law_2211 : decode cL_law 2211 = .ok (.istore 6, 2) := by decide +kernel
theorem dL_law_2213 : decode cL_law 2213 = .ok (.aload_n 2, 1) := by decide +kernel
theorem dL_law_2214 : decode cL_law 2214 = .ok (.invokevirtual 118, 3) := by decide +kernel
theorem dL_law_2217 : decode cL_law 2217 = .ok (.iload 5, 2) := by decide +kernel
theorem dL_law_2219 : decode cL_law 2219 = .ok (.if_icmp .eq 5, 3) := by decide +kernel
theorem dL_law_2222 : decode cL_law 2222 = .ok (.iconst 0, 1) := by decide +kernel
theorem dL_law_2223 : decode cL_law 2223 = .ok (.ireturn, 1) := by decide +kernel
theorem dL_law_2224 : decode cL_law 2224 = .ok (.iload 5, 2) := by decide +kernel
theorem dL_law_2226 : decode cL_law 2226 = .ok (.ifCond .ne 15, 3) := by decide +kernel
theorem dL_law_2229 : decode cL_law 2229 = .ok (.aload_n 3, 1) := by decide +kernel
theorem dL_law_2230 : decode cL_law 2230 = .ok (.iconst 0, 1) := by decide +kernel
theorem dL_law_2231 : decode cL_law 2231 = .ok (.laload, 1) := by decide +kernel
theorem dL_law_2232 : decode cL_law 2232 = .ok (.iload 6, 2) := by decide +kernel
theorem dL_law_2234 : decode cL_law 2234 = .ok (.i2l, 1) := by decide +kernel
theorem dL_law_2235 : decode cL_law 2235 = .ok (.lcmp, 1) := by decide +kernel
theorem dL_law_2236 : decode cL_law 2236 = .ok (.ifCond .eq 5, 3) := by decide +kernel
theorem dL_law_2239 : decode cL_law 2239 = .ok (.iconst 0, 1) := by decide +kernel
theorem dL_law_2240 : decode cL_law 2240 = .ok (.ireturn, 1) := by decide +kernel
theorem dL_law_2241 : decode cL_law 2241 = .ok (.goto 141, 3) := by decide +kernel
theorem dL_law_2244 : decode cL_law 2244 = .ok (.aload_n 1, 1) := by decide +kernel
theorem dL_law_2245 : decode cL_law 2245 = .ok (.aload_n 0, 1) := by decide +kernel
theorem dL_law_2246 : decode cL_law 2246 = .ok (.iload 4, 2) := by decide +kernel
theorem dL_law_2248 : decode cL_law 2248 = .ok (.iconst 1, 1) := by decide +kernel
theorem dL_law_2249 : decode cL_law 2249 = .ok (.iadd, 1) := by decide +kernel
theorem dL_law_2250 : decode cL_law 2250 = .ok (.iaload, 1) := by decide +kernel
theorem dL_law_2251 : decode cL_law 2251 = .ok (.aload_n 0, 1) := by decide +kernel
theorem dL_law_2252 : decode cL_law 2252 = .ok (.iload 4, 2) := by decide +kernel
theorem dL_law_2254 : decode cL_law 2254 = .ok (.iconst 2, 1) := by decide +kernel
theorem dL_law_2255 : decode cL_law 2255 = .ok (.iadd, 1) := by decide +kernel
theorem dL_law_2256 : decode cL_law 2256 = .ok (.iaload, 1) := by decide +kernel
theorem dL_law_2257 : decode cL_law 2257 = .ok (.aload_n 0, 1) := by decide +kernel
theorem dL_law_2258 : decode cL_law 2258 = .ok (.iload 4, 2) := by decide +kernel
theorem dL_law_2260 : decode cL_law 2260 = .ok (.iconst 3, 1) := by decide +kernel
theorem dL_law_2261 : decode cL_law 2261 = .ok (.iadd, 1) := by decide +kernel
theorem dL_law_2262 : decode cL_law 2262 = .ok (.iaload, 1) := by decide +kernel
theorem dL_law_2263 : decode cL_law 2263 = .ok (.aload_n 3, 1) := by decide +kernel
theorem dL_law_2264 : decode cL_law 2264 = .ok (.invokestatic 209, 3) := by decide +kernel
theorem dL_law_2267 : decode cL_law 2267 = .ok (.istore 5, 2) := by decide +kernel
theorem dL_law_2269 : decode cL_law 2269 = .ok (.aload_n 2, 1) := by decide +kernel
theorem dL_law_2270 : decode cL_law 2270 = .ok (.aload_n 0, 1) := by decide +kernel
theorem dL_law_2271 : decode cL_law 2271 = .ok (.iload 4, 2) := by decide +kernel
theorem dL_law_2273 : decode cL_law 2273 = .ok (.iconst 1, 1) := by decide +kernel
theorem dL_law_2274 : decode cL_law 2274 = .ok (.iadd, 1) := by decide +kernel
theorem dL_law_2275 : decode cL_law 2275 = .ok (.iaload, 1) := by decide +kernel
theorem dL_law_2276 : decode cL_law 2276 = .ok (.aload_n 0, 1) := by decide +kernel
theorem dL_law_2277 : decode cL_law 2277 = .ok (.iload 4, 2) := by decide +kernel
theorem dL_law_2279 : decode cL_law 2279 = .ok (.iconst 2, 1) := by decide +kernel
theorem dL_law_2280 : decode cL_law 2280 = .ok (.iadd, 1) := by decide +kernel
theorem dL_law_2281 : decode cL_law 2281 = .ok (.iaload, 1) := by decide +kernel
theorem dL_law_2282 : decode cL_law 2282 = .ok (.aload_n 0, 1) := by decide +kernel
theorem dL_law_2283 : decode cL_law 2283 = .ok (.iload 4, 2) := by decide +kernel
theorem dL_law_2285 : decode cL_law 2285 = .ok (.iconst 3, 1) := by decide +kernel
theorem dL_law_2286 : decode cL_law 2286 = .ok (.iadd, 1) := by decide +kernel
theorem dL_law_2287 : decode cL_law 2287 = .ok (.iaload, 1) := by decide +kernel
theorem dL_law_2288 : decode cL_law 2288 = .ok (.invokevirtual 211, 3) := by decide +kernel
theorem dL_law_2291 : decode cL_law 2291 = .ok (.istore 6, 2) := by decide +kernel
theorem dL_law_2293 : decode cL_law 2293 = .ok (.aload_n 2, 1) := by decide +kernel
theorem dL_law_2294 : decode cL_law 2294 = .ok (.invokevirtual 118, 3) := by decide +kernel
theorem dL_law_2297 : decode cL_law 2297 = .ok (.iload 5, 2) := by decide +kernel
theorem dL_law_2299 : decode cL_law 2299 = .ok (.if_icmp .eq 5, 3) := by decide +kernel
theorem dL_law_2302 : decode cL_law 2302 = .ok (.iconst 0, 1) := by decide +kernel
theorem dL_law_2303 : decode cL_law 2303 = .ok (.ireturn, 1) := by decide +kernel
theorem dL_law_2304 : decode cL_law 2304 = .ok (.iload 5, 2) := by decide +kernel
theorem dL_law_2306 : decode cL_law 2306 = .ok (.ifCond .ne 15, 3) := by decide +kernel
theorem dL_law_2309 : decode cL_law 2309 = .ok (.aload_n 3, 1) := by decide +kernel
theorem dL_law_2310 : decode cL_law 2310 = .ok (.iconst 0, 1) := by decide +kernel
theorem dL_law_2311 : decode cL_law 2311 = .ok (.laload, 1) := by decide +kernel
theorem dL_law_2312 : decode cL_law 2312 = .ok (.iload 6, 2) := by decide +kernel
theorem dL_law_2314 : decode cL_law 2314 = .ok (.i2l, 1) := by decide +kernel
theorem dL_law_2315 : decode cL_law 2315 = .ok (.lcmp, 1) := by decide +kernel
theorem dL_law_2316 : decode cL_law 2316 = .ok (.ifCond .eq 5, 3) := by decide +kernel
theorem dL_law_2319 : decode cL_law 2319 = .ok (.iconst 0, 1) := by decide +kernel
theorem dL_law_2320 : decode cL_law 2320 = .ok (.ireturn, 1) := by decide +kernel
theorem dL_law_2321 : decode cL_law 2321 = .ok (.goto 61, 3) := by decide +kernel
theorem dL_law_2324 : decode cL_law 2324 = .ok (.aload_n 1, 1) := by decide +kernel
theorem dL_law_2325 : decode cL_law 2325 = .ok (.aload_n 3, 1) := by decide +kernel
theorem dL_law_2326 : decode cL_law 2326 = .ok (.invokestatic 212, 3) := by decide +kernel
theorem dL_law_2329 : decode cL_law 2329 = .ok (.istore 5, 2) := by decide +kernel
theorem dL_law_2331 : decode cL_law 2331 = .ok (.aload_n 2, 1) := by decide +kernel
theorem dL_law_2332 : decode cL_law 2332 = .ok (.invokevirtual 215, 3) := by decide +kernel
theorem dL_law_2335 : decode cL_law 2335 = .ok (.istore 6, 2) := by decide +kernel
theorem dL_law_2337 : decode cL_law 2337 = .ok (.aload_n 2, 1) := by decide +kernel
theorem dL_law_2338 : decode cL_law 2338 = .ok (.invokevirtual 118, 3) := by decide +kernel
theorem dL_law_2341 : decode cL_law 2341 = .ok (.iload 5, 2) := by decide +kernel
theorem dL_law_2343 : decode cL_law 2343 = .ok (.if_icmp .eq 5, 3) := by decide +kernel
theorem dL_law_2346 : decode cL_law 2346 = .ok (.iconst 0, 1) := by decide +kernel
theorem dL_law_2347 : decode cL_law 2347 = .ok (.ireturn, 1) := by decide +kernel
theorem dL_law_2348 : decode cL_law 2348 = .ok (.iload 5, 2) := by decide +kernel
theorem dL_law_2350 : decode cL_law 2350 = .ok (.ifCond .ne 15, 3) := by decide +kernel
theorem dL_law_2353 : decode cL_law 2353 = .ok (.aload_n 3, 1) := by decide +kernel
theorem dL_law_2354 : decode cL_law 2354 = .ok (.iconst 0, 1) := by decide +kernel
theorem dL_law_2355 : decode cL_law 2355 = .ok (.laload, 1) := by decide +kernel
theorem dL_law_2356 : decode cL_law 2356 = .ok (.iload 6, 2) := by decide +kernel
theorem dL_law_2358 : decode cL_law 2358 = .ok (.i2l, 1) := by decide +kernel
theorem dL_law_2359 : decode cL_law 2359 = .ok (.lcmp, 1) := by decide +kernel
theorem dL_law_2360 : decode cL_law 2360 = .ok (.ifCond .eq 5, 3) := by decide +kernel
theorem dL_law_2363 : decode cL_law 2363 = .ok (.iconst 0, 1) := by decide +kernel
theorem dL_law_2364 : decode cL_law 2364 = .ok (.ireturn, 1) := by decide +kernel
theorem dL_law_2365 : decode cL_law 2365 = .ok (.goto 17, 3) := by decide +kernel
theorem dL_law_2368 : decode cL_law 2368 = .ok (.aload_n 1, 1) := by decide +kernel
theorem dL_law_2369 : decode cL_law 2369 = .ok (.invokevirtual 216, 3) := by decide +kernel
theorem dL_law_2372 : decode cL_law 2372 = .ok (.aload_n 2, 1) := by decide +kernel
theorem dL_law_2373 : decode cL_law 2373 = .ok (.invokevirtual 220, 3) := by decide +kernel
theorem dL_law_2376 : decode cL_law 2376 = .ok (.lcmp, 1) := by decide +kernel
theorem dL_law_2377 : decode cL_law 2377 = .ok (.ifCond .eq 5, 3) := by decide +kernel
theorem dL_law_2380 : decode cL_law 2380 = .ok (.iconst 0, 1) := by decide +kernel
theorem dL_law_2381 : decode cL_law 2381 = .ok (.ireturn, 1) := by decide +kernel
theorem dL_law_2382 : decode cL_law 2382 = .ok (.iinc 4 6, 3) := by decide +kernel
theorem dL_law_2385 : decode cL_law 2385 = .ok (.goto (-2362), 3) := by decide +kernel
theorem dL_law_2388 : decode cL_law 2388 = .ok (.iconst 1, 1) := by decide +kernel
theorem dL_law_2389 : decode cL_law 2389 = .ok (.ireturn, 1) := by decide +kernel
