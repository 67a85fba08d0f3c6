/-! ===== printed by wip/whole: the rows of the law itself ===== -/
section
theorem i_L_law_0 : aq_T 251 0 = some (aq_new 6 9 [.null, .null, .null, .null, .null, .null, .null, .null, .int 0] 3) := rfl
theorem i_L_law_3 : aq_T 251 3 = some (aq_ar af_dup 4) := rfl
theorem i_L_law_4 : aq_T 251 4 = some (aq_call 66 1 (some 6) 7) := rfl
theorem i_L_law_7 : aq_T 251 7 = some (aq_st 4 1 8) := rfl
theorem i_L_law_8 : aq_T 251 8 = some (aq_new 7 29 [.int 0, .int 0, .null, .null, .null, .null, .null, .int 0, .int 0, .int 0, .int 0, .null, .null, .int 0, .int 0, .null, .null, .null, .null, .null, .null, .null, .null, .null, .null, .null, .int 0, .int 0, .int 0] 11) := rfl
theorem i_L_law_11 : aq_T 251 11 = some (aq_ar af_dup 12) := rfl
theorem i_L_law_12 : aq_T 251 12 = some (aq_call 125 1 (some 7) 15) := rfl
theorem i_L_law_15 : aq_T 251 15 = some (aq_st 4 2 16) := rfl
theorem i_L_law_16 : aq_T 251 16 = some (aq_push (.int (1)) 17) := rfl
theorem i_L_law_17 : aq_T 251 17 = some (aq_newa 1 19) := rfl
theorem i_L_law_19 : aq_T 251 19 = some (aq_st 4 3 20) := rfl
theorem i_L_law_20 : aq_T 251 20 = some (aq_push (.int (0)) 21) := rfl
theorem i_L_law_21 : aq_T 251 21 = some (aq_st 0 4 23) := rfl
theorem i_L_law_23 : aq_T 251 23 = some (aq_ld 0 4 25) := rfl
theorem i_L_law_25 : aq_T 251 25 = some (aq_ld 4 0 26) := rfl
theorem i_L_law_26 : aq_T 251 26 = some (aq_len 27) := rfl
theorem i_L_law_27 : aq_T 251 27 = some (aq_push (.int (5)) 28) := rfl
theorem i_L_law_28 : aq_T 251 28 = some (aq_ar af_isub 29) := rfl
theorem i_L_law_29 : aq_T 251 29 = some (aq_if ai_gt 2852 32) := rfl
theorem i_L_law_32 : aq_T 251 32 = some (aq_ld 4 0 33) := rfl
theorem i_L_law_33 : aq_T 251 33 = some (aq_ld 0 4 35) := rfl
theorem i_L_law_35 : aq_T 251 35 = some (aq_ldi 0 36) := rfl
theorem i_L_law_36 : aq_T 251 36 = some (aq_push (.int (63)) 38) := rfl
theorem i_L_law_38 : aq_T 251 38 = some (aq_ar af_iand 39) := rfl
theorem i_L_law_39 : aq_T 251 39 = some (aq_sw [224, 280, 348, 404, 460, 504, 560, 628, 708, 764, 832, 895, 970, 1026, 1101, 1176, 1244, 1324, 1427, 1511, 1591, 1647, 1710, 1766, 1821, 1933, 1989, 2057, 2125, 2181, 2237, 2250, 2313, 2326, 2339, 2383, 2438, 2494, 2574, 2642, 2722, 2789, 2802] 2846) := rfl
theorem i_L_law_224 : aq_T 251 224 = some (aq_ld 4 1 225) := rfl
theorem i_L_law_225 : aq_T 251 225 = some (aq_ld 4 0 226) := rfl
theorem i_L_law_226 : aq_T 251 226 = some (aq_ld 0 4 228) := rfl
theorem i_L_law_228 : aq_T 251 228 = some (aq_push (.int (1)) 229) := rfl
theorem i_L_law_229 : aq_T 251 229 = some (aq_ar af_iadd 230) := rfl
theorem i_L_law_230 : aq_T 251 230 = some (aq_ldi 0 231) := rfl
theorem i_L_law_231 : aq_T 251 231 = some (aq_ld 4 3 232) := rfl
theorem i_L_law_232 : aq_T 251 232 = some (aq_call 212 3 none 235) := rfl
theorem i_L_law_235 : aq_T 251 235 = some (aq_st 0 5 237) := rfl
theorem i_L_law_237 : aq_T 251 237 = some (aq_ld 4 2 238) := rfl
theorem i_L_law_238 : aq_T 251 238 = some (aq_ld 4 0 239) := rfl
theorem i_L_law_239 : aq_T 251 239 = some (aq_ld 0 4 241) := rfl
theorem i_L_law_241 : aq_T 251 241 = some (aq_push (.int (1)) 242) := rfl
theorem i_L_law_242 : aq_T 251 242 = some (aq_ar af_iadd 243) := rfl
theorem i_L_law_243 : aq_T 251 243 = some (aq_ldi 0 244) := rfl
theorem i_L_law_244 : aq_T 251 244 = some (aq_call 133 2 (some 7) 247) := rfl
theorem i_L_law_247 : aq_T 251 247 = some (aq_st 0 6 249) := rfl
theorem i_L_law_249 : aq_T 251 249 = some (aq_ld 4 2 250) := rfl
theorem i_L_law_250 : aq_T 251 250 = some (aq_call 126 1 (some 7) 253) := rfl
theorem i_L_law_253 : aq_T 251 253 = some (aq_ld 0 5 255) := rfl
theorem i_L_law_255 : aq_T 251 255 = some (aq_if ai_eq 260 258) := rfl
theorem i_L_law_258 : aq_T 251 258 = some (aq_push (.int (0)) 259) := rfl
theorem i_L_law_259 : aq_T 251 259 = some (aq_ret 5) := rfl
theorem i_L_law_260 : aq_T 251 260 = some (aq_ld 0 5 262) := rfl
theorem i_L_law_262 : aq_T 251 262 = some (aq_if ai_ne0 277 265) := rfl
theorem i_L_law_265 : aq_T 251 265 = some (aq_ld 4 3 266) := rfl
theorem i_L_law_266 : aq_T 251 266 = some (aq_push (.int (0)) 267) := rfl
theorem i_L_law_267 : aq_T 251 267 = some (aq_ldl 268) := rfl
theorem i_L_law_268 : aq_T 251 268 = some (aq_ld 0 6 270) := rfl
theorem i_L_law_270 : aq_T 251 270 = some (aq_ar af_i2l 271) := rfl
theorem i_L_law_271 : aq_T 251 271 = some (aq_ar af_lcmp 272) := rfl
theorem i_L_law_272 : aq_T 251 272 = some (aq_if ai_eq0 277 275) := rfl
theorem i_L_law_275 : aq_T 251 275 = some (aq_push (.int (0)) 276) := rfl
theorem i_L_law_276 : aq_T 251 276 = some (aq_ret 5) := rfl
theorem i_L_law_277 : aq_T 251 277 = some (aq_go 2846) := rfl
theorem i_L_law_280 : aq_T 251 280 = some (aq_ld 4 1 281) := rfl
theorem i_L_law_281 : aq_T 251 281 = some (aq_ld 4 0 282) := rfl
theorem i_L_law_282 : aq_T 251 282 = some (aq_ld 0 4 284) := rfl
theorem i_L_law_284 : aq_T 251 284 = some (aq_push (.int (1)) 285) := rfl
theorem i_L_law_285 : aq_T 251 285 = some (aq_ar af_iadd 286) := rfl
theorem i_L_law_286 : aq_T 251 286 = some (aq_ldi 0 287) := rfl
theorem i_L_law_287 : aq_T 251 287 = some (aq_ld 4 0 288) := rfl
theorem i_L_law_288 : aq_T 251 288 = some (aq_ld 0 4 290) := rfl
theorem i_L_law_290 : aq_T 251 290 = some (aq_push (.int (2)) 291) := rfl
theorem i_L_law_291 : aq_T 251 291 = some (aq_ar af_iadd 292) := rfl
theorem i_L_law_292 : aq_T 251 292 = some (aq_ldi 0 293) := rfl
theorem i_L_law_293 : aq_T 251 293 = some (aq_ld 4 3 294) := rfl
theorem i_L_law_294 : aq_T 251 294 = some (aq_call 213 4 none 297) := rfl
theorem i_L_law_297 : aq_T 251 297 = some (aq_st 0 5 299) := rfl
theorem i_L_law_299 : aq_T 251 299 = some (aq_ld 4 2 300) := rfl
theorem i_L_law_300 : aq_T 251 300 = some (aq_ld 4 0 301) := rfl
theorem i_L_law_301 : aq_T 251 301 = some (aq_ld 0 4 303) := rfl
theorem i_L_law_303 : aq_T 251 303 = some (aq_push (.int (1)) 304) := rfl
theorem i_L_law_304 : aq_T 251 304 = some (aq_ar af_iadd 305) := rfl
theorem i_L_law_305 : aq_T 251 305 = some (aq_ldi 0 306) := rfl
theorem i_L_law_306 : aq_T 251 306 = some (aq_ld 4 0 307) := rfl
theorem i_L_law_307 : aq_T 251 307 = some (aq_ld 0 4 309) := rfl
theorem i_L_law_309 : aq_T 251 309 = some (aq_push (.int (2)) 310) := rfl
theorem i_L_law_310 : aq_T 251 310 = some (aq_ar af_iadd 311) := rfl
theorem i_L_law_311 : aq_T 251 311 = some (aq_ldi 0 312) := rfl
theorem i_L_law_312 : aq_T 251 312 = some (aq_call 134 3 (some 7) 315) := rfl
theorem i_L_law_315 : aq_T 251 315 = some (aq_st 0 6 317) := rfl
theorem i_L_law_317 : aq_T 251 317 = some (aq_ld 4 2 318) := rfl
theorem i_L_law_318 : aq_T 251 318 = some (aq_call 126 1 (some 7) 321) := rfl
theorem i_L_law_321 : aq_T 251 321 = some (aq_ld 0 5 323) := rfl
theorem i_L_law_323 : aq_T 251 323 = some (aq_if ai_eq 328 326) := rfl
theorem i_L_law_326 : aq_T 251 326 = some (aq_push (.int (0)) 327) := rfl
theorem i_L_law_327 : aq_T 251 327 = some (aq_ret 5) := rfl
theorem i_L_law_328 : aq_T 251 328 = some (aq_ld 0 5 330) := rfl
theorem i_L_law_330 : aq_T 251 330 = some (aq_if ai_ne0 345 333) := rfl
theorem i_L_law_333 : aq_T 251 333 = some (aq_ld 4 3 334) := rfl
theorem i_L_law_334 : aq_T 251 334 = some (aq_push (.int (0)) 335) := rfl
theorem i_L_law_335 : aq_T 251 335 = some (aq_ldl 336) := rfl
theorem i_L_law_336 : aq_T 251 336 = some (aq_ld 0 6 338) := rfl
theorem i_L_law_338 : aq_T 251 338 = some (aq_ar af_i2l 339) := rfl
theorem i_L_law_339 : aq_T 251 339 = some (aq_ar af_lcmp 340) := rfl
theorem i_L_law_340 : aq_T 251 340 = some (aq_if ai_eq0 345 343) := rfl
theorem i_L_law_343 : aq_T 251 343 = some (aq_push (.int (0)) 344) := rfl
theorem i_L_law_344 : aq_T 251 344 = some (aq_ret 5) := rfl
theorem i_L_law_345 : aq_T 251 345 = some (aq_go 2846) := rfl
theorem i_L_law_348 : aq_T 251 348 = some (aq_ld 4 1 349) := rfl
theorem i_L_law_349 : aq_T 251 349 = some (aq_ld 4 0 350) := rfl
theorem i_L_law_350 : aq_T 251 350 = some (aq_ld 0 4 352) := rfl
theorem i_L_law_352 : aq_T 251 352 = some (aq_push (.int (1)) 353) := rfl
theorem i_L_law_353 : aq_T 251 353 = some (aq_ar af_iadd 354) := rfl
theorem i_L_law_354 : aq_T 251 354 = some (aq_ldi 0 355) := rfl
theorem i_L_law_355 : aq_T 251 355 = some (aq_ld 4 3 356) := rfl
theorem i_L_law_356 : aq_T 251 356 = some (aq_call 214 3 none 359) := rfl
theorem i_L_law_359 : aq_T 251 359 = some (aq_st 0 5 361) := rfl
theorem i_L_law_361 : aq_T 251 361 = some (aq_ld 4 2 362) := rfl
theorem i_L_law_362 : aq_T 251 362 = some (aq_ld 4 0 363) := rfl
theorem i_L_law_363 : aq_T 251 363 = some (aq_ld 0 4 365) := rfl
theorem i_L_law_365 : aq_T 251 365 = some (aq_push (.int (1)) 366) := rfl
theorem i_L_law_366 : aq_T 251 366 = some (aq_ar af_iadd 367) := rfl
theorem i_L_law_367 : aq_T 251 367 = some (aq_ldi 0 368) := rfl
theorem i_L_law_368 : aq_T 251 368 = some (aq_call 135 2 (some 7) 371) := rfl
theorem i_L_law_371 : aq_T 251 371 = some (aq_st 0 6 373) := rfl
theorem i_L_law_373 : aq_T 251 373 = some (aq_ld 4 2 374) := rfl
theorem i_L_law_374 : aq_T 251 374 = some (aq_call 126 1 (some 7) 377) := rfl
theorem i_L_law_377 : aq_T 251 377 = some (aq_ld 0 5 379) := rfl
theorem i_L_law_379 : aq_T 251 379 = some (aq_if ai_eq 384 382) := rfl
theorem i_L_law_382 : aq_T 251 382 = some (aq_push (.int (0)) 383) := rfl
theorem i_L_law_383 : aq_T 251 383 = some (aq_ret 5) := rfl
theorem i_L_law_384 : aq_T 251 384 = some (aq_ld 0 5 386) := rfl
theorem i_L_law_386 : aq_T 251 386 = some (aq_if ai_ne0 401 389) := rfl
theorem i_L_law_389 : aq_T 251 389 = some (aq_ld 4 3 390) := rfl
theorem i_L_law_390 : aq_T 251 390 = some (aq_push (.int (0)) 391) := rfl
theorem i_L_law_391 : aq_T 251 391 = some (aq_ldl 392) := rfl
theorem i_L_law_392 : aq_T 251 392 = some (aq_ld 0 6 394) := rfl
theorem i_L_law_394 : aq_T 251 394 = some (aq_ar af_i2l 395) := rfl
theorem i_L_law_395 : aq_T 251 395 = some (aq_ar af_lcmp 396) := rfl
theorem i_L_law_396 : aq_T 251 396 = some (aq_if ai_eq0 401 399) := rfl
theorem i_L_law_399 : aq_T 251 399 = some (aq_push (.int (0)) 400) := rfl
theorem i_L_law_400 : aq_T 251 400 = some (aq_ret 5) := rfl
theorem i_L_law_401 : aq_T 251 401 = some (aq_go 2846) := rfl
theorem i_L_law_404 : aq_T 251 404 = some (aq_ld 4 1 405) := rfl
theorem i_L_law_405 : aq_T 251 405 = some (aq_ld 4 0 406) := rfl
theorem i_L_law_406 : aq_T 251 406 = some (aq_ld 0 4 408) := rfl
theorem i_L_law_408 : aq_T 251 408 = some (aq_push (.int (1)) 409) := rfl
theorem i_L_law_409 : aq_T 251 409 = some (aq_ar af_iadd 410) := rfl
theorem i_L_law_410 : aq_T 251 410 = some (aq_ldi 0 411) := rfl
theorem i_L_law_411 : aq_T 251 411 = some (aq_ld 4 3 412) := rfl
theorem i_L_law_412 : aq_T 251 412 = some (aq_call 215 3 none 415) := rfl
theorem i_L_law_415 : aq_T 251 415 = some (aq_st 0 5 417) := rfl
theorem i_L_law_417 : aq_T 251 417 = some (aq_ld 4 2 418) := rfl
theorem i_L_law_418 : aq_T 251 418 = some (aq_ld 4 0 419) := rfl
theorem i_L_law_419 : aq_T 251 419 = some (aq_ld 0 4 421) := rfl
theorem i_L_law_421 : aq_T 251 421 = some (aq_push (.int (1)) 422) := rfl
theorem i_L_law_422 : aq_T 251 422 = some (aq_ar af_iadd 423) := rfl
theorem i_L_law_423 : aq_T 251 423 = some (aq_ldi 0 424) := rfl
theorem i_L_law_424 : aq_T 251 424 = some (aq_call 139 2 (some 7) 427) := rfl
theorem i_L_law_427 : aq_T 251 427 = some (aq_st 0 6 429) := rfl
theorem i_L_law_429 : aq_T 251 429 = some (aq_ld 4 2 430) := rfl
theorem i_L_law_430 : aq_T 251 430 = some (aq_call 126 1 (some 7) 433) := rfl
theorem i_L_law_433 : aq_T 251 433 = some (aq_ld 0 5 435) := rfl
theorem i_L_law_435 : aq_T 251 435 = some (aq_if ai_eq 440 438) := rfl
theorem i_L_law_438 : aq_T 251 438 = some (aq_push (.int (0)) 439) := rfl
theorem i_L_law_439 : aq_T 251 439 = some (aq_ret 5) := rfl
theorem i_L_law_440 : aq_T 251 440 = some (aq_ld 0 5 442) := rfl
theorem i_L_law_442 : aq_T 251 442 = some (aq_if ai_ne0 457 445) := rfl
theorem i_L_law_445 : aq_T 251 445 = some (aq_ld 4 3 446) := rfl
theorem i_L_law_446 : aq_T 251 446 = some (aq_push (.int (0)) 447) := rfl
theorem i_L_law_447 : aq_T 251 447 = some (aq_ldl 448) := rfl
theorem i_L_law_448 : aq_T 251 448 = some (aq_ld 0 6 450) := rfl
theorem i_L_law_450 : aq_T 251 450 = some (aq_ar af_i2l 451) := rfl
theorem i_L_law_451 : aq_T 251 451 = some (aq_ar af_lcmp 452) := rfl
theorem i_L_law_452 : aq_T 251 452 = some (aq_if ai_eq0 457 455) := rfl
theorem i_L_law_455 : aq_T 251 455 = some (aq_push (.int (0)) 456) := rfl
theorem i_L_law_456 : aq_T 251 456 = some (aq_ret 5) := rfl
theorem i_L_law_457 : aq_T 251 457 = some (aq_go 2846) := rfl
theorem i_L_law_460 : aq_T 251 460 = some (aq_ld 4 1 461) := rfl
theorem i_L_law_461 : aq_T 251 461 = some (aq_ld 4 3 462) := rfl
theorem i_L_law_462 : aq_T 251 462 = some (aq_call 216 2 none 465) := rfl
theorem i_L_law_465 : aq_T 251 465 = some (aq_st 0 5 467) := rfl
theorem i_L_law_467 : aq_T 251 467 = some (aq_ld 4 2 468) := rfl
theorem i_L_law_468 : aq_T 251 468 = some (aq_call 140 1 (some 7) 471) := rfl
theorem i_L_law_471 : aq_T 251 471 = some (aq_st 0 6 473) := rfl
theorem i_L_law_473 : aq_T 251 473 = some (aq_ld 4 2 474) := rfl
theorem i_L_law_474 : aq_T 251 474 = some (aq_call 126 1 (some 7) 477) := rfl
theorem i_L_law_477 : aq_T 251 477 = some (aq_ld 0 5 479) := rfl
theorem i_L_law_479 : aq_T 251 479 = some (aq_if ai_eq 484 482) := rfl
theorem i_L_law_482 : aq_T 251 482 = some (aq_push (.int (0)) 483) := rfl
theorem i_L_law_483 : aq_T 251 483 = some (aq_ret 5) := rfl
theorem i_L_law_484 : aq_T 251 484 = some (aq_ld 0 5 486) := rfl
theorem i_L_law_486 : aq_T 251 486 = some (aq_if ai_ne0 501 489) := rfl
theorem i_L_law_489 : aq_T 251 489 = some (aq_ld 4 3 490) := rfl
theorem i_L_law_490 : aq_T 251 490 = some (aq_push (.int (0)) 491) := rfl
theorem i_L_law_491 : aq_T 251 491 = some (aq_ldl 492) := rfl
theorem i_L_law_492 : aq_T 251 492 = some (aq_ld 0 6 494) := rfl
theorem i_L_law_494 : aq_T 251 494 = some (aq_ar af_i2l 495) := rfl
theorem i_L_law_495 : aq_T 251 495 = some (aq_ar af_lcmp 496) := rfl
theorem i_L_law_496 : aq_T 251 496 = some (aq_if ai_eq0 501 499) := rfl
theorem i_L_law_499 : aq_T 251 499 = some (aq_push (.int (0)) 500) := rfl
theorem i_L_law_500 : aq_T 251 500 = some (aq_ret 5) := rfl
theorem i_L_law_501 : aq_T 251 501 = some (aq_go 2846) := rfl
theorem i_L_law_504 : aq_T 251 504 = some (aq_ld 4 1 505) := rfl
theorem i_L_law_505 : aq_T 251 505 = some (aq_ld 4 0 506) := rfl
theorem i_L_law_506 : aq_T 251 506 = some (aq_ld 0 4 508) := rfl
theorem i_L_law_508 : aq_T 251 508 = some (aq_push (.int (1)) 509) := rfl
theorem i_L_law_509 : aq_T 251 509 = some (aq_ar af_iadd 510) := rfl
theorem i_L_law_510 : aq_T 251 510 = some (aq_ldi 0 511) := rfl
theorem i_L_law_511 : aq_T 251 511 = some (aq_ld 4 3 512) := rfl
theorem i_L_law_512 : aq_T 251 512 = some (aq_call 217 3 none 515) := rfl
theorem i_L_law_515 : aq_T 251 515 = some (aq_st 0 5 517) := rfl
theorem i_L_law_517 : aq_T 251 517 = some (aq_ld 4 2 518) := rfl
theorem i_L_law_518 : aq_T 251 518 = some (aq_ld 4 0 519) := rfl
theorem i_L_law_519 : aq_T 251 519 = some (aq_ld 0 4 521) := rfl
theorem i_L_law_521 : aq_T 251 521 = some (aq_push (.int (1)) 522) := rfl
theorem i_L_law_522 : aq_T 251 522 = some (aq_ar af_iadd 523) := rfl
theorem i_L_law_523 : aq_T 251 523 = some (aq_ldi 0 524) := rfl
theorem i_L_law_524 : aq_T 251 524 = some (aq_call 141 2 (some 7) 527) := rfl
theorem i_L_law_527 : aq_T 251 527 = some (aq_st 0 6 529) := rfl
theorem i_L_law_529 : aq_T 251 529 = some (aq_ld 4 2 530) := rfl
theorem i_L_law_530 : aq_T 251 530 = some (aq_call 126 1 (some 7) 533) := rfl
theorem i_L_law_533 : aq_T 251 533 = some (aq_ld 0 5 535) := rfl
theorem i_L_law_535 : aq_T 251 535 = some (aq_if ai_eq 540 538) := rfl
theorem i_L_law_538 : aq_T 251 538 = some (aq_push (.int (0)) 539) := rfl
theorem i_L_law_539 : aq_T 251 539 = some (aq_ret 5) := rfl
theorem i_L_law_540 : aq_T 251 540 = some (aq_ld 0 5 542) := rfl
theorem i_L_law_542 : aq_T 251 542 = some (aq_if ai_ne0 557 545) := rfl
theorem i_L_law_545 : aq_T 251 545 = some (aq_ld 4 3 546) := rfl
theorem i_L_law_546 : aq_T 251 546 = some (aq_push (.int (0)) 547) := rfl
theorem i_L_law_547 : aq_T 251 547 = some (aq_ldl 548) := rfl
theorem i_L_law_548 : aq_T 251 548 = some (aq_ld 0 6 550) := rfl
theorem i_L_law_550 : aq_T 251 550 = some (aq_ar af_i2l 551) := rfl
theorem i_L_law_551 : aq_T 251 551 = some (aq_ar af_lcmp 552) := rfl
theorem i_L_law_552 : aq_T 251 552 = some (aq_if ai_eq0 557 555) := rfl
theorem i_L_law_555 : aq_T 251 555 = some (aq_push (.int (0)) 556) := rfl
theorem i_L_law_556 : aq_T 251 556 = some (aq_ret 5) := rfl
theorem i_L_law_557 : aq_T 251 557 = some (aq_go 2846) := rfl
theorem i_L_law_560 : aq_T 251 560 = some (aq_ld 4 1 561) := rfl
theorem i_L_law_561 : aq_T 251 561 = some (aq_ld 4 0 562) := rfl
theorem i_L_law_562 : aq_T 251 562 = some (aq_ld 0 4 564) := rfl
theorem i_L_law_564 : aq_T 251 564 = some (aq_push (.int (1)) 565) := rfl
theorem i_L_law_565 : aq_T 251 565 = some (aq_ar af_iadd 566) := rfl
theorem i_L_law_566 : aq_T 251 566 = some (aq_ldi 0 567) := rfl
theorem i_L_law_567 : aq_T 251 567 = some (aq_ld 4 0 568) := rfl
theorem i_L_law_568 : aq_T 251 568 = some (aq_ld 0 4 570) := rfl
theorem i_L_law_570 : aq_T 251 570 = some (aq_push (.int (2)) 571) := rfl
theorem i_L_law_571 : aq_T 251 571 = some (aq_ar af_iadd 572) := rfl
theorem i_L_law_572 : aq_T 251 572 = some (aq_ldi 0 573) := rfl
theorem i_L_law_573 : aq_T 251 573 = some (aq_ld 4 3 574) := rfl
theorem i_L_law_574 : aq_T 251 574 = some (aq_call 218 4 none 577) := rfl
theorem i_L_law_577 : aq_T 251 577 = some (aq_st 0 5 579) := rfl
theorem i_L_law_579 : aq_T 251 579 = some (aq_ld 4 2 580) := rfl
theorem i_L_law_580 : aq_T 251 580 = some (aq_ld 4 0 581) := rfl
theorem i_L_law_581 : aq_T 251 581 = some (aq_ld 0 4 583) := rfl
theorem i_L_law_583 : aq_T 251 583 = some (aq_push (.int (1)) 584) := rfl
theorem i_L_law_584 : aq_T 251 584 = some (aq_ar af_iadd 585) := rfl
theorem i_L_law_585 : aq_T 251 585 = some (aq_ldi 0 586) := rfl
theorem i_L_law_586 : aq_T 251 586 = some (aq_ld 4 0 587) := rfl
theorem i_L_law_587 : aq_T 251 587 = some (aq_ld 0 4 589) := rfl
theorem i_L_law_589 : aq_T 251 589 = some (aq_push (.int (2)) 590) := rfl
theorem i_L_law_590 : aq_T 251 590 = some (aq_ar af_iadd 591) := rfl
theorem i_L_law_591 : aq_T 251 591 = some (aq_ldi 0 592) := rfl
theorem i_L_law_592 : aq_T 251 592 = some (aq_call 143 3 (some 7) 595) := rfl
theorem i_L_law_595 : aq_T 251 595 = some (aq_st 0 6 597) := rfl
theorem i_L_law_597 : aq_T 251 597 = some (aq_ld 4 2 598) := rfl
theorem i_L_law_598 : aq_T 251 598 = some (aq_call 126 1 (some 7) 601) := rfl
theorem i_L_law_601 : aq_T 251 601 = some (aq_ld 0 5 603) := rfl
theorem i_L_law_603 : aq_T 251 603 = some (aq_if ai_eq 608 606) := rfl
theorem i_L_law_606 : aq_T 251 606 = some (aq_push (.int (0)) 607) := rfl
theorem i_L_law_607 : aq_T 251 607 = some (aq_ret 5) := rfl
theorem i_L_law_608 : aq_T 251 608 = some (aq_ld 0 5 610) := rfl
theorem i_L_law_610 : aq_T 251 610 = some (aq_if ai_ne0 625 613) := rfl
theorem i_L_law_613 : aq_T 251 613 = some (aq_ld 4 3 614) := rfl
theorem i_L_law_614 : aq_T 251 614 = some (aq_push (.int (0)) 615) := rfl
theorem i_L_law_615 : aq_T 251 615 = some (aq_ldl 616) := rfl
theorem i_L_law_616 : aq_T 251 616 = some (aq_ld 0 6 618) := rfl
theorem i_L_law_618 : aq_T 251 618 = some (aq_ar af_i2l 619) := rfl
theorem i_L_law_619 : aq_T 251 619 = some (aq_ar af_lcmp 620) := rfl
theorem i_L_law_620 : aq_T 251 620 = some (aq_if ai_eq0 625 623) := rfl
theorem i_L_law_623 : aq_T 251 623 = some (aq_push (.int (0)) 624) := rfl
theorem i_L_law_624 : aq_T 251 624 = some (aq_ret 5) := rfl
theorem i_L_law_625 : aq_T 251 625 = some (aq_go 2846) := rfl
theorem i_L_law_628 : aq_T 251 628 = some (aq_ld 4 1 629) := rfl
theorem i_L_law_629 : aq_T 251 629 = some (aq_ld 4 0 630) := rfl
theorem i_L_law_630 : aq_T 251 630 = some (aq_ld 0 4 632) := rfl
theorem i_L_law_632 : aq_T 251 632 = some (aq_push (.int (1)) 633) := rfl
theorem i_L_law_633 : aq_T 251 633 = some (aq_ar af_iadd 634) := rfl
theorem i_L_law_634 : aq_T 251 634 = some (aq_ldi 0 635) := rfl
theorem i_L_law_635 : aq_T 251 635 = some (aq_ld 4 0 636) := rfl
theorem i_L_law_636 : aq_T 251 636 = some (aq_ld 0 4 638) := rfl
theorem i_L_law_638 : aq_T 251 638 = some (aq_push (.int (2)) 639) := rfl
theorem i_L_law_639 : aq_T 251 639 = some (aq_ar af_iadd 640) := rfl
theorem i_L_law_640 : aq_T 251 640 = some (aq_ldi 0 641) := rfl
theorem i_L_law_641 : aq_T 251 641 = some (aq_ld 4 0 642) := rfl
theorem i_L_law_642 : aq_T 251 642 = some (aq_ld 0 4 644) := rfl
theorem i_L_law_644 : aq_T 251 644 = some (aq_push (.int (3)) 645) := rfl
theorem i_L_law_645 : aq_T 251 645 = some (aq_ar af_iadd 646) := rfl
theorem i_L_law_646 : aq_T 251 646 = some (aq_ldi 0 647) := rfl
theorem i_L_law_647 : aq_T 251 647 = some (aq_ld 4 3 648) := rfl
theorem i_L_law_648 : aq_T 251 648 = some (aq_call 219 5 none 651) := rfl
theorem i_L_law_651 : aq_T 251 651 = some (aq_st 0 5 653) := rfl
theorem i_L_law_653 : aq_T 251 653 = some (aq_ld 4 2 654) := rfl
theorem i_L_law_654 : aq_T 251 654 = some (aq_ld 4 0 655) := rfl
theorem i_L_law_655 : aq_T 251 655 = some (aq_ld 0 4 657) := rfl
theorem i_L_law_657 : aq_T 251 657 = some (aq_push (.int (1)) 658) := rfl
theorem i_L_law_658 : aq_T 251 658 = some (aq_ar af_iadd 659) := rfl
theorem i_L_law_659 : aq_T 251 659 = some (aq_ldi 0 660) := rfl
theorem i_L_law_660 : aq_T 251 660 = some (aq_ld 4 0 661) := rfl
theorem i_L_law_661 : aq_T 251 661 = some (aq_ld 0 4 663) := rfl
theorem i_L_law_663 : aq_T 251 663 = some (aq_push (.int (2)) 664) := rfl
theorem i_L_law_664 : aq_T 251 664 = some (aq_ar af_iadd 665) := rfl
theorem i_L_law_665 : aq_T 251 665 = some (aq_ldi 0 666) := rfl
theorem i_L_law_666 : aq_T 251 666 = some (aq_ld 4 0 667) := rfl
theorem i_L_law_667 : aq_T 251 667 = some (aq_ld 0 4 669) := rfl
theorem i_L_law_669 : aq_T 251 669 = some (aq_push (.int (3)) 670) := rfl
theorem i_L_law_670 : aq_T 251 670 = some (aq_ar af_iadd 671) := rfl
theorem i_L_law_671 : aq_T 251 671 = some (aq_ldi 0 672) := rfl
theorem i_L_law_672 : aq_T 251 672 = some (aq_call 144 4 (some 7) 675) := rfl
theorem i_L_law_675 : aq_T 251 675 = some (aq_st 0 6 677) := rfl
theorem i_L_law_677 : aq_T 251 677 = some (aq_ld 4 2 678) := rfl
theorem i_L_law_678 : aq_T 251 678 = some (aq_call 126 1 (some 7) 681) := rfl
theorem i_L_law_681 : aq_T 251 681 = some (aq_ld 0 5 683) := rfl
theorem i_L_law_683 : aq_T 251 683 = some (aq_if ai_eq 688 686) := rfl
theorem i_L_law_686 : aq_T 251 686 = some (aq_push (.int (0)) 687) := rfl
theorem i_L_law_687 : aq_T 251 687 = some (aq_ret 5) := rfl
theorem i_L_law_688 : aq_T 251 688 = some (aq_ld 0 5 690) := rfl
theorem i_L_law_690 : aq_T 251 690 = some (aq_if ai_ne0 705 693) := rfl
theorem i_L_law_693 : aq_T 251 693 = some (aq_ld 4 3 694) := rfl
theorem i_L_law_694 : aq_T 251 694 = some (aq_push (.int (0)) 695) := rfl
theorem i_L_law_695 : aq_T 251 695 = some (aq_ldl 696) := rfl
theorem i_L_law_696 : aq_T 251 696 = some (aq_ld 0 6 698) := rfl
theorem i_L_law_698 : aq_T 251 698 = some (aq_ar af_i2l 699) := rfl
theorem i_L_law_699 : aq_T 251 699 = some (aq_ar af_lcmp 700) := rfl
theorem i_L_law_700 : aq_T 251 700 = some (aq_if ai_eq0 705 703) := rfl
theorem i_L_law_703 : aq_T 251 703 = some (aq_push (.int (0)) 704) := rfl
theorem i_L_law_704 : aq_T 251 704 = some (aq_ret 5) := rfl
theorem i_L_law_705 : aq_T 251 705 = some (aq_go 2846) := rfl
theorem i_L_law_708 : aq_T 251 708 = some (aq_ld 4 1 709) := rfl
theorem i_L_law_709 : aq_T 251 709 = some (aq_ld 4 0 710) := rfl
theorem i_L_law_710 : aq_T 251 710 = some (aq_ld 0 4 712) := rfl
theorem i_L_law_712 : aq_T 251 712 = some (aq_push (.int (1)) 713) := rfl
theorem i_L_law_713 : aq_T 251 713 = some (aq_ar af_iadd 714) := rfl
theorem i_L_law_714 : aq_T 251 714 = some (aq_ldi 0 715) := rfl
theorem i_L_law_715 : aq_T 251 715 = some (aq_ld 4 3 716) := rfl
theorem i_L_law_716 : aq_T 251 716 = some (aq_call 220 3 none 719) := rfl
theorem i_L_law_719 : aq_T 251 719 = some (aq_st 0 5 721) := rfl
theorem i_L_law_721 : aq_T 251 721 = some (aq_ld 4 2 722) := rfl
theorem i_L_law_722 : aq_T 251 722 = some (aq_ld 4 0 723) := rfl
theorem i_L_law_723 : aq_T 251 723 = some (aq_ld 0 4 725) := rfl
theorem i_L_law_725 : aq_T 251 725 = some (aq_push (.int (1)) 726) := rfl
theorem i_L_law_726 : aq_T 251 726 = some (aq_ar af_iadd 727) := rfl
theorem i_L_law_727 : aq_T 251 727 = some (aq_ldi 0 728) := rfl
theorem i_L_law_728 : aq_T 251 728 = some (aq_call 145 2 (some 7) 731) := rfl
theorem i_L_law_731 : aq_T 251 731 = some (aq_st 0 6 733) := rfl
theorem i_L_law_733 : aq_T 251 733 = some (aq_ld 4 2 734) := rfl
theorem i_L_law_734 : aq_T 251 734 = some (aq_call 126 1 (some 7) 737) := rfl
theorem i_L_law_737 : aq_T 251 737 = some (aq_ld 0 5 739) := rfl
theorem i_L_law_739 : aq_T 251 739 = some (aq_if ai_eq 744 742) := rfl
theorem i_L_law_742 : aq_T 251 742 = some (aq_push (.int (0)) 743) := rfl
theorem i_L_law_743 : aq_T 251 743 = some (aq_ret 5) := rfl
theorem i_L_law_744 : aq_T 251 744 = some (aq_ld 0 5 746) := rfl
theorem i_L_law_746 : aq_T 251 746 = some (aq_if ai_ne0 761 749) := rfl
theorem i_L_law_749 : aq_T 251 749 = some (aq_ld 4 3 750) := rfl
theorem i_L_law_750 : aq_T 251 750 = some (aq_push (.int (0)) 751) := rfl
theorem i_L_law_751 : aq_T 251 751 = some (aq_ldl 752) := rfl
theorem i_L_law_752 : aq_T 251 752 = some (aq_ld 0 6 754) := rfl
theorem i_L_law_754 : aq_T 251 754 = some (aq_ar af_i2l 755) := rfl
theorem i_L_law_755 : aq_T 251 755 = some (aq_ar af_lcmp 756) := rfl
theorem i_L_law_756 : aq_T 251 756 = some (aq_if ai_eq0 761 759) := rfl
theorem i_L_law_759 : aq_T 251 759 = some (aq_push (.int (0)) 760) := rfl
theorem i_L_law_760 : aq_T 251 760 = some (aq_ret 5) := rfl
theorem i_L_law_761 : aq_T 251 761 = some (aq_go 2846) := rfl
theorem i_L_law_764 : aq_T 251 764 = some (aq_ld 4 1 765) := rfl
theorem i_L_law_765 : aq_T 251 765 = some (aq_ld 4 0 766) := rfl
theorem i_L_law_766 : aq_T 251 766 = some (aq_ld 0 4 768) := rfl
theorem i_L_law_768 : aq_T 251 768 = some (aq_push (.int (1)) 769) := rfl
theorem i_L_law_769 : aq_T 251 769 = some (aq_ar af_iadd 770) := rfl
theorem i_L_law_770 : aq_T 251 770 = some (aq_ldi 0 771) := rfl
theorem i_L_law_771 : aq_T 251 771 = some (aq_ld 4 0 772) := rfl
theorem i_L_law_772 : aq_T 251 772 = some (aq_ld 0 4 774) := rfl
theorem i_L_law_774 : aq_T 251 774 = some (aq_push (.int (2)) 775) := rfl
theorem i_L_law_775 : aq_T 251 775 = some (aq_ar af_iadd 776) := rfl
theorem i_L_law_776 : aq_T 251 776 = some (aq_ldi 0 777) := rfl
theorem i_L_law_777 : aq_T 251 777 = some (aq_ld 4 3 778) := rfl
theorem i_L_law_778 : aq_T 251 778 = some (aq_call 221 4 none 781) := rfl
theorem i_L_law_781 : aq_T 251 781 = some (aq_st 0 5 783) := rfl
theorem i_L_law_783 : aq_T 251 783 = some (aq_ld 4 2 784) := rfl
theorem i_L_law_784 : aq_T 251 784 = some (aq_ld 4 0 785) := rfl
theorem i_L_law_785 : aq_T 251 785 = some (aq_ld 0 4 787) := rfl
theorem i_L_law_787 : aq_T 251 787 = some (aq_push (.int (1)) 788) := rfl
theorem i_L_law_788 : aq_T 251 788 = some (aq_ar af_iadd 789) := rfl
theorem i_L_law_789 : aq_T 251 789 = some (aq_ldi 0 790) := rfl
theorem i_L_law_790 : aq_T 251 790 = some (aq_ld 4 0 791) := rfl
theorem i_L_law_791 : aq_T 251 791 = some (aq_ld 0 4 793) := rfl
theorem i_L_law_793 : aq_T 251 793 = some (aq_push (.int (2)) 794) := rfl
theorem i_L_law_794 : aq_T 251 794 = some (aq_ar af_iadd 795) := rfl
theorem i_L_law_795 : aq_T 251 795 = some (aq_ldi 0 796) := rfl
theorem i_L_law_796 : aq_T 251 796 = some (aq_call 146 3 (some 7) 799) := rfl
theorem i_L_law_799 : aq_T 251 799 = some (aq_st 0 6 801) := rfl
theorem i_L_law_801 : aq_T 251 801 = some (aq_ld 4 2 802) := rfl
theorem i_L_law_802 : aq_T 251 802 = some (aq_call 126 1 (some 7) 805) := rfl
theorem i_L_law_805 : aq_T 251 805 = some (aq_ld 0 5 807) := rfl
theorem i_L_law_807 : aq_T 251 807 = some (aq_if ai_eq 812 810) := rfl
theorem i_L_law_810 : aq_T 251 810 = some (aq_push (.int (0)) 811) := rfl
theorem i_L_law_811 : aq_T 251 811 = some (aq_ret 5) := rfl
theorem i_L_law_812 : aq_T 251 812 = some (aq_ld 0 5 814) := rfl
theorem i_L_law_814 : aq_T 251 814 = some (aq_if ai_ne0 829 817) := rfl
theorem i_L_law_817 : aq_T 251 817 = some (aq_ld 4 3 818) := rfl
theorem i_L_law_818 : aq_T 251 818 = some (aq_push (.int (0)) 819) := rfl
theorem i_L_law_819 : aq_T 251 819 = some (aq_ldl 820) := rfl
theorem i_L_law_820 : aq_T 251 820 = some (aq_ld 0 6 822) := rfl
theorem i_L_law_822 : aq_T 251 822 = some (aq_ar af_i2l 823) := rfl
theorem i_L_law_823 : aq_T 251 823 = some (aq_ar af_lcmp 824) := rfl
theorem i_L_law_824 : aq_T 251 824 = some (aq_if ai_eq0 829 827) := rfl
theorem i_L_law_827 : aq_T 251 827 = some (aq_push (.int (0)) 828) := rfl
theorem i_L_law_828 : aq_T 251 828 = some (aq_ret 5) := rfl
theorem i_L_law_829 : aq_T 251 829 = some (aq_go 2846) := rfl
theorem i_L_law_832 : aq_T 251 832 = some (aq_ld 4 1 833) := rfl
theorem i_L_law_833 : aq_T 251 833 = some (aq_ld 4 0 834) := rfl
theorem i_L_law_834 : aq_T 251 834 = some (aq_ld 0 4 836) := rfl
theorem i_L_law_836 : aq_T 251 836 = some (aq_push (.int (1)) 837) := rfl
theorem i_L_law_837 : aq_T 251 837 = some (aq_ar af_iadd 838) := rfl
theorem i_L_law_838 : aq_T 251 838 = some (aq_ldi 0 839) := rfl
theorem i_L_law_839 : aq_T 251 839 = some (aq_ld 4 3 840) := rfl
theorem i_L_law_840 : aq_T 251 840 = some (aq_call 222 3 none 843) := rfl
theorem i_L_law_843 : aq_T 251 843 = some (aq_st 0 5 845) := rfl
theorem i_L_law_845 : aq_T 251 845 = some (aq_ld 4 2 846) := rfl
theorem i_L_law_846 : aq_T 251 846 = some (aq_ld 4 0 847) := rfl
theorem i_L_law_847 : aq_T 251 847 = some (aq_ld 0 4 849) := rfl
theorem i_L_law_849 : aq_T 251 849 = some (aq_push (.int (1)) 850) := rfl
theorem i_L_law_850 : aq_T 251 850 = some (aq_ar af_iadd 851) := rfl
theorem i_L_law_851 : aq_T 251 851 = some (aq_ldi 0 852) := rfl
theorem i_L_law_852 : aq_T 251 852 = some (aq_call 148 2 (some 7) 855) := rfl
theorem i_L_law_855 : aq_T 251 855 = some (aq_st 0 6 857) := rfl
theorem i_L_law_857 : aq_T 251 857 = some (aq_ld 4 2 858) := rfl
theorem i_L_law_858 : aq_T 251 858 = some (aq_call 126 1 (some 7) 861) := rfl
theorem i_L_law_861 : aq_T 251 861 = some (aq_ld 0 5 863) := rfl
theorem i_L_law_863 : aq_T 251 863 = some (aq_if ai_eq 868 866) := rfl
theorem i_L_law_866 : aq_T 251 866 = some (aq_push (.int (0)) 867) := rfl
theorem i_L_law_867 : aq_T 251 867 = some (aq_ret 5) := rfl
theorem i_L_law_868 : aq_T 251 868 = some (aq_ld 0 5 870) := rfl
theorem i_L_law_870 : aq_T 251 870 = some (aq_if ai_ne0 892 873) := rfl
theorem i_L_law_873 : aq_T 251 873 = some (aq_ld 4 3 874) := rfl
theorem i_L_law_874 : aq_T 251 874 = some (aq_push (.int (0)) 875) := rfl
theorem i_L_law_875 : aq_T 251 875 = some (aq_ldl 876) := rfl
theorem i_L_law_876 : aq_T 251 876 = some (aq_ld 0 6 878) := rfl
theorem i_L_law_878 : aq_T 251 878 = some (aq_if ai_eq0 885 881) := rfl
theorem i_L_law_881 : aq_T 251 881 = some (aq_push (.long 1) 882) := rfl
theorem i_L_law_882 : aq_T 251 882 = some (aq_go 886) := rfl
theorem i_L_law_885 : aq_T 251 885 = some (aq_push (.long 0) 886) := rfl
theorem i_L_law_886 : aq_T 251 886 = some (aq_ar af_lcmp 887) := rfl
theorem i_L_law_887 : aq_T 251 887 = some (aq_if ai_eq0 892 890) := rfl
theorem i_L_law_890 : aq_T 251 890 = some (aq_push (.int (0)) 891) := rfl
theorem i_L_law_891 : aq_T 251 891 = some (aq_ret 5) := rfl
theorem i_L_law_892 : aq_T 251 892 = some (aq_go 2846) := rfl
theorem i_L_law_895 : aq_T 251 895 = some (aq_ld 4 1 896) := rfl
theorem i_L_law_896 : aq_T 251 896 = some (aq_ld 4 0 897) := rfl
theorem i_L_law_897 : aq_T 251 897 = some (aq_ld 0 4 899) := rfl
theorem i_L_law_899 : aq_T 251 899 = some (aq_push (.int (1)) 900) := rfl
theorem i_L_law_900 : aq_T 251 900 = some (aq_ar af_iadd 901) := rfl
theorem i_L_law_901 : aq_T 251 901 = some (aq_ldi 0 902) := rfl
theorem i_L_law_902 : aq_T 251 902 = some (aq_ld 4 0 903) := rfl
theorem i_L_law_903 : aq_T 251 903 = some (aq_ld 0 4 905) := rfl
theorem i_L_law_905 : aq_T 251 905 = some (aq_push (.int (2)) 906) := rfl
theorem i_L_law_906 : aq_T 251 906 = some (aq_ar af_iadd 907) := rfl
theorem i_L_law_907 : aq_T 251 907 = some (aq_ldi 0 908) := rfl
theorem i_L_law_908 : aq_T 251 908 = some (aq_ld 4 3 909) := rfl
theorem i_L_law_909 : aq_T 251 909 = some (aq_call 223 4 none 912) := rfl
theorem i_L_law_912 : aq_T 251 912 = some (aq_st 0 5 914) := rfl
theorem i_L_law_914 : aq_T 251 914 = some (aq_ld 4 2 915) := rfl
theorem i_L_law_915 : aq_T 251 915 = some (aq_ld 4 0 916) := rfl
theorem i_L_law_916 : aq_T 251 916 = some (aq_ld 0 4 918) := rfl
theorem i_L_law_918 : aq_T 251 918 = some (aq_push (.int (1)) 919) := rfl
theorem i_L_law_919 : aq_T 251 919 = some (aq_ar af_iadd 920) := rfl
theorem i_L_law_920 : aq_T 251 920 = some (aq_ldi 0 921) := rfl
theorem i_L_law_921 : aq_T 251 921 = some (aq_ld 4 0 922) := rfl
theorem i_L_law_922 : aq_T 251 922 = some (aq_ld 0 4 924) := rfl
theorem i_L_law_924 : aq_T 251 924 = some (aq_push (.int (2)) 925) := rfl
theorem i_L_law_925 : aq_T 251 925 = some (aq_ar af_iadd 926) := rfl
theorem i_L_law_926 : aq_T 251 926 = some (aq_ldi 0 927) := rfl
theorem i_L_law_927 : aq_T 251 927 = some (aq_call 149 3 (some 7) 930) := rfl
theorem i_L_law_930 : aq_T 251 930 = some (aq_st 0 6 932) := rfl
theorem i_L_law_932 : aq_T 251 932 = some (aq_ld 4 2 933) := rfl
theorem i_L_law_933 : aq_T 251 933 = some (aq_call 126 1 (some 7) 936) := rfl
theorem i_L_law_936 : aq_T 251 936 = some (aq_ld 0 5 938) := rfl
theorem i_L_law_938 : aq_T 251 938 = some (aq_if ai_eq 943 941) := rfl
theorem i_L_law_941 : aq_T 251 941 = some (aq_push (.int (0)) 942) := rfl
theorem i_L_law_942 : aq_T 251 942 = some (aq_ret 5) := rfl
theorem i_L_law_943 : aq_T 251 943 = some (aq_ld 0 5 945) := rfl
theorem i_L_law_945 : aq_T 251 945 = some (aq_if ai_ne0 967 948) := rfl
theorem i_L_law_948 : aq_T 251 948 = some (aq_ld 4 3 949) := rfl
theorem i_L_law_949 : aq_T 251 949 = some (aq_push (.int (0)) 950) := rfl
theorem i_L_law_950 : aq_T 251 950 = some (aq_ldl 951) := rfl
theorem i_L_law_951 : aq_T 251 951 = some (aq_ld 0 6 953) := rfl
theorem i_L_law_953 : aq_T 251 953 = some (aq_if ai_eq0 960 956) := rfl
theorem i_L_law_956 : aq_T 251 956 = some (aq_push (.long 1) 957) := rfl
theorem i_L_law_957 : aq_T 251 957 = some (aq_go 961) := rfl
theorem i_L_law_960 : aq_T 251 960 = some (aq_push (.long 0) 961) := rfl
theorem i_L_law_961 : aq_T 251 961 = some (aq_ar af_lcmp 962) := rfl
theorem i_L_law_962 : aq_T 251 962 = some (aq_if ai_eq0 967 965) := rfl
theorem i_L_law_965 : aq_T 251 965 = some (aq_push (.int (0)) 966) := rfl
theorem i_L_law_966 : aq_T 251 966 = some (aq_ret 5) := rfl
theorem i_L_law_967 : aq_T 251 967 = some (aq_go 2846) := rfl
theorem i_L_law_970 : aq_T 251 970 = some (aq_ld 4 1 971) := rfl
theorem i_L_law_971 : aq_T 251 971 = some (aq_ld 4 0 972) := rfl
theorem i_L_law_972 : aq_T 251 972 = some (aq_ld 0 4 974) := rfl
theorem i_L_law_974 : aq_T 251 974 = some (aq_push (.int (1)) 975) := rfl
theorem i_L_law_975 : aq_T 251 975 = some (aq_ar af_iadd 976) := rfl
theorem i_L_law_976 : aq_T 251 976 = some (aq_ldi 0 977) := rfl
theorem i_L_law_977 : aq_T 251 977 = some (aq_ld 4 3 978) := rfl
theorem i_L_law_978 : aq_T 251 978 = some (aq_call 224 3 none 981) := rfl
theorem i_L_law_981 : aq_T 251 981 = some (aq_st 0 5 983) := rfl
theorem i_L_law_983 : aq_T 251 983 = some (aq_ld 4 2 984) := rfl
theorem i_L_law_984 : aq_T 251 984 = some (aq_ld 4 0 985) := rfl
theorem i_L_law_985 : aq_T 251 985 = some (aq_ld 0 4 987) := rfl
theorem i_L_law_987 : aq_T 251 987 = some (aq_push (.int (1)) 988) := rfl
theorem i_L_law_988 : aq_T 251 988 = some (aq_ar af_iadd 989) := rfl
theorem i_L_law_989 : aq_T 251 989 = some (aq_ldi 0 990) := rfl
theorem i_L_law_990 : aq_T 251 990 = some (aq_call 151 2 (some 7) 993) := rfl
theorem i_L_law_993 : aq_T 251 993 = some (aq_st 0 6 995) := rfl
theorem i_L_law_995 : aq_T 251 995 = some (aq_ld 4 2 996) := rfl
theorem i_L_law_996 : aq_T 251 996 = some (aq_call 126 1 (some 7) 999) := rfl
theorem i_L_law_999 : aq_T 251 999 = some (aq_ld 0 5 1001) := rfl
theorem i_L_law_1001 : aq_T 251 1001 = some (aq_if ai_eq 1006 1004) := rfl
theorem i_L_law_1004 : aq_T 251 1004 = some (aq_push (.int (0)) 1005) := rfl
theorem i_L_law_1005 : aq_T 251 1005 = some (aq_ret 5) := rfl
theorem i_L_law_1006 : aq_T 251 1006 = some (aq_ld 0 5 1008) := rfl
theorem i_L_law_1008 : aq_T 251 1008 = some (aq_if ai_ne0 1023 1011) := rfl
theorem i_L_law_1011 : aq_T 251 1011 = some (aq_ld 4 3 1012) := rfl
theorem i_L_law_1012 : aq_T 251 1012 = some (aq_push (.int (0)) 1013) := rfl
theorem i_L_law_1013 : aq_T 251 1013 = some (aq_ldl 1014) := rfl
theorem i_L_law_1014 : aq_T 251 1014 = some (aq_ld 0 6 1016) := rfl
theorem i_L_law_1016 : aq_T 251 1016 = some (aq_ar af_i2l 1017) := rfl
theorem i_L_law_1017 : aq_T 251 1017 = some (aq_ar af_lcmp 1018) := rfl
theorem i_L_law_1018 : aq_T 251 1018 = some (aq_if ai_eq0 1023 1021) := rfl
theorem i_L_law_1021 : aq_T 251 1021 = some (aq_push (.int (0)) 1022) := rfl
theorem i_L_law_1022 : aq_T 251 1022 = some (aq_ret 5) := rfl
theorem i_L_law_1023 : aq_T 251 1023 = some (aq_go 2846) := rfl
theorem i_L_law_1026 : aq_T 251 1026 = some (aq_ld 4 1 1027) := rfl
theorem i_L_law_1027 : aq_T 251 1027 = some (aq_ld 4 0 1028) := rfl
theorem i_L_law_1028 : aq_T 251 1028 = some (aq_ld 0 4 1030) := rfl
theorem i_L_law_1030 : aq_T 251 1030 = some (aq_push (.int (1)) 1031) := rfl
theorem i_L_law_1031 : aq_T 251 1031 = some (aq_ar af_iadd 1032) := rfl
theorem i_L_law_1032 : aq_T 251 1032 = some (aq_ldi 0 1033) := rfl
theorem i_L_law_1033 : aq_T 251 1033 = some (aq_ld 4 0 1034) := rfl
theorem i_L_law_1034 : aq_T 251 1034 = some (aq_ld 0 4 1036) := rfl
theorem i_L_law_1036 : aq_T 251 1036 = some (aq_push (.int (2)) 1037) := rfl
theorem i_L_law_1037 : aq_T 251 1037 = some (aq_ar af_iadd 1038) := rfl
theorem i_L_law_1038 : aq_T 251 1038 = some (aq_ldi 0 1039) := rfl
theorem i_L_law_1039 : aq_T 251 1039 = some (aq_ld 4 3 1040) := rfl
theorem i_L_law_1040 : aq_T 251 1040 = some (aq_call 225 4 none 1043) := rfl
theorem i_L_law_1043 : aq_T 251 1043 = some (aq_st 0 5 1045) := rfl
theorem i_L_law_1045 : aq_T 251 1045 = some (aq_ld 4 2 1046) := rfl
theorem i_L_law_1046 : aq_T 251 1046 = some (aq_ld 4 0 1047) := rfl
theorem i_L_law_1047 : aq_T 251 1047 = some (aq_ld 0 4 1049) := rfl
theorem i_L_law_1049 : aq_T 251 1049 = some (aq_push (.int (1)) 1050) := rfl
theorem i_L_law_1050 : aq_T 251 1050 = some (aq_ar af_iadd 1051) := rfl
theorem i_L_law_1051 : aq_T 251 1051 = some (aq_ldi 0 1052) := rfl
theorem i_L_law_1052 : aq_T 251 1052 = some (aq_ld 4 0 1053) := rfl
theorem i_L_law_1053 : aq_T 251 1053 = some (aq_ld 0 4 1055) := rfl
theorem i_L_law_1055 : aq_T 251 1055 = some (aq_push (.int (2)) 1056) := rfl
theorem i_L_law_1056 : aq_T 251 1056 = some (aq_ar af_iadd 1057) := rfl
theorem i_L_law_1057 : aq_T 251 1057 = some (aq_ldi 0 1058) := rfl
theorem i_L_law_1058 : aq_T 251 1058 = some (aq_call 155 3 (some 7) 1061) := rfl
theorem i_L_law_1061 : aq_T 251 1061 = some (aq_st 0 6 1063) := rfl
theorem i_L_law_1063 : aq_T 251 1063 = some (aq_ld 4 2 1064) := rfl
theorem i_L_law_1064 : aq_T 251 1064 = some (aq_call 126 1 (some 7) 1067) := rfl
theorem i_L_law_1067 : aq_T 251 1067 = some (aq_ld 0 5 1069) := rfl
theorem i_L_law_1069 : aq_T 251 1069 = some (aq_if ai_eq 1074 1072) := rfl
theorem i_L_law_1072 : aq_T 251 1072 = some (aq_push (.int (0)) 1073) := rfl
theorem i_L_law_1073 : aq_T 251 1073 = some (aq_ret 5) := rfl
theorem i_L_law_1074 : aq_T 251 1074 = some (aq_ld 0 5 1076) := rfl
theorem i_L_law_1076 : aq_T 251 1076 = some (aq_if ai_ne0 1098 1079) := rfl
theorem i_L_law_1079 : aq_T 251 1079 = some (aq_ld 4 3 1080) := rfl
theorem i_L_law_1080 : aq_T 251 1080 = some (aq_push (.int (0)) 1081) := rfl
theorem i_L_law_1081 : aq_T 251 1081 = some (aq_ldl 1082) := rfl
theorem i_L_law_1082 : aq_T 251 1082 = some (aq_ld 0 6 1084) := rfl
theorem i_L_law_1084 : aq_T 251 1084 = some (aq_if ai_eq0 1091 1087) := rfl
theorem i_L_law_1087 : aq_T 251 1087 = some (aq_push (.long 1) 1088) := rfl
theorem i_L_law_1088 : aq_T 251 1088 = some (aq_go 1092) := rfl
theorem i_L_law_1091 : aq_T 251 1091 = some (aq_push (.long 0) 1092) := rfl
theorem i_L_law_1092 : aq_T 251 1092 = some (aq_ar af_lcmp 1093) := rfl
theorem i_L_law_1093 : aq_T 251 1093 = some (aq_if ai_eq0 1098 1096) := rfl
theorem i_L_law_1096 : aq_T 251 1096 = some (aq_push (.int (0)) 1097) := rfl
theorem i_L_law_1097 : aq_T 251 1097 = some (aq_ret 5) := rfl
theorem i_L_law_1098 : aq_T 251 1098 = some (aq_go 2846) := rfl
theorem i_L_law_1101 : aq_T 251 1101 = some (aq_ld 4 1 1102) := rfl
theorem i_L_law_1102 : aq_T 251 1102 = some (aq_ld 4 0 1103) := rfl
theorem i_L_law_1103 : aq_T 251 1103 = some (aq_ld 0 4 1105) := rfl
theorem i_L_law_1105 : aq_T 251 1105 = some (aq_push (.int (1)) 1106) := rfl
theorem i_L_law_1106 : aq_T 251 1106 = some (aq_ar af_iadd 1107) := rfl
theorem i_L_law_1107 : aq_T 251 1107 = some (aq_ldi 0 1108) := rfl
theorem i_L_law_1108 : aq_T 251 1108 = some (aq_ld 4 0 1109) := rfl
theorem i_L_law_1109 : aq_T 251 1109 = some (aq_ld 0 4 1111) := rfl
theorem i_L_law_1111 : aq_T 251 1111 = some (aq_push (.int (2)) 1112) := rfl
theorem i_L_law_1112 : aq_T 251 1112 = some (aq_ar af_iadd 1113) := rfl
theorem i_L_law_1113 : aq_T 251 1113 = some (aq_ldi 0 1114) := rfl
theorem i_L_law_1114 : aq_T 251 1114 = some (aq_ld 4 3 1115) := rfl
theorem i_L_law_1115 : aq_T 251 1115 = some (aq_call 226 4 none 1118) := rfl
theorem i_L_law_1118 : aq_T 251 1118 = some (aq_st 0 5 1120) := rfl
theorem i_L_law_1120 : aq_T 251 1120 = some (aq_ld 4 2 1121) := rfl
theorem i_L_law_1121 : aq_T 251 1121 = some (aq_ld 4 0 1122) := rfl
theorem i_L_law_1122 : aq_T 251 1122 = some (aq_ld 0 4 1124) := rfl
theorem i_L_law_1124 : aq_T 251 1124 = some (aq_push (.int (1)) 1125) := rfl
theorem i_L_law_1125 : aq_T 251 1125 = some (aq_ar af_iadd 1126) := rfl
theorem i_L_law_1126 : aq_T 251 1126 = some (aq_ldi 0 1127) := rfl
theorem i_L_law_1127 : aq_T 251 1127 = some (aq_ld 4 0 1128) := rfl
theorem i_L_law_1128 : aq_T 251 1128 = some (aq_ld 0 4 1130) := rfl
theorem i_L_law_1130 : aq_T 251 1130 = some (aq_push (.int (2)) 1131) := rfl
theorem i_L_law_1131 : aq_T 251 1131 = some (aq_ar af_iadd 1132) := rfl
theorem i_L_law_1132 : aq_T 251 1132 = some (aq_ldi 0 1133) := rfl
theorem i_L_law_1133 : aq_T 251 1133 = some (aq_call 156 3 (some 7) 1136) := rfl
theorem i_L_law_1136 : aq_T 251 1136 = some (aq_st 0 6 1138) := rfl
theorem i_L_law_1138 : aq_T 251 1138 = some (aq_ld 4 2 1139) := rfl
theorem i_L_law_1139 : aq_T 251 1139 = some (aq_call 126 1 (some 7) 1142) := rfl
theorem i_L_law_1142 : aq_T 251 1142 = some (aq_ld 0 5 1144) := rfl
theorem i_L_law_1144 : aq_T 251 1144 = some (aq_if ai_eq 1149 1147) := rfl
theorem i_L_law_1147 : aq_T 251 1147 = some (aq_push (.int (0)) 1148) := rfl
theorem i_L_law_1148 : aq_T 251 1148 = some (aq_ret 5) := rfl
theorem i_L_law_1149 : aq_T 251 1149 = some (aq_ld 0 5 1151) := rfl
theorem i_L_law_1151 : aq_T 251 1151 = some (aq_if ai_ne0 1173 1154) := rfl
theorem i_L_law_1154 : aq_T 251 1154 = some (aq_ld 4 3 1155) := rfl
theorem i_L_law_1155 : aq_T 251 1155 = some (aq_push (.int (0)) 1156) := rfl
theorem i_L_law_1156 : aq_T 251 1156 = some (aq_ldl 1157) := rfl
theorem i_L_law_1157 : aq_T 251 1157 = some (aq_ld 0 6 1159) := rfl
theorem i_L_law_1159 : aq_T 251 1159 = some (aq_if ai_eq0 1166 1162) := rfl
theorem i_L_law_1162 : aq_T 251 1162 = some (aq_push (.long 1) 1163) := rfl
theorem i_L_law_1163 : aq_T 251 1163 = some (aq_go 1167) := rfl
theorem i_L_law_1166 : aq_T 251 1166 = some (aq_push (.long 0) 1167) := rfl
theorem i_L_law_1167 : aq_T 251 1167 = some (aq_ar af_lcmp 1168) := rfl
theorem i_L_law_1168 : aq_T 251 1168 = some (aq_if ai_eq0 1173 1171) := rfl
theorem i_L_law_1171 : aq_T 251 1171 = some (aq_push (.int (0)) 1172) := rfl
theorem i_L_law_1172 : aq_T 251 1172 = some (aq_ret 5) := rfl
theorem i_L_law_1173 : aq_T 251 1173 = some (aq_go 2846) := rfl
theorem i_L_law_1176 : aq_T 251 1176 = some (aq_ld 4 1 1177) := rfl
theorem i_L_law_1177 : aq_T 251 1177 = some (aq_ld 4 0 1178) := rfl
theorem i_L_law_1178 : aq_T 251 1178 = some (aq_ld 0 4 1180) := rfl
theorem i_L_law_1180 : aq_T 251 1180 = some (aq_push (.int (1)) 1181) := rfl
theorem i_L_law_1181 : aq_T 251 1181 = some (aq_ar af_iadd 1182) := rfl
theorem i_L_law_1182 : aq_T 251 1182 = some (aq_ldi 0 1183) := rfl
theorem i_L_law_1183 : aq_T 251 1183 = some (aq_ld 4 0 1184) := rfl
theorem i_L_law_1184 : aq_T 251 1184 = some (aq_ld 0 4 1186) := rfl
theorem i_L_law_1186 : aq_T 251 1186 = some (aq_push (.int (2)) 1187) := rfl
theorem i_L_law_1187 : aq_T 251 1187 = some (aq_ar af_iadd 1188) := rfl
theorem i_L_law_1188 : aq_T 251 1188 = some (aq_ldi 0 1189) := rfl
theorem i_L_law_1189 : aq_T 251 1189 = some (aq_ld 4 3 1190) := rfl
theorem i_L_law_1190 : aq_T 251 1190 = some (aq_call 227 4 none 1193) := rfl
theorem i_L_law_1193 : aq_T 251 1193 = some (aq_st 0 5 1195) := rfl
theorem i_L_law_1195 : aq_T 251 1195 = some (aq_ld 4 2 1196) := rfl
theorem i_L_law_1196 : aq_T 251 1196 = some (aq_ld 4 0 1197) := rfl
theorem i_L_law_1197 : aq_T 251 1197 = some (aq_ld 0 4 1199) := rfl
theorem i_L_law_1199 : aq_T 251 1199 = some (aq_push (.int (1)) 1200) := rfl
theorem i_L_law_1200 : aq_T 251 1200 = some (aq_ar af_iadd 1201) := rfl
theorem i_L_law_1201 : aq_T 251 1201 = some (aq_ldi 0 1202) := rfl
theorem i_L_law_1202 : aq_T 251 1202 = some (aq_ld 4 0 1203) := rfl
theorem i_L_law_1203 : aq_T 251 1203 = some (aq_ld 0 4 1205) := rfl
theorem i_L_law_1205 : aq_T 251 1205 = some (aq_push (.int (2)) 1206) := rfl
theorem i_L_law_1206 : aq_T 251 1206 = some (aq_ar af_iadd 1207) := rfl
theorem i_L_law_1207 : aq_T 251 1207 = some (aq_ldi 0 1208) := rfl
theorem i_L_law_1208 : aq_T 251 1208 = some (aq_call 157 3 (some 7) 1211) := rfl
theorem i_L_law_1211 : aq_T 251 1211 = some (aq_st 0 6 1213) := rfl
theorem i_L_law_1213 : aq_T 251 1213 = some (aq_ld 4 2 1214) := rfl
theorem i_L_law_1214 : aq_T 251 1214 = some (aq_call 126 1 (some 7) 1217) := rfl
theorem i_L_law_1217 : aq_T 251 1217 = some (aq_ld 0 5 1219) := rfl
theorem i_L_law_1219 : aq_T 251 1219 = some (aq_if ai_eq 1224 1222) := rfl
theorem i_L_law_1222 : aq_T 251 1222 = some (aq_push (.int (0)) 1223) := rfl
theorem i_L_law_1223 : aq_T 251 1223 = some (aq_ret 5) := rfl
theorem i_L_law_1224 : aq_T 251 1224 = some (aq_ld 0 5 1226) := rfl
theorem i_L_law_1226 : aq_T 251 1226 = some (aq_if ai_ne0 1241 1229) := rfl
theorem i_L_law_1229 : aq_T 251 1229 = some (aq_ld 4 3 1230) := rfl
theorem i_L_law_1230 : aq_T 251 1230 = some (aq_push (.int (0)) 1231) := rfl
theorem i_L_law_1231 : aq_T 251 1231 = some (aq_ldl 1232) := rfl
theorem i_L_law_1232 : aq_T 251 1232 = some (aq_ld 0 6 1234) := rfl
theorem i_L_law_1234 : aq_T 251 1234 = some (aq_ar af_i2l 1235) := rfl
theorem i_L_law_1235 : aq_T 251 1235 = some (aq_ar af_lcmp 1236) := rfl
theorem i_L_law_1236 : aq_T 251 1236 = some (aq_if ai_eq0 1241 1239) := rfl
theorem i_L_law_1239 : aq_T 251 1239 = some (aq_push (.int (0)) 1240) := rfl
theorem i_L_law_1240 : aq_T 251 1240 = some (aq_ret 5) := rfl
theorem i_L_law_1241 : aq_T 251 1241 = some (aq_go 2846) := rfl
theorem i_L_law_1244 : aq_T 251 1244 = some (aq_ld 4 1 1245) := rfl
theorem i_L_law_1245 : aq_T 251 1245 = some (aq_ld 4 0 1246) := rfl
theorem i_L_law_1246 : aq_T 251 1246 = some (aq_ld 0 4 1248) := rfl
theorem i_L_law_1248 : aq_T 251 1248 = some (aq_push (.int (1)) 1249) := rfl
theorem i_L_law_1249 : aq_T 251 1249 = some (aq_ar af_iadd 1250) := rfl
theorem i_L_law_1250 : aq_T 251 1250 = some (aq_ldi 0 1251) := rfl
theorem i_L_law_1251 : aq_T 251 1251 = some (aq_ld 4 0 1252) := rfl
theorem i_L_law_1252 : aq_T 251 1252 = some (aq_ld 0 4 1254) := rfl
theorem i_L_law_1254 : aq_T 251 1254 = some (aq_push (.int (2)) 1255) := rfl
theorem i_L_law_1255 : aq_T 251 1255 = some (aq_ar af_iadd 1256) := rfl
theorem i_L_law_1256 : aq_T 251 1256 = some (aq_ldi 0 1257) := rfl
theorem i_L_law_1257 : aq_T 251 1257 = some (aq_ld 4 0 1258) := rfl
theorem i_L_law_1258 : aq_T 251 1258 = some (aq_ld 0 4 1260) := rfl
theorem i_L_law_1260 : aq_T 251 1260 = some (aq_push (.int (3)) 1261) := rfl
theorem i_L_law_1261 : aq_T 251 1261 = some (aq_ar af_iadd 1262) := rfl
theorem i_L_law_1262 : aq_T 251 1262 = some (aq_ldi 0 1263) := rfl
theorem i_L_law_1263 : aq_T 251 1263 = some (aq_ld 4 3 1264) := rfl
theorem i_L_law_1264 : aq_T 251 1264 = some (aq_call 228 5 none 1267) := rfl
theorem i_L_law_1267 : aq_T 251 1267 = some (aq_st 0 5 1269) := rfl
theorem i_L_law_1269 : aq_T 251 1269 = some (aq_ld 4 2 1270) := rfl
theorem i_L_law_1270 : aq_T 251 1270 = some (aq_ld 4 0 1271) := rfl
theorem i_L_law_1271 : aq_T 251 1271 = some (aq_ld 0 4 1273) := rfl
theorem i_L_law_1273 : aq_T 251 1273 = some (aq_push (.int (1)) 1274) := rfl
theorem i_L_law_1274 : aq_T 251 1274 = some (aq_ar af_iadd 1275) := rfl
theorem i_L_law_1275 : aq_T 251 1275 = some (aq_ldi 0 1276) := rfl
theorem i_L_law_1276 : aq_T 251 1276 = some (aq_ld 4 0 1277) := rfl
theorem i_L_law_1277 : aq_T 251 1277 = some (aq_ld 0 4 1279) := rfl
theorem i_L_law_1279 : aq_T 251 1279 = some (aq_push (.int (2)) 1280) := rfl
theorem i_L_law_1280 : aq_T 251 1280 = some (aq_ar af_iadd 1281) := rfl
theorem i_L_law_1281 : aq_T 251 1281 = some (aq_ldi 0 1282) := rfl
theorem i_L_law_1282 : aq_T 251 1282 = some (aq_ld 4 0 1283) := rfl
theorem i_L_law_1283 : aq_T 251 1283 = some (aq_ld 0 4 1285) := rfl
theorem i_L_law_1285 : aq_T 251 1285 = some (aq_push (.int (3)) 1286) := rfl
theorem i_L_law_1286 : aq_T 251 1286 = some (aq_ar af_iadd 1287) := rfl
theorem i_L_law_1287 : aq_T 251 1287 = some (aq_ldi 0 1288) := rfl
theorem i_L_law_1288 : aq_T 251 1288 = some (aq_call 158 4 (some 7) 1291) := rfl
theorem i_L_law_1291 : aq_T 251 1291 = some (aq_st 0 6 1293) := rfl
theorem i_L_law_1293 : aq_T 251 1293 = some (aq_ld 4 2 1294) := rfl
theorem i_L_law_1294 : aq_T 251 1294 = some (aq_call 126 1 (some 7) 1297) := rfl
theorem i_L_law_1297 : aq_T 251 1297 = some (aq_ld 0 5 1299) := rfl
theorem i_L_law_1299 : aq_T 251 1299 = some (aq_if ai_eq 1304 1302) := rfl
theorem i_L_law_1302 : aq_T 251 1302 = some (aq_push (.int (0)) 1303) := rfl
theorem i_L_law_1303 : aq_T 251 1303 = some (aq_ret 5) := rfl
theorem i_L_law_1304 : aq_T 251 1304 = some (aq_ld 0 5 1306) := rfl
theorem i_L_law_1306 : aq_T 251 1306 = some (aq_if ai_ne0 1321 1309) := rfl
theorem i_L_law_1309 : aq_T 251 1309 = some (aq_ld 4 3 1310) := rfl
theorem i_L_law_1310 : aq_T 251 1310 = some (aq_push (.int (0)) 1311) := rfl
theorem i_L_law_1311 : aq_T 251 1311 = some (aq_ldl 1312) := rfl
theorem i_L_law_1312 : aq_T 251 1312 = some (aq_ld 0 6 1314) := rfl
theorem i_L_law_1314 : aq_T 251 1314 = some (aq_ar af_i2l 1315) := rfl
theorem i_L_law_1315 : aq_T 251 1315 = some (aq_ar af_lcmp 1316) := rfl
theorem i_L_law_1316 : aq_T 251 1316 = some (aq_if ai_eq0 1321 1319) := rfl
theorem i_L_law_1319 : aq_T 251 1319 = some (aq_push (.int (0)) 1320) := rfl
theorem i_L_law_1320 : aq_T 251 1320 = some (aq_ret 5) := rfl
theorem i_L_law_1321 : aq_T 251 1321 = some (aq_go 2846) := rfl
theorem i_L_law_1324 : aq_T 251 1324 = some (aq_ld 4 1 1325) := rfl
theorem i_L_law_1325 : aq_T 251 1325 = some (aq_ld 4 0 1326) := rfl
theorem i_L_law_1326 : aq_T 251 1326 = some (aq_ld 0 4 1328) := rfl
theorem i_L_law_1328 : aq_T 251 1328 = some (aq_push (.int (1)) 1329) := rfl
theorem i_L_law_1329 : aq_T 251 1329 = some (aq_ar af_iadd 1330) := rfl
theorem i_L_law_1330 : aq_T 251 1330 = some (aq_ldi 0 1331) := rfl
theorem i_L_law_1331 : aq_T 251 1331 = some (aq_ld 4 0 1332) := rfl
theorem i_L_law_1332 : aq_T 251 1332 = some (aq_ld 0 4 1334) := rfl
theorem i_L_law_1334 : aq_T 251 1334 = some (aq_push (.int (2)) 1335) := rfl
theorem i_L_law_1335 : aq_T 251 1335 = some (aq_ar af_iadd 1336) := rfl
theorem i_L_law_1336 : aq_T 251 1336 = some (aq_ldi 0 1337) := rfl
theorem i_L_law_1337 : aq_T 251 1337 = some (aq_ld 4 0 1338) := rfl
theorem i_L_law_1338 : aq_T 251 1338 = some (aq_ld 0 4 1340) := rfl
theorem i_L_law_1340 : aq_T 251 1340 = some (aq_push (.int (3)) 1341) := rfl
theorem i_L_law_1341 : aq_T 251 1341 = some (aq_ar af_iadd 1342) := rfl
theorem i_L_law_1342 : aq_T 251 1342 = some (aq_ldi 0 1343) := rfl
theorem i_L_law_1343 : aq_T 251 1343 = some (aq_if ai_eq0 1350 1346) := rfl
theorem i_L_law_1346 : aq_T 251 1346 = some (aq_push (.int (1)) 1347) := rfl
theorem i_L_law_1347 : aq_T 251 1347 = some (aq_go 1351) := rfl
theorem i_L_law_1350 : aq_T 251 1350 = some (aq_push (.int (0)) 1351) := rfl
theorem i_L_law_1351 : aq_T 251 1351 = some (aq_ld 4 3 1352) := rfl
theorem i_L_law_1352 : aq_T 251 1352 = some (aq_call 229 5 none 1355) := rfl
theorem i_L_law_1355 : aq_T 251 1355 = some (aq_st 0 5 1357) := rfl
theorem i_L_law_1357 : aq_T 251 1357 = some (aq_ld 4 2 1358) := rfl
theorem i_L_law_1358 : aq_T 251 1358 = some (aq_ld 4 0 1359) := rfl
theorem i_L_law_1359 : aq_T 251 1359 = some (aq_ld 0 4 1361) := rfl
theorem i_L_law_1361 : aq_T 251 1361 = some (aq_push (.int (1)) 1362) := rfl
theorem i_L_law_1362 : aq_T 251 1362 = some (aq_ar af_iadd 1363) := rfl
theorem i_L_law_1363 : aq_T 251 1363 = some (aq_ldi 0 1364) := rfl
theorem i_L_law_1364 : aq_T 251 1364 = some (aq_ld 4 0 1365) := rfl
theorem i_L_law_1365 : aq_T 251 1365 = some (aq_ld 0 4 1367) := rfl
theorem i_L_law_1367 : aq_T 251 1367 = some (aq_push (.int (2)) 1368) := rfl
theorem i_L_law_1368 : aq_T 251 1368 = some (aq_ar af_iadd 1369) := rfl
theorem i_L_law_1369 : aq_T 251 1369 = some (aq_ldi 0 1370) := rfl
theorem i_L_law_1370 : aq_T 251 1370 = some (aq_ld 4 0 1371) := rfl
theorem i_L_law_1371 : aq_T 251 1371 = some (aq_ld 0 4 1373) := rfl
theorem i_L_law_1373 : aq_T 251 1373 = some (aq_push (.int (3)) 1374) := rfl
theorem i_L_law_1374 : aq_T 251 1374 = some (aq_ar af_iadd 1375) := rfl
theorem i_L_law_1375 : aq_T 251 1375 = some (aq_ldi 0 1376) := rfl
theorem i_L_law_1376 : aq_T 251 1376 = some (aq_if ai_eq0 1383 1379) := rfl
theorem i_L_law_1379 : aq_T 251 1379 = some (aq_push (.int (1)) 1380) := rfl
theorem i_L_law_1380 : aq_T 251 1380 = some (aq_go 1384) := rfl
theorem i_L_law_1383 : aq_T 251 1383 = some (aq_push (.int (0)) 1384) := rfl
theorem i_L_law_1384 : aq_T 251 1384 = some (aq_call 160 4 (some 7) 1387) := rfl
theorem i_L_law_1387 : aq_T 251 1387 = some (aq_st 0 6 1389) := rfl
theorem i_L_law_1389 : aq_T 251 1389 = some (aq_ld 4 2 1390) := rfl
theorem i_L_law_1390 : aq_T 251 1390 = some (aq_call 126 1 (some 7) 1393) := rfl
theorem i_L_law_1393 : aq_T 251 1393 = some (aq_ld 0 5 1395) := rfl
theorem i_L_law_1395 : aq_T 251 1395 = some (aq_if ai_eq 1400 1398) := rfl
theorem i_L_law_1398 : aq_T 251 1398 = some (aq_push (.int (0)) 1399) := rfl
theorem i_L_law_1399 : aq_T 251 1399 = some (aq_ret 5) := rfl
theorem i_L_law_1400 : aq_T 251 1400 = some (aq_ld 0 5 1402) := rfl
theorem i_L_law_1402 : aq_T 251 1402 = some (aq_if ai_ne0 1424 1405) := rfl
theorem i_L_law_1405 : aq_T 251 1405 = some (aq_ld 4 3 1406) := rfl
theorem i_L_law_1406 : aq_T 251 1406 = some (aq_push (.int (0)) 1407) := rfl
theorem i_L_law_1407 : aq_T 251 1407 = some (aq_ldl 1408) := rfl
theorem i_L_law_1408 : aq_T 251 1408 = some (aq_ld 0 6 1410) := rfl
theorem i_L_law_1410 : aq_T 251 1410 = some (aq_if ai_eq0 1417 1413) := rfl
theorem i_L_law_1413 : aq_T 251 1413 = some (aq_push (.long 1) 1414) := rfl
theorem i_L_law_1414 : aq_T 251 1414 = some (aq_go 1418) := rfl
theorem i_L_law_1417 : aq_T 251 1417 = some (aq_push (.long 0) 1418) := rfl
theorem i_L_law_1418 : aq_T 251 1418 = some (aq_ar af_lcmp 1419) := rfl
theorem i_L_law_1419 : aq_T 251 1419 = some (aq_if ai_eq0 1424 1422) := rfl
theorem i_L_law_1422 : aq_T 251 1422 = some (aq_push (.int (0)) 1423) := rfl
theorem i_L_law_1423 : aq_T 251 1423 = some (aq_ret 5) := rfl
theorem i_L_law_1424 : aq_T 251 1424 = some (aq_go 2846) := rfl
theorem i_L_law_1427 : aq_T 251 1427 = some (aq_ld 4 1 1428) := rfl
theorem i_L_law_1428 : aq_T 251 1428 = some (aq_ld 4 0 1429) := rfl
theorem i_L_law_1429 : aq_T 251 1429 = some (aq_ld 0 4 1431) := rfl
theorem i_L_law_1431 : aq_T 251 1431 = some (aq_push (.int (1)) 1432) := rfl
theorem i_L_law_1432 : aq_T 251 1432 = some (aq_ar af_iadd 1433) := rfl
theorem i_L_law_1433 : aq_T 251 1433 = some (aq_ldi 0 1434) := rfl
theorem i_L_law_1434 : aq_T 251 1434 = some (aq_ld 4 0 1435) := rfl
theorem i_L_law_1435 : aq_T 251 1435 = some (aq_ld 0 4 1437) := rfl
theorem i_L_law_1437 : aq_T 251 1437 = some (aq_push (.int (2)) 1438) := rfl
theorem i_L_law_1438 : aq_T 251 1438 = some (aq_ar af_iadd 1439) := rfl
theorem i_L_law_1439 : aq_T 251 1439 = some (aq_ldi 0 1440) := rfl
theorem i_L_law_1440 : aq_T 251 1440 = some (aq_if ai_eq0 1447 1443) := rfl
theorem i_L_law_1443 : aq_T 251 1443 = some (aq_push (.int (1)) 1444) := rfl
theorem i_L_law_1444 : aq_T 251 1444 = some (aq_go 1448) := rfl
theorem i_L_law_1447 : aq_T 251 1447 = some (aq_push (.int (0)) 1448) := rfl
theorem i_L_law_1448 : aq_T 251 1448 = some (aq_ld 4 3 1449) := rfl
theorem i_L_law_1449 : aq_T 251 1449 = some (aq_call 230 4 none 1452) := rfl
theorem i_L_law_1452 : aq_T 251 1452 = some (aq_st 0 5 1454) := rfl
theorem i_L_law_1454 : aq_T 251 1454 = some (aq_ld 4 2 1455) := rfl
theorem i_L_law_1455 : aq_T 251 1455 = some (aq_ld 4 0 1456) := rfl
theorem i_L_law_1456 : aq_T 251 1456 = some (aq_ld 0 4 1458) := rfl
theorem i_L_law_1458 : aq_T 251 1458 = some (aq_push (.int (1)) 1459) := rfl
theorem i_L_law_1459 : aq_T 251 1459 = some (aq_ar af_iadd 1460) := rfl
theorem i_L_law_1460 : aq_T 251 1460 = some (aq_ldi 0 1461) := rfl
theorem i_L_law_1461 : aq_T 251 1461 = some (aq_ld 4 0 1462) := rfl
theorem i_L_law_1462 : aq_T 251 1462 = some (aq_ld 0 4 1464) := rfl
theorem i_L_law_1464 : aq_T 251 1464 = some (aq_push (.int (2)) 1465) := rfl
theorem i_L_law_1465 : aq_T 251 1465 = some (aq_ar af_iadd 1466) := rfl
theorem i_L_law_1466 : aq_T 251 1466 = some (aq_ldi 0 1467) := rfl
theorem i_L_law_1467 : aq_T 251 1467 = some (aq_if ai_eq0 1474 1470) := rfl
theorem i_L_law_1470 : aq_T 251 1470 = some (aq_push (.int (1)) 1471) := rfl
theorem i_L_law_1471 : aq_T 251 1471 = some (aq_go 1475) := rfl
theorem i_L_law_1474 : aq_T 251 1474 = some (aq_push (.int (0)) 1475) := rfl
theorem i_L_law_1475 : aq_T 251 1475 = some (aq_call 162 3 (some 7) 1478) := rfl
theorem i_L_law_1478 : aq_T 251 1478 = some (aq_st 0 6 1480) := rfl
theorem i_L_law_1480 : aq_T 251 1480 = some (aq_ld 4 2 1481) := rfl
theorem i_L_law_1481 : aq_T 251 1481 = some (aq_call 126 1 (some 7) 1484) := rfl
theorem i_L_law_1484 : aq_T 251 1484 = some (aq_ld 0 5 1486) := rfl
theorem i_L_law_1486 : aq_T 251 1486 = some (aq_if ai_eq 1491 1489) := rfl
theorem i_L_law_1489 : aq_T 251 1489 = some (aq_push (.int (0)) 1490) := rfl
theorem i_L_law_1490 : aq_T 251 1490 = some (aq_ret 5) := rfl
theorem i_L_law_1491 : aq_T 251 1491 = some (aq_ld 0 5 1493) := rfl
theorem i_L_law_1493 : aq_T 251 1493 = some (aq_if ai_ne0 1508 1496) := rfl
theorem i_L_law_1496 : aq_T 251 1496 = some (aq_ld 4 3 1497) := rfl
theorem i_L_law_1497 : aq_T 251 1497 = some (aq_push (.int (0)) 1498) := rfl
theorem i_L_law_1498 : aq_T 251 1498 = some (aq_ldl 1499) := rfl
theorem i_L_law_1499 : aq_T 251 1499 = some (aq_ld 0 6 1501) := rfl
theorem i_L_law_1501 : aq_T 251 1501 = some (aq_ar af_i2l 1502) := rfl
theorem i_L_law_1502 : aq_T 251 1502 = some (aq_ar af_lcmp 1503) := rfl
theorem i_L_law_1503 : aq_T 251 1503 = some (aq_if ai_eq0 1508 1506) := rfl
theorem i_L_law_1506 : aq_T 251 1506 = some (aq_push (.int (0)) 1507) := rfl
theorem i_L_law_1507 : aq_T 251 1507 = some (aq_ret 5) := rfl
theorem i_L_law_1508 : aq_T 251 1508 = some (aq_go 2846) := rfl
theorem i_L_law_1511 : aq_T 251 1511 = some (aq_ld 4 1 1512) := rfl
theorem i_L_law_1512 : aq_T 251 1512 = some (aq_ld 4 0 1513) := rfl
theorem i_L_law_1513 : aq_T 251 1513 = some (aq_ld 0 4 1515) := rfl
theorem i_L_law_1515 : aq_T 251 1515 = some (aq_push (.int (1)) 1516) := rfl
theorem i_L_law_1516 : aq_T 251 1516 = some (aq_ar af_iadd 1517) := rfl
theorem i_L_law_1517 : aq_T 251 1517 = some (aq_ldi 0 1518) := rfl
theorem i_L_law_1518 : aq_T 251 1518 = some (aq_ld 4 0 1519) := rfl
theorem i_L_law_1519 : aq_T 251 1519 = some (aq_ld 0 4 1521) := rfl
theorem i_L_law_1521 : aq_T 251 1521 = some (aq_push (.int (2)) 1522) := rfl
theorem i_L_law_1522 : aq_T 251 1522 = some (aq_ar af_iadd 1523) := rfl
theorem i_L_law_1523 : aq_T 251 1523 = some (aq_ldi 0 1524) := rfl
theorem i_L_law_1524 : aq_T 251 1524 = some (aq_ld 4 0 1525) := rfl
theorem i_L_law_1525 : aq_T 251 1525 = some (aq_ld 0 4 1527) := rfl
theorem i_L_law_1527 : aq_T 251 1527 = some (aq_push (.int (3)) 1528) := rfl
theorem i_L_law_1528 : aq_T 251 1528 = some (aq_ar af_iadd 1529) := rfl
theorem i_L_law_1529 : aq_T 251 1529 = some (aq_ldi 0 1530) := rfl
theorem i_L_law_1530 : aq_T 251 1530 = some (aq_ld 4 3 1531) := rfl
theorem i_L_law_1531 : aq_T 251 1531 = some (aq_call 231 5 none 1534) := rfl
theorem i_L_law_1534 : aq_T 251 1534 = some (aq_st 0 5 1536) := rfl
theorem i_L_law_1536 : aq_T 251 1536 = some (aq_ld 4 2 1537) := rfl
theorem i_L_law_1537 : aq_T 251 1537 = some (aq_ld 4 0 1538) := rfl
theorem i_L_law_1538 : aq_T 251 1538 = some (aq_ld 0 4 1540) := rfl
theorem i_L_law_1540 : aq_T 251 1540 = some (aq_push (.int (1)) 1541) := rfl
theorem i_L_law_1541 : aq_T 251 1541 = some (aq_ar af_iadd 1542) := rfl
theorem i_L_law_1542 : aq_T 251 1542 = some (aq_ldi 0 1543) := rfl
theorem i_L_law_1543 : aq_T 251 1543 = some (aq_ld 4 0 1544) := rfl
theorem i_L_law_1544 : aq_T 251 1544 = some (aq_ld 0 4 1546) := rfl
theorem i_L_law_1546 : aq_T 251 1546 = some (aq_push (.int (2)) 1547) := rfl
theorem i_L_law_1547 : aq_T 251 1547 = some (aq_ar af_iadd 1548) := rfl
theorem i_L_law_1548 : aq_T 251 1548 = some (aq_ldi 0 1549) := rfl
theorem i_L_law_1549 : aq_T 251 1549 = some (aq_ld 4 0 1550) := rfl
theorem i_L_law_1550 : aq_T 251 1550 = some (aq_ld 0 4 1552) := rfl
theorem i_L_law_1552 : aq_T 251 1552 = some (aq_push (.int (3)) 1553) := rfl
theorem i_L_law_1553 : aq_T 251 1553 = some (aq_ar af_iadd 1554) := rfl
theorem i_L_law_1554 : aq_T 251 1554 = some (aq_ldi 0 1555) := rfl
theorem i_L_law_1555 : aq_T 251 1555 = some (aq_call 163 4 (some 7) 1558) := rfl
theorem i_L_law_1558 : aq_T 251 1558 = some (aq_st 0 6 1560) := rfl
theorem i_L_law_1560 : aq_T 251 1560 = some (aq_ld 4 2 1561) := rfl
theorem i_L_law_1561 : aq_T 251 1561 = some (aq_call 126 1 (some 7) 1564) := rfl
theorem i_L_law_1564 : aq_T 251 1564 = some (aq_ld 0 5 1566) := rfl
theorem i_L_law_1566 : aq_T 251 1566 = some (aq_if ai_eq 1571 1569) := rfl
theorem i_L_law_1569 : aq_T 251 1569 = some (aq_push (.int (0)) 1570) := rfl
theorem i_L_law_1570 : aq_T 251 1570 = some (aq_ret 5) := rfl
theorem i_L_law_1571 : aq_T 251 1571 = some (aq_ld 0 5 1573) := rfl
theorem i_L_law_1573 : aq_T 251 1573 = some (aq_if ai_ne0 1588 1576) := rfl
theorem i_L_law_1576 : aq_T 251 1576 = some (aq_ld 4 3 1577) := rfl
theorem i_L_law_1577 : aq_T 251 1577 = some (aq_push (.int (0)) 1578) := rfl
theorem i_L_law_1578 : aq_T 251 1578 = some (aq_ldl 1579) := rfl
theorem i_L_law_1579 : aq_T 251 1579 = some (aq_ld 0 6 1581) := rfl
theorem i_L_law_1581 : aq_T 251 1581 = some (aq_ar af_i2l 1582) := rfl
theorem i_L_law_1582 : aq_T 251 1582 = some (aq_ar af_lcmp 1583) := rfl
theorem i_L_law_1583 : aq_T 251 1583 = some (aq_if ai_eq0 1588 1586) := rfl
theorem i_L_law_1586 : aq_T 251 1586 = some (aq_push (.int (0)) 1587) := rfl
theorem i_L_law_1587 : aq_T 251 1587 = some (aq_ret 5) := rfl
theorem i_L_law_1588 : aq_T 251 1588 = some (aq_go 2846) := rfl
theorem i_L_law_1591 : aq_T 251 1591 = some (aq_ld 4 1 1592) := rfl
theorem i_L_law_1592 : aq_T 251 1592 = some (aq_ld 4 0 1593) := rfl
theorem i_L_law_1593 : aq_T 251 1593 = some (aq_ld 0 4 1595) := rfl
theorem i_L_law_1595 : aq_T 251 1595 = some (aq_push (.int (1)) 1596) := rfl
theorem i_L_law_1596 : aq_T 251 1596 = some (aq_ar af_iadd 1597) := rfl
theorem i_L_law_1597 : aq_T 251 1597 = some (aq_ldi 0 1598) := rfl
theorem i_L_law_1598 : aq_T 251 1598 = some (aq_ld 4 3 1599) := rfl
theorem i_L_law_1599 : aq_T 251 1599 = some (aq_call 232 3 none 1602) := rfl
theorem i_L_law_1602 : aq_T 251 1602 = some (aq_st 0 5 1604) := rfl
theorem i_L_law_1604 : aq_T 251 1604 = some (aq_ld 4 2 1605) := rfl
theorem i_L_law_1605 : aq_T 251 1605 = some (aq_ld 4 0 1606) := rfl
theorem i_L_law_1606 : aq_T 251 1606 = some (aq_ld 0 4 1608) := rfl
theorem i_L_law_1608 : aq_T 251 1608 = some (aq_push (.int (1)) 1609) := rfl
theorem i_L_law_1609 : aq_T 251 1609 = some (aq_ar af_iadd 1610) := rfl
theorem i_L_law_1610 : aq_T 251 1610 = some (aq_ldi 0 1611) := rfl
theorem i_L_law_1611 : aq_T 251 1611 = some (aq_call 164 2 (some 7) 1614) := rfl
theorem i_L_law_1614 : aq_T 251 1614 = some (aq_st 0 6 1616) := rfl
theorem i_L_law_1616 : aq_T 251 1616 = some (aq_ld 4 2 1617) := rfl
theorem i_L_law_1617 : aq_T 251 1617 = some (aq_call 126 1 (some 7) 1620) := rfl
theorem i_L_law_1620 : aq_T 251 1620 = some (aq_ld 0 5 1622) := rfl
theorem i_L_law_1622 : aq_T 251 1622 = some (aq_if ai_eq 1627 1625) := rfl
theorem i_L_law_1625 : aq_T 251 1625 = some (aq_push (.int (0)) 1626) := rfl
theorem i_L_law_1626 : aq_T 251 1626 = some (aq_ret 5) := rfl
theorem i_L_law_1627 : aq_T 251 1627 = some (aq_ld 0 5 1629) := rfl
theorem i_L_law_1629 : aq_T 251 1629 = some (aq_if ai_ne0 1644 1632) := rfl
theorem i_L_law_1632 : aq_T 251 1632 = some (aq_ld 4 3 1633) := rfl
theorem i_L_law_1633 : aq_T 251 1633 = some (aq_push (.int (0)) 1634) := rfl
theorem i_L_law_1634 : aq_T 251 1634 = some (aq_ldl 1635) := rfl
theorem i_L_law_1635 : aq_T 251 1635 = some (aq_ld 0 6 1637) := rfl
theorem i_L_law_1637 : aq_T 251 1637 = some (aq_ar af_i2l 1638) := rfl
theorem i_L_law_1638 : aq_T 251 1638 = some (aq_ar af_lcmp 1639) := rfl
theorem i_L_law_1639 : aq_T 251 1639 = some (aq_if ai_eq0 1644 1642) := rfl
theorem i_L_law_1642 : aq_T 251 1642 = some (aq_push (.int (0)) 1643) := rfl
theorem i_L_law_1643 : aq_T 251 1643 = some (aq_ret 5) := rfl
theorem i_L_law_1644 : aq_T 251 1644 = some (aq_go 2846) := rfl
theorem i_L_law_1647 : aq_T 251 1647 = some (aq_ld 4 1 1648) := rfl
theorem i_L_law_1648 : aq_T 251 1648 = some (aq_ld 4 0 1649) := rfl
theorem i_L_law_1649 : aq_T 251 1649 = some (aq_ld 0 4 1651) := rfl
theorem i_L_law_1651 : aq_T 251 1651 = some (aq_push (.int (1)) 1652) := rfl
theorem i_L_law_1652 : aq_T 251 1652 = some (aq_ar af_iadd 1653) := rfl
theorem i_L_law_1653 : aq_T 251 1653 = some (aq_ldi 0 1654) := rfl
theorem i_L_law_1654 : aq_T 251 1654 = some (aq_ld 4 3 1655) := rfl
theorem i_L_law_1655 : aq_T 251 1655 = some (aq_call 233 3 none 1658) := rfl
theorem i_L_law_1658 : aq_T 251 1658 = some (aq_st 0 5 1660) := rfl
theorem i_L_law_1660 : aq_T 251 1660 = some (aq_ld 4 2 1661) := rfl
theorem i_L_law_1661 : aq_T 251 1661 = some (aq_ld 4 0 1662) := rfl
theorem i_L_law_1662 : aq_T 251 1662 = some (aq_ld 0 4 1664) := rfl
theorem i_L_law_1664 : aq_T 251 1664 = some (aq_push (.int (1)) 1665) := rfl
theorem i_L_law_1665 : aq_T 251 1665 = some (aq_ar af_iadd 1666) := rfl
theorem i_L_law_1666 : aq_T 251 1666 = some (aq_ldi 0 1667) := rfl
theorem i_L_law_1667 : aq_T 251 1667 = some (aq_call 166 2 (some 7) 1670) := rfl
theorem i_L_law_1670 : aq_T 251 1670 = some (aq_st 0 6 1672) := rfl
theorem i_L_law_1672 : aq_T 251 1672 = some (aq_ld 4 2 1673) := rfl
theorem i_L_law_1673 : aq_T 251 1673 = some (aq_call 126 1 (some 7) 1676) := rfl
theorem i_L_law_1676 : aq_T 251 1676 = some (aq_ld 0 5 1678) := rfl
theorem i_L_law_1678 : aq_T 251 1678 = some (aq_if ai_eq 1683 1681) := rfl
theorem i_L_law_1681 : aq_T 251 1681 = some (aq_push (.int (0)) 1682) := rfl
theorem i_L_law_1682 : aq_T 251 1682 = some (aq_ret 5) := rfl
theorem i_L_law_1683 : aq_T 251 1683 = some (aq_ld 0 5 1685) := rfl
theorem i_L_law_1685 : aq_T 251 1685 = some (aq_if ai_ne0 1707 1688) := rfl
theorem i_L_law_1688 : aq_T 251 1688 = some (aq_ld 4 3 1689) := rfl
theorem i_L_law_1689 : aq_T 251 1689 = some (aq_push (.int (0)) 1690) := rfl
theorem i_L_law_1690 : aq_T 251 1690 = some (aq_ldl 1691) := rfl
theorem i_L_law_1691 : aq_T 251 1691 = some (aq_ld 0 6 1693) := rfl
theorem i_L_law_1693 : aq_T 251 1693 = some (aq_if ai_eq0 1700 1696) := rfl
theorem i_L_law_1696 : aq_T 251 1696 = some (aq_push (.long 1) 1697) := rfl
theorem i_L_law_1697 : aq_T 251 1697 = some (aq_go 1701) := rfl
theorem i_L_law_1700 : aq_T 251 1700 = some (aq_push (.long 0) 1701) := rfl
theorem i_L_law_1701 : aq_T 251 1701 = some (aq_ar af_lcmp 1702) := rfl
theorem i_L_law_1702 : aq_T 251 1702 = some (aq_if ai_eq0 1707 1705) := rfl
theorem i_L_law_1705 : aq_T 251 1705 = some (aq_push (.int (0)) 1706) := rfl
theorem i_L_law_1706 : aq_T 251 1706 = some (aq_ret 5) := rfl
theorem i_L_law_1707 : aq_T 251 1707 = some (aq_go 2846) := rfl
theorem i_L_law_1710 : aq_T 251 1710 = some (aq_ld 4 1 1711) := rfl
theorem i_L_law_1711 : aq_T 251 1711 = some (aq_ld 4 0 1712) := rfl
theorem i_L_law_1712 : aq_T 251 1712 = some (aq_ld 0 4 1714) := rfl
theorem i_L_law_1714 : aq_T 251 1714 = some (aq_push (.int (1)) 1715) := rfl
theorem i_L_law_1715 : aq_T 251 1715 = some (aq_ar af_iadd 1716) := rfl
theorem i_L_law_1716 : aq_T 251 1716 = some (aq_ldi 0 1717) := rfl
theorem i_L_law_1717 : aq_T 251 1717 = some (aq_ld 4 3 1718) := rfl
theorem i_L_law_1718 : aq_T 251 1718 = some (aq_call 234 3 none 1721) := rfl
theorem i_L_law_1721 : aq_T 251 1721 = some (aq_st 0 5 1723) := rfl
theorem i_L_law_1723 : aq_T 251 1723 = some (aq_ld 4 2 1724) := rfl
theorem i_L_law_1724 : aq_T 251 1724 = some (aq_ld 4 0 1725) := rfl
theorem i_L_law_1725 : aq_T 251 1725 = some (aq_ld 0 4 1727) := rfl
theorem i_L_law_1727 : aq_T 251 1727 = some (aq_push (.int (1)) 1728) := rfl
theorem i_L_law_1728 : aq_T 251 1728 = some (aq_ar af_iadd 1729) := rfl
theorem i_L_law_1729 : aq_T 251 1729 = some (aq_ldi 0 1730) := rfl
theorem i_L_law_1730 : aq_T 251 1730 = some (aq_call 167 2 (some 7) 1733) := rfl
theorem i_L_law_1733 : aq_T 251 1733 = some (aq_st 0 6 1735) := rfl
theorem i_L_law_1735 : aq_T 251 1735 = some (aq_ld 4 2 1736) := rfl
theorem i_L_law_1736 : aq_T 251 1736 = some (aq_call 126 1 (some 7) 1739) := rfl
theorem i_L_law_1739 : aq_T 251 1739 = some (aq_ld 0 5 1741) := rfl
theorem i_L_law_1741 : aq_T 251 1741 = some (aq_if ai_eq 1746 1744) := rfl
theorem i_L_law_1744 : aq_T 251 1744 = some (aq_push (.int (0)) 1745) := rfl
theorem i_L_law_1745 : aq_T 251 1745 = some (aq_ret 5) := rfl
theorem i_L_law_1746 : aq_T 251 1746 = some (aq_ld 0 5 1748) := rfl
theorem i_L_law_1748 : aq_T 251 1748 = some (aq_if ai_ne0 1763 1751) := rfl
theorem i_L_law_1751 : aq_T 251 1751 = some (aq_ld 4 3 1752) := rfl
theorem i_L_law_1752 : aq_T 251 1752 = some (aq_push (.int (0)) 1753) := rfl
theorem i_L_law_1753 : aq_T 251 1753 = some (aq_ldl 1754) := rfl
theorem i_L_law_1754 : aq_T 251 1754 = some (aq_ld 0 6 1756) := rfl
theorem i_L_law_1756 : aq_T 251 1756 = some (aq_ar af_i2l 1757) := rfl
theorem i_L_law_1757 : aq_T 251 1757 = some (aq_ar af_lcmp 1758) := rfl
theorem i_L_law_1758 : aq_T 251 1758 = some (aq_if ai_eq0 1763 1761) := rfl
theorem i_L_law_1761 : aq_T 251 1761 = some (aq_push (.int (0)) 1762) := rfl
theorem i_L_law_1762 : aq_T 251 1762 = some (aq_ret 5) := rfl
theorem i_L_law_1763 : aq_T 251 1763 = some (aq_go 2846) := rfl
theorem i_L_law_1766 : aq_T 251 1766 = some (aq_ld 4 1 1767) := rfl
theorem i_L_law_1767 : aq_T 251 1767 = some (aq_ld 4 0 1768) := rfl
theorem i_L_law_1768 : aq_T 251 1768 = some (aq_ld 0 4 1770) := rfl
theorem i_L_law_1770 : aq_T 251 1770 = some (aq_push (.int (1)) 1771) := rfl
theorem i_L_law_1771 : aq_T 251 1771 = some (aq_ar af_iadd 1772) := rfl
theorem i_L_law_1772 : aq_T 251 1772 = some (aq_ldi 0 1773) := rfl
theorem i_L_law_1773 : aq_T 251 1773 = some (aq_ld 4 3 1774) := rfl
theorem i_L_law_1774 : aq_T 251 1774 = some (aq_call 235 3 none 1777) := rfl
theorem i_L_law_1777 : aq_T 251 1777 = some (aq_st 0 5 1779) := rfl
theorem i_L_law_1779 : aq_T 251 1779 = some (aq_ld 4 2 1780) := rfl
theorem i_L_law_1780 : aq_T 251 1780 = some (aq_ld 4 0 1781) := rfl
theorem i_L_law_1781 : aq_T 251 1781 = some (aq_ld 0 4 1783) := rfl
theorem i_L_law_1783 : aq_T 251 1783 = some (aq_push (.int (1)) 1784) := rfl
theorem i_L_law_1784 : aq_T 251 1784 = some (aq_ar af_iadd 1785) := rfl
theorem i_L_law_1785 : aq_T 251 1785 = some (aq_ldi 0 1786) := rfl
theorem i_L_law_1786 : aq_T 251 1786 = some (aq_call 170 2 (some 7) 1789) := rfl
theorem i_L_law_1789 : aq_T 251 1789 = some (aq_st 1 6 1791) := rfl
theorem i_L_law_1791 : aq_T 251 1791 = some (aq_ld 4 2 1792) := rfl
theorem i_L_law_1792 : aq_T 251 1792 = some (aq_call 126 1 (some 7) 1795) := rfl
theorem i_L_law_1795 : aq_T 251 1795 = some (aq_ld 0 5 1797) := rfl
theorem i_L_law_1797 : aq_T 251 1797 = some (aq_if ai_eq 1802 1800) := rfl
theorem i_L_law_1800 : aq_T 251 1800 = some (aq_push (.int (0)) 1801) := rfl
theorem i_L_law_1801 : aq_T 251 1801 = some (aq_ret 5) := rfl
theorem i_L_law_1802 : aq_T 251 1802 = some (aq_ld 0 5 1804) := rfl
theorem i_L_law_1804 : aq_T 251 1804 = some (aq_if ai_ne0 1818 1807) := rfl
theorem i_L_law_1807 : aq_T 251 1807 = some (aq_ld 4 3 1808) := rfl
theorem i_L_law_1808 : aq_T 251 1808 = some (aq_push (.int (0)) 1809) := rfl
theorem i_L_law_1809 : aq_T 251 1809 = some (aq_ldl 1810) := rfl
theorem i_L_law_1810 : aq_T 251 1810 = some (aq_ld 1 6 1812) := rfl
theorem i_L_law_1812 : aq_T 251 1812 = some (aq_ar af_lcmp 1813) := rfl
theorem i_L_law_1813 : aq_T 251 1813 = some (aq_if ai_eq0 1818 1816) := rfl
theorem i_L_law_1816 : aq_T 251 1816 = some (aq_push (.int (0)) 1817) := rfl
theorem i_L_law_1817 : aq_T 251 1817 = some (aq_ret 5) := rfl
theorem i_L_law_1818 : aq_T 251 1818 = some (aq_go 2846) := rfl
theorem i_L_law_1821 : aq_T 251 1821 = some (aq_ld 4 1 1822) := rfl
theorem i_L_law_1822 : aq_T 251 1822 = some (aq_ld 4 0 1823) := rfl
theorem i_L_law_1823 : aq_T 251 1823 = some (aq_ld 0 4 1825) := rfl
theorem i_L_law_1825 : aq_T 251 1825 = some (aq_push (.int (1)) 1826) := rfl
theorem i_L_law_1826 : aq_T 251 1826 = some (aq_ar af_iadd 1827) := rfl
theorem i_L_law_1827 : aq_T 251 1827 = some (aq_ldi 0 1828) := rfl
theorem i_L_law_1828 : aq_T 251 1828 = some (aq_ld 4 0 1829) := rfl
theorem i_L_law_1829 : aq_T 251 1829 = some (aq_ld 0 4 1831) := rfl
theorem i_L_law_1831 : aq_T 251 1831 = some (aq_push (.int (2)) 1832) := rfl
theorem i_L_law_1832 : aq_T 251 1832 = some (aq_ar af_iadd 1833) := rfl
theorem i_L_law_1833 : aq_T 251 1833 = some (aq_ldi 0 1834) := rfl
theorem i_L_law_1834 : aq_T 251 1834 = some (aq_ar af_i2l 1835) := rfl
theorem i_L_law_1835 : aq_T 251 1835 = some (aq_push (.int (32)) 1837) := rfl
theorem i_L_law_1837 : aq_T 251 1837 = some (aq_ar af_lshl 1838) := rfl
theorem i_L_law_1838 : aq_T 251 1838 = some (aq_ld 4 0 1839) := rfl
theorem i_L_law_1839 : aq_T 251 1839 = some (aq_ld 0 4 1841) := rfl
theorem i_L_law_1841 : aq_T 251 1841 = some (aq_push (.int (3)) 1842) := rfl
theorem i_L_law_1842 : aq_T 251 1842 = some (aq_ar af_iadd 1843) := rfl
theorem i_L_law_1843 : aq_T 251 1843 = some (aq_ldi 0 1844) := rfl
theorem i_L_law_1844 : aq_T 251 1844 = some (aq_ar af_i2l 1845) := rfl
theorem i_L_law_1845 : aq_T 251 1845 = some (aq_push (.long (4294967295)) 1848) := rfl
theorem i_L_law_1848 : aq_T 251 1848 = some (aq_ar af_land 1849) := rfl
theorem i_L_law_1849 : aq_T 251 1849 = some (aq_ar af_lor 1850) := rfl
theorem i_L_law_1850 : aq_T 251 1850 = some (aq_ld 4 0 1851) := rfl
theorem i_L_law_1851 : aq_T 251 1851 = some (aq_ld 0 4 1853) := rfl
theorem i_L_law_1853 : aq_T 251 1853 = some (aq_push (.int (4)) 1854) := rfl
theorem i_L_law_1854 : aq_T 251 1854 = some (aq_ar af_iadd 1855) := rfl
theorem i_L_law_1855 : aq_T 251 1855 = some (aq_ldi 0 1856) := rfl
theorem i_L_law_1856 : aq_T 251 1856 = some (aq_ld 4 3 1857) := rfl
theorem i_L_law_1857 : aq_T 251 1857 = some (aq_call 236 5 none 1860) := rfl
theorem i_L_law_1860 : aq_T 251 1860 = some (aq_st 0 5 1862) := rfl
theorem i_L_law_1862 : aq_T 251 1862 = some (aq_ld 4 2 1863) := rfl
theorem i_L_law_1863 : aq_T 251 1863 = some (aq_ld 4 0 1864) := rfl
theorem i_L_law_1864 : aq_T 251 1864 = some (aq_ld 0 4 1866) := rfl
theorem i_L_law_1866 : aq_T 251 1866 = some (aq_push (.int (1)) 1867) := rfl
theorem i_L_law_1867 : aq_T 251 1867 = some (aq_ar af_iadd 1868) := rfl
theorem i_L_law_1868 : aq_T 251 1868 = some (aq_ldi 0 1869) := rfl
theorem i_L_law_1869 : aq_T 251 1869 = some (aq_ld 4 0 1870) := rfl
theorem i_L_law_1870 : aq_T 251 1870 = some (aq_ld 0 4 1872) := rfl
theorem i_L_law_1872 : aq_T 251 1872 = some (aq_push (.int (2)) 1873) := rfl
theorem i_L_law_1873 : aq_T 251 1873 = some (aq_ar af_iadd 1874) := rfl
theorem i_L_law_1874 : aq_T 251 1874 = some (aq_ldi 0 1875) := rfl
theorem i_L_law_1875 : aq_T 251 1875 = some (aq_ar af_i2l 1876) := rfl
theorem i_L_law_1876 : aq_T 251 1876 = some (aq_push (.int (32)) 1878) := rfl
theorem i_L_law_1878 : aq_T 251 1878 = some (aq_ar af_lshl 1879) := rfl
theorem i_L_law_1879 : aq_T 251 1879 = some (aq_ld 4 0 1880) := rfl
theorem i_L_law_1880 : aq_T 251 1880 = some (aq_ld 0 4 1882) := rfl
theorem i_L_law_1882 : aq_T 251 1882 = some (aq_push (.int (3)) 1883) := rfl
theorem i_L_law_1883 : aq_T 251 1883 = some (aq_ar af_iadd 1884) := rfl
theorem i_L_law_1884 : aq_T 251 1884 = some (aq_ldi 0 1885) := rfl
theorem i_L_law_1885 : aq_T 251 1885 = some (aq_ar af_i2l 1886) := rfl
theorem i_L_law_1886 : aq_T 251 1886 = some (aq_push (.long (4294967295)) 1889) := rfl
theorem i_L_law_1889 : aq_T 251 1889 = some (aq_ar af_land 1890) := rfl
theorem i_L_law_1890 : aq_T 251 1890 = some (aq_ar af_lor 1891) := rfl
theorem i_L_law_1891 : aq_T 251 1891 = some (aq_ld 4 0 1892) := rfl
theorem i_L_law_1892 : aq_T 251 1892 = some (aq_ld 0 4 1894) := rfl
theorem i_L_law_1894 : aq_T 251 1894 = some (aq_push (.int (4)) 1895) := rfl
theorem i_L_law_1895 : aq_T 251 1895 = some (aq_ar af_iadd 1896) := rfl
theorem i_L_law_1896 : aq_T 251 1896 = some (aq_ldi 0 1897) := rfl
theorem i_L_law_1897 : aq_T 251 1897 = some (aq_call 172 4 (some 7) 1900) := rfl
theorem i_L_law_1900 : aq_T 251 1900 = some (aq_st 0 6 1902) := rfl
theorem i_L_law_1902 : aq_T 251 1902 = some (aq_ld 4 2 1903) := rfl
theorem i_L_law_1903 : aq_T 251 1903 = some (aq_call 126 1 (some 7) 1906) := rfl
theorem i_L_law_1906 : aq_T 251 1906 = some (aq_ld 0 5 1908) := rfl
theorem i_L_law_1908 : aq_T 251 1908 = some (aq_if ai_eq 1913 1911) := rfl
theorem i_L_law_1911 : aq_T 251 1911 = some (aq_push (.int (0)) 1912) := rfl
theorem i_L_law_1912 : aq_T 251 1912 = some (aq_ret 5) := rfl
theorem i_L_law_1913 : aq_T 251 1913 = some (aq_ld 0 5 1915) := rfl
theorem i_L_law_1915 : aq_T 251 1915 = some (aq_if ai_ne0 1930 1918) := rfl
theorem i_L_law_1918 : aq_T 251 1918 = some (aq_ld 4 3 1919) := rfl
theorem i_L_law_1919 : aq_T 251 1919 = some (aq_push (.int (0)) 1920) := rfl
theorem i_L_law_1920 : aq_T 251 1920 = some (aq_ldl 1921) := rfl
theorem i_L_law_1921 : aq_T 251 1921 = some (aq_ld 0 6 1923) := rfl
theorem i_L_law_1923 : aq_T 251 1923 = some (aq_ar af_i2l 1924) := rfl
theorem i_L_law_1924 : aq_T 251 1924 = some (aq_ar af_lcmp 1925) := rfl
theorem i_L_law_1925 : aq_T 251 1925 = some (aq_if ai_eq0 1930 1928) := rfl
theorem i_L_law_1928 : aq_T 251 1928 = some (aq_push (.int (0)) 1929) := rfl
theorem i_L_law_1929 : aq_T 251 1929 = some (aq_ret 5) := rfl
theorem i_L_law_1930 : aq_T 251 1930 = some (aq_go 2846) := rfl
theorem i_L_law_1933 : aq_T 251 1933 = some (aq_ld 4 1 1934) := rfl
theorem i_L_law_1934 : aq_T 251 1934 = some (aq_ld 4 0 1935) := rfl
theorem i_L_law_1935 : aq_T 251 1935 = some (aq_ld 0 4 1937) := rfl
theorem i_L_law_1937 : aq_T 251 1937 = some (aq_push (.int (1)) 1938) := rfl
theorem i_L_law_1938 : aq_T 251 1938 = some (aq_ar af_iadd 1939) := rfl
theorem i_L_law_1939 : aq_T 251 1939 = some (aq_ldi 0 1940) := rfl
theorem i_L_law_1940 : aq_T 251 1940 = some (aq_ld 4 3 1941) := rfl
theorem i_L_law_1941 : aq_T 251 1941 = some (aq_call 237 3 none 1944) := rfl
theorem i_L_law_1944 : aq_T 251 1944 = some (aq_st 0 5 1946) := rfl
theorem i_L_law_1946 : aq_T 251 1946 = some (aq_ld 4 2 1947) := rfl
theorem i_L_law_1947 : aq_T 251 1947 = some (aq_ld 4 0 1948) := rfl
theorem i_L_law_1948 : aq_T 251 1948 = some (aq_ld 0 4 1950) := rfl
theorem i_L_law_1950 : aq_T 251 1950 = some (aq_push (.int (1)) 1951) := rfl
theorem i_L_law_1951 : aq_T 251 1951 = some (aq_ar af_iadd 1952) := rfl
theorem i_L_law_1952 : aq_T 251 1952 = some (aq_ldi 0 1953) := rfl
theorem i_L_law_1953 : aq_T 251 1953 = some (aq_call 173 2 (some 7) 1956) := rfl
theorem i_L_law_1956 : aq_T 251 1956 = some (aq_st 0 6 1958) := rfl
theorem i_L_law_1958 : aq_T 251 1958 = some (aq_ld 4 2 1959) := rfl
theorem i_L_law_1959 : aq_T 251 1959 = some (aq_call 126 1 (some 7) 1962) := rfl
theorem i_L_law_1962 : aq_T 251 1962 = some (aq_ld 0 5 1964) := rfl
theorem i_L_law_1964 : aq_T 251 1964 = some (aq_if ai_eq 1969 1967) := rfl
theorem i_L_law_1967 : aq_T 251 1967 = some (aq_push (.int (0)) 1968) := rfl
theorem i_L_law_1968 : aq_T 251 1968 = some (aq_ret 5) := rfl
theorem i_L_law_1969 : aq_T 251 1969 = some (aq_ld 0 5 1971) := rfl
theorem i_L_law_1971 : aq_T 251 1971 = some (aq_if ai_ne0 1986 1974) := rfl
theorem i_L_law_1974 : aq_T 251 1974 = some (aq_ld 4 3 1975) := rfl
theorem i_L_law_1975 : aq_T 251 1975 = some (aq_push (.int (0)) 1976) := rfl
theorem i_L_law_1976 : aq_T 251 1976 = some (aq_ldl 1977) := rfl
theorem i_L_law_1977 : aq_T 251 1977 = some (aq_ld 0 6 1979) := rfl
theorem i_L_law_1979 : aq_T 251 1979 = some (aq_ar af_i2l 1980) := rfl
theorem i_L_law_1980 : aq_T 251 1980 = some (aq_ar af_lcmp 1981) := rfl
theorem i_L_law_1981 : aq_T 251 1981 = some (aq_if ai_eq0 1986 1984) := rfl
theorem i_L_law_1984 : aq_T 251 1984 = some (aq_push (.int (0)) 1985) := rfl
theorem i_L_law_1985 : aq_T 251 1985 = some (aq_ret 5) := rfl
theorem i_L_law_1986 : aq_T 251 1986 = some (aq_go 2846) := rfl
theorem i_L_law_1989 : aq_T 251 1989 = some (aq_ld 4 1 1990) := rfl
theorem i_L_law_1990 : aq_T 251 1990 = some (aq_ld 4 0 1991) := rfl
theorem i_L_law_1991 : aq_T 251 1991 = some (aq_ld 0 4 1993) := rfl
theorem i_L_law_1993 : aq_T 251 1993 = some (aq_push (.int (1)) 1994) := rfl
theorem i_L_law_1994 : aq_T 251 1994 = some (aq_ar af_iadd 1995) := rfl
theorem i_L_law_1995 : aq_T 251 1995 = some (aq_ldi 0 1996) := rfl
theorem i_L_law_1996 : aq_T 251 1996 = some (aq_ld 4 0 1997) := rfl
theorem i_L_law_1997 : aq_T 251 1997 = some (aq_ld 0 4 1999) := rfl
theorem i_L_law_1999 : aq_T 251 1999 = some (aq_push (.int (2)) 2000) := rfl
theorem i_L_law_2000 : aq_T 251 2000 = some (aq_ar af_iadd 2001) := rfl
theorem i_L_law_2001 : aq_T 251 2001 = some (aq_ldi 0 2002) := rfl
theorem i_L_law_2002 : aq_T 251 2002 = some (aq_ld 4 3 2003) := rfl
theorem i_L_law_2003 : aq_T 251 2003 = some (aq_call 238 4 none 2006) := rfl
theorem i_L_law_2006 : aq_T 251 2006 = some (aq_st 0 5 2008) := rfl
theorem i_L_law_2008 : aq_T 251 2008 = some (aq_ld 4 2 2009) := rfl
theorem i_L_law_2009 : aq_T 251 2009 = some (aq_ld 4 0 2010) := rfl
theorem i_L_law_2010 : aq_T 251 2010 = some (aq_ld 0 4 2012) := rfl
theorem i_L_law_2012 : aq_T 251 2012 = some (aq_push (.int (1)) 2013) := rfl
theorem i_L_law_2013 : aq_T 251 2013 = some (aq_ar af_iadd 2014) := rfl
theorem i_L_law_2014 : aq_T 251 2014 = some (aq_ldi 0 2015) := rfl
theorem i_L_law_2015 : aq_T 251 2015 = some (aq_ld 4 0 2016) := rfl
theorem i_L_law_2016 : aq_T 251 2016 = some (aq_ld 0 4 2018) := rfl
theorem i_L_law_2018 : aq_T 251 2018 = some (aq_push (.int (2)) 2019) := rfl
theorem i_L_law_2019 : aq_T 251 2019 = some (aq_ar af_iadd 2020) := rfl
theorem i_L_law_2020 : aq_T 251 2020 = some (aq_ldi 0 2021) := rfl
theorem i_L_law_2021 : aq_T 251 2021 = some (aq_call 177 3 (some 7) 2024) := rfl
theorem i_L_law_2024 : aq_T 251 2024 = some (aq_st 0 6 2026) := rfl
theorem i_L_law_2026 : aq_T 251 2026 = some (aq_ld 4 2 2027) := rfl
theorem i_L_law_2027 : aq_T 251 2027 = some (aq_call 126 1 (some 7) 2030) := rfl
theorem i_L_law_2030 : aq_T 251 2030 = some (aq_ld 0 5 2032) := rfl
theorem i_L_law_2032 : aq_T 251 2032 = some (aq_if ai_eq 2037 2035) := rfl
theorem i_L_law_2035 : aq_T 251 2035 = some (aq_push (.int (0)) 2036) := rfl
theorem i_L_law_2036 : aq_T 251 2036 = some (aq_ret 5) := rfl
theorem i_L_law_2037 : aq_T 251 2037 = some (aq_ld 0 5 2039) := rfl
theorem i_L_law_2039 : aq_T 251 2039 = some (aq_if ai_ne0 2054 2042) := rfl
theorem i_L_law_2042 : aq_T 251 2042 = some (aq_ld 4 3 2043) := rfl
theorem i_L_law_2043 : aq_T 251 2043 = some (aq_push (.int (0)) 2044) := rfl
theorem i_L_law_2044 : aq_T 251 2044 = some (aq_ldl 2045) := rfl
theorem i_L_law_2045 : aq_T 251 2045 = some (aq_ld 0 6 2047) := rfl
theorem i_L_law_2047 : aq_T 251 2047 = some (aq_ar af_i2l 2048) := rfl
theorem i_L_law_2048 : aq_T 251 2048 = some (aq_ar af_lcmp 2049) := rfl
theorem i_L_law_2049 : aq_T 251 2049 = some (aq_if ai_eq0 2054 2052) := rfl
theorem i_L_law_2052 : aq_T 251 2052 = some (aq_push (.int (0)) 2053) := rfl
theorem i_L_law_2053 : aq_T 251 2053 = some (aq_ret 5) := rfl
theorem i_L_law_2054 : aq_T 251 2054 = some (aq_go 2846) := rfl
theorem i_L_law_2057 : aq_T 251 2057 = some (aq_ld 4 1 2058) := rfl
theorem i_L_law_2058 : aq_T 251 2058 = some (aq_ld 4 0 2059) := rfl
theorem i_L_law_2059 : aq_T 251 2059 = some (aq_ld 0 4 2061) := rfl
theorem i_L_law_2061 : aq_T 251 2061 = some (aq_push (.int (1)) 2062) := rfl
theorem i_L_law_2062 : aq_T 251 2062 = some (aq_ar af_iadd 2063) := rfl
theorem i_L_law_2063 : aq_T 251 2063 = some (aq_ldi 0 2064) := rfl
theorem i_L_law_2064 : aq_T 251 2064 = some (aq_ld 4 0 2065) := rfl
theorem i_L_law_2065 : aq_T 251 2065 = some (aq_ld 0 4 2067) := rfl
theorem i_L_law_2067 : aq_T 251 2067 = some (aq_push (.int (2)) 2068) := rfl
theorem i_L_law_2068 : aq_T 251 2068 = some (aq_ar af_iadd 2069) := rfl
theorem i_L_law_2069 : aq_T 251 2069 = some (aq_ldi 0 2070) := rfl
theorem i_L_law_2070 : aq_T 251 2070 = some (aq_ld 4 3 2071) := rfl
theorem i_L_law_2071 : aq_T 251 2071 = some (aq_call 239 4 none 2074) := rfl
theorem i_L_law_2074 : aq_T 251 2074 = some (aq_st 0 5 2076) := rfl
theorem i_L_law_2076 : aq_T 251 2076 = some (aq_ld 4 2 2077) := rfl
theorem i_L_law_2077 : aq_T 251 2077 = some (aq_ld 4 0 2078) := rfl
theorem i_L_law_2078 : aq_T 251 2078 = some (aq_ld 0 4 2080) := rfl
theorem i_L_law_2080 : aq_T 251 2080 = some (aq_push (.int (1)) 2081) := rfl
theorem i_L_law_2081 : aq_T 251 2081 = some (aq_ar af_iadd 2082) := rfl
theorem i_L_law_2082 : aq_T 251 2082 = some (aq_ldi 0 2083) := rfl
theorem i_L_law_2083 : aq_T 251 2083 = some (aq_ld 4 0 2084) := rfl
theorem i_L_law_2084 : aq_T 251 2084 = some (aq_ld 0 4 2086) := rfl
theorem i_L_law_2086 : aq_T 251 2086 = some (aq_push (.int (2)) 2087) := rfl
theorem i_L_law_2087 : aq_T 251 2087 = some (aq_ar af_iadd 2088) := rfl
theorem i_L_law_2088 : aq_T 251 2088 = some (aq_ldi 0 2089) := rfl
theorem i_L_law_2089 : aq_T 251 2089 = some (aq_call 178 3 (some 7) 2092) := rfl
theorem i_L_law_2092 : aq_T 251 2092 = some (aq_st 0 6 2094) := rfl
theorem i_L_law_2094 : aq_T 251 2094 = some (aq_ld 4 2 2095) := rfl
theorem i_L_law_2095 : aq_T 251 2095 = some (aq_call 126 1 (some 7) 2098) := rfl
theorem i_L_law_2098 : aq_T 251 2098 = some (aq_ld 0 5 2100) := rfl
theorem i_L_law_2100 : aq_T 251 2100 = some (aq_if ai_eq 2105 2103) := rfl
theorem i_L_law_2103 : aq_T 251 2103 = some (aq_push (.int (0)) 2104) := rfl
theorem i_L_law_2104 : aq_T 251 2104 = some (aq_ret 5) := rfl
theorem i_L_law_2105 : aq_T 251 2105 = some (aq_ld 0 5 2107) := rfl
theorem i_L_law_2107 : aq_T 251 2107 = some (aq_if ai_ne0 2122 2110) := rfl
theorem i_L_law_2110 : aq_T 251 2110 = some (aq_ld 4 3 2111) := rfl
theorem i_L_law_2111 : aq_T 251 2111 = some (aq_push (.int (0)) 2112) := rfl
theorem i_L_law_2112 : aq_T 251 2112 = some (aq_ldl 2113) := rfl
theorem i_L_law_2113 : aq_T 251 2113 = some (aq_ld 0 6 2115) := rfl
theorem i_L_law_2115 : aq_T 251 2115 = some (aq_ar af_i2l 2116) := rfl
theorem i_L_law_2116 : aq_T 251 2116 = some (aq_ar af_lcmp 2117) := rfl
theorem i_L_law_2117 : aq_T 251 2117 = some (aq_if ai_eq0 2122 2120) := rfl
theorem i_L_law_2120 : aq_T 251 2120 = some (aq_push (.int (0)) 2121) := rfl
theorem i_L_law_2121 : aq_T 251 2121 = some (aq_ret 5) := rfl
theorem i_L_law_2122 : aq_T 251 2122 = some (aq_go 2846) := rfl
theorem i_L_law_2125 : aq_T 251 2125 = some (aq_ld 4 1 2126) := rfl
theorem i_L_law_2126 : aq_T 251 2126 = some (aq_ld 4 0 2127) := rfl
theorem i_L_law_2127 : aq_T 251 2127 = some (aq_ld 0 4 2129) := rfl
theorem i_L_law_2129 : aq_T 251 2129 = some (aq_push (.int (1)) 2130) := rfl
theorem i_L_law_2130 : aq_T 251 2130 = some (aq_ar af_iadd 2131) := rfl
theorem i_L_law_2131 : aq_T 251 2131 = some (aq_ldi 0 2132) := rfl
theorem i_L_law_2132 : aq_T 251 2132 = some (aq_ld 4 3 2133) := rfl
theorem i_L_law_2133 : aq_T 251 2133 = some (aq_call 240 3 none 2136) := rfl
theorem i_L_law_2136 : aq_T 251 2136 = some (aq_st 0 5 2138) := rfl
theorem i_L_law_2138 : aq_T 251 2138 = some (aq_ld 4 2 2139) := rfl
theorem i_L_law_2139 : aq_T 251 2139 = some (aq_ld 4 0 2140) := rfl
theorem i_L_law_2140 : aq_T 251 2140 = some (aq_ld 0 4 2142) := rfl
theorem i_L_law_2142 : aq_T 251 2142 = some (aq_push (.int (1)) 2143) := rfl
theorem i_L_law_2143 : aq_T 251 2143 = some (aq_ar af_iadd 2144) := rfl
theorem i_L_law_2144 : aq_T 251 2144 = some (aq_ldi 0 2145) := rfl
theorem i_L_law_2145 : aq_T 251 2145 = some (aq_call 179 2 (some 7) 2148) := rfl
theorem i_L_law_2148 : aq_T 251 2148 = some (aq_st 0 6 2150) := rfl
theorem i_L_law_2150 : aq_T 251 2150 = some (aq_ld 4 2 2151) := rfl
theorem i_L_law_2151 : aq_T 251 2151 = some (aq_call 126 1 (some 7) 2154) := rfl
theorem i_L_law_2154 : aq_T 251 2154 = some (aq_ld 0 5 2156) := rfl
theorem i_L_law_2156 : aq_T 251 2156 = some (aq_if ai_eq 2161 2159) := rfl
theorem i_L_law_2159 : aq_T 251 2159 = some (aq_push (.int (0)) 2160) := rfl
theorem i_L_law_2160 : aq_T 251 2160 = some (aq_ret 5) := rfl
theorem i_L_law_2161 : aq_T 251 2161 = some (aq_ld 0 5 2163) := rfl
theorem i_L_law_2163 : aq_T 251 2163 = some (aq_if ai_ne0 2178 2166) := rfl
theorem i_L_law_2166 : aq_T 251 2166 = some (aq_ld 4 3 2167) := rfl
theorem i_L_law_2167 : aq_T 251 2167 = some (aq_push (.int (0)) 2168) := rfl
theorem i_L_law_2168 : aq_T 251 2168 = some (aq_ldl 2169) := rfl
theorem i_L_law_2169 : aq_T 251 2169 = some (aq_ld 0 6 2171) := rfl
theorem i_L_law_2171 : aq_T 251 2171 = some (aq_ar af_i2l 2172) := rfl
theorem i_L_law_2172 : aq_T 251 2172 = some (aq_ar af_lcmp 2173) := rfl
theorem i_L_law_2173 : aq_T 251 2173 = some (aq_if ai_eq0 2178 2176) := rfl
theorem i_L_law_2176 : aq_T 251 2176 = some (aq_push (.int (0)) 2177) := rfl
theorem i_L_law_2177 : aq_T 251 2177 = some (aq_ret 5) := rfl
theorem i_L_law_2178 : aq_T 251 2178 = some (aq_go 2846) := rfl
theorem i_L_law_2181 : aq_T 251 2181 = some (aq_ld 4 1 2182) := rfl
theorem i_L_law_2182 : aq_T 251 2182 = some (aq_ld 4 0 2183) := rfl
theorem i_L_law_2183 : aq_T 251 2183 = some (aq_ld 0 4 2185) := rfl
theorem i_L_law_2185 : aq_T 251 2185 = some (aq_push (.int (1)) 2186) := rfl
theorem i_L_law_2186 : aq_T 251 2186 = some (aq_ar af_iadd 2187) := rfl
theorem i_L_law_2187 : aq_T 251 2187 = some (aq_ldi 0 2188) := rfl
theorem i_L_law_2188 : aq_T 251 2188 = some (aq_ld 4 3 2189) := rfl
theorem i_L_law_2189 : aq_T 251 2189 = some (aq_call 241 3 none 2192) := rfl
theorem i_L_law_2192 : aq_T 251 2192 = some (aq_st 0 5 2194) := rfl
theorem i_L_law_2194 : aq_T 251 2194 = some (aq_ld 4 2 2195) := rfl
theorem i_L_law_2195 : aq_T 251 2195 = some (aq_ld 4 0 2196) := rfl
theorem i_L_law_2196 : aq_T 251 2196 = some (aq_ld 0 4 2198) := rfl
theorem i_L_law_2198 : aq_T 251 2198 = some (aq_push (.int (1)) 2199) := rfl
theorem i_L_law_2199 : aq_T 251 2199 = some (aq_ar af_iadd 2200) := rfl
theorem i_L_law_2200 : aq_T 251 2200 = some (aq_ldi 0 2201) := rfl
theorem i_L_law_2201 : aq_T 251 2201 = some (aq_call 180 2 (some 7) 2204) := rfl
theorem i_L_law_2204 : aq_T 251 2204 = some (aq_st 0 6 2206) := rfl
theorem i_L_law_2206 : aq_T 251 2206 = some (aq_ld 4 2 2207) := rfl
theorem i_L_law_2207 : aq_T 251 2207 = some (aq_call 126 1 (some 7) 2210) := rfl
theorem i_L_law_2210 : aq_T 251 2210 = some (aq_ld 0 5 2212) := rfl
theorem i_L_law_2212 : aq_T 251 2212 = some (aq_if ai_eq 2217 2215) := rfl
theorem i_L_law_2215 : aq_T 251 2215 = some (aq_push (.int (0)) 2216) := rfl
theorem i_L_law_2216 : aq_T 251 2216 = some (aq_ret 5) := rfl
theorem i_L_law_2217 : aq_T 251 2217 = some (aq_ld 0 5 2219) := rfl
theorem i_L_law_2219 : aq_T 251 2219 = some (aq_if ai_ne0 2234 2222) := rfl
theorem i_L_law_2222 : aq_T 251 2222 = some (aq_ld 4 3 2223) := rfl
theorem i_L_law_2223 : aq_T 251 2223 = some (aq_push (.int (0)) 2224) := rfl
theorem i_L_law_2224 : aq_T 251 2224 = some (aq_ldl 2225) := rfl
theorem i_L_law_2225 : aq_T 251 2225 = some (aq_ld 0 6 2227) := rfl
theorem i_L_law_2227 : aq_T 251 2227 = some (aq_ar af_i2l 2228) := rfl
theorem i_L_law_2228 : aq_T 251 2228 = some (aq_ar af_lcmp 2229) := rfl
theorem i_L_law_2229 : aq_T 251 2229 = some (aq_if ai_eq0 2234 2232) := rfl
theorem i_L_law_2232 : aq_T 251 2232 = some (aq_push (.int (0)) 2233) := rfl
theorem i_L_law_2233 : aq_T 251 2233 = some (aq_ret 5) := rfl
theorem i_L_law_2234 : aq_T 251 2234 = some (aq_go 2846) := rfl
theorem i_L_law_2237 : aq_T 251 2237 = some (aq_ld 4 1 2238) := rfl
theorem i_L_law_2238 : aq_T 251 2238 = some (aq_call 97 1 (some 6) 2241) := rfl
theorem i_L_law_2241 : aq_T 251 2241 = some (aq_ld 4 2 2242) := rfl
theorem i_L_law_2242 : aq_T 251 2242 = some (aq_call 181 1 (some 7) 2245) := rfl
theorem i_L_law_2245 : aq_T 251 2245 = some (aq_if ai_eq 2846 2248) := rfl
theorem i_L_law_2248 : aq_T 251 2248 = some (aq_push (.int (0)) 2249) := rfl
theorem i_L_law_2249 : aq_T 251 2249 = some (aq_ret 5) := rfl
theorem i_L_law_2250 : aq_T 251 2250 = some (aq_ld 4 1 2251) := rfl
theorem i_L_law_2251 : aq_T 251 2251 = some (aq_ld 4 0 2252) := rfl
theorem i_L_law_2252 : aq_T 251 2252 = some (aq_ld 0 4 2254) := rfl
theorem i_L_law_2254 : aq_T 251 2254 = some (aq_push (.int (1)) 2255) := rfl
theorem i_L_law_2255 : aq_T 251 2255 = some (aq_ar af_iadd 2256) := rfl
theorem i_L_law_2256 : aq_T 251 2256 = some (aq_ldi 0 2257) := rfl
theorem i_L_law_2257 : aq_T 251 2257 = some (aq_ld 4 3 2258) := rfl
theorem i_L_law_2258 : aq_T 251 2258 = some (aq_call 242 3 none 2261) := rfl
theorem i_L_law_2261 : aq_T 251 2261 = some (aq_st 0 5 2263) := rfl
theorem i_L_law_2263 : aq_T 251 2263 = some (aq_ld 4 2 2264) := rfl
theorem i_L_law_2264 : aq_T 251 2264 = some (aq_ld 4 0 2265) := rfl
theorem i_L_law_2265 : aq_T 251 2265 = some (aq_ld 0 4 2267) := rfl
theorem i_L_law_2267 : aq_T 251 2267 = some (aq_push (.int (1)) 2268) := rfl
theorem i_L_law_2268 : aq_T 251 2268 = some (aq_ar af_iadd 2269) := rfl
theorem i_L_law_2269 : aq_T 251 2269 = some (aq_ldi 0 2270) := rfl
theorem i_L_law_2270 : aq_T 251 2270 = some (aq_call 183 2 (some 7) 2273) := rfl
theorem i_L_law_2273 : aq_T 251 2273 = some (aq_st 0 6 2275) := rfl
theorem i_L_law_2275 : aq_T 251 2275 = some (aq_ld 4 2 2276) := rfl
theorem i_L_law_2276 : aq_T 251 2276 = some (aq_call 126 1 (some 7) 2279) := rfl
theorem i_L_law_2279 : aq_T 251 2279 = some (aq_ld 0 5 2281) := rfl
theorem i_L_law_2281 : aq_T 251 2281 = some (aq_if ai_eq 2286 2284) := rfl
theorem i_L_law_2284 : aq_T 251 2284 = some (aq_push (.int (0)) 2285) := rfl
theorem i_L_law_2285 : aq_T 251 2285 = some (aq_ret 5) := rfl
theorem i_L_law_2286 : aq_T 251 2286 = some (aq_ld 0 5 2288) := rfl
theorem i_L_law_2288 : aq_T 251 2288 = some (aq_if ai_ne0 2310 2291) := rfl
theorem i_L_law_2291 : aq_T 251 2291 = some (aq_ld 4 3 2292) := rfl
theorem i_L_law_2292 : aq_T 251 2292 = some (aq_push (.int (0)) 2293) := rfl
theorem i_L_law_2293 : aq_T 251 2293 = some (aq_ldl 2294) := rfl
theorem i_L_law_2294 : aq_T 251 2294 = some (aq_ld 0 6 2296) := rfl
theorem i_L_law_2296 : aq_T 251 2296 = some (aq_if ai_eq0 2303 2299) := rfl
theorem i_L_law_2299 : aq_T 251 2299 = some (aq_push (.long 1) 2300) := rfl
theorem i_L_law_2300 : aq_T 251 2300 = some (aq_go 2304) := rfl
theorem i_L_law_2303 : aq_T 251 2303 = some (aq_push (.long 0) 2304) := rfl
theorem i_L_law_2304 : aq_T 251 2304 = some (aq_ar af_lcmp 2305) := rfl
theorem i_L_law_2305 : aq_T 251 2305 = some (aq_if ai_eq0 2310 2308) := rfl
theorem i_L_law_2308 : aq_T 251 2308 = some (aq_push (.int (0)) 2309) := rfl
theorem i_L_law_2309 : aq_T 251 2309 = some (aq_ret 5) := rfl
theorem i_L_law_2310 : aq_T 251 2310 = some (aq_go 2846) := rfl
theorem i_L_law_2313 : aq_T 251 2313 = some (aq_ld 4 1 2314) := rfl
theorem i_L_law_2314 : aq_T 251 2314 = some (aq_call 99 1 (some 6) 2317) := rfl
theorem i_L_law_2317 : aq_T 251 2317 = some (aq_ld 4 2 2318) := rfl
theorem i_L_law_2318 : aq_T 251 2318 = some (aq_call 191 1 (some 7) 2321) := rfl
theorem i_L_law_2321 : aq_T 251 2321 = some (aq_if ai_eq 2846 2324) := rfl
theorem i_L_law_2324 : aq_T 251 2324 = some (aq_push (.int (0)) 2325) := rfl
theorem i_L_law_2325 : aq_T 251 2325 = some (aq_ret 5) := rfl
theorem i_L_law_2326 : aq_T 251 2326 = some (aq_ld 4 1 2327) := rfl
theorem i_L_law_2327 : aq_T 251 2327 = some (aq_call 100 1 (some 6) 2330) := rfl
theorem i_L_law_2330 : aq_T 251 2330 = some (aq_ld 4 2 2331) := rfl
theorem i_L_law_2331 : aq_T 251 2331 = some (aq_call 192 1 (some 7) 2334) := rfl
theorem i_L_law_2334 : aq_T 251 2334 = some (aq_if ai_eq 2846 2337) := rfl
theorem i_L_law_2337 : aq_T 251 2337 = some (aq_push (.int (0)) 2338) := rfl
theorem i_L_law_2338 : aq_T 251 2338 = some (aq_ret 5) := rfl
theorem i_L_law_2339 : aq_T 251 2339 = some (aq_ld 4 1 2340) := rfl
theorem i_L_law_2340 : aq_T 251 2340 = some (aq_ld 4 3 2341) := rfl
theorem i_L_law_2341 : aq_T 251 2341 = some (aq_call 243 2 none 2344) := rfl
theorem i_L_law_2344 : aq_T 251 2344 = some (aq_st 0 5 2346) := rfl
theorem i_L_law_2346 : aq_T 251 2346 = some (aq_ld 4 2 2347) := rfl
theorem i_L_law_2347 : aq_T 251 2347 = some (aq_call 193 1 (some 7) 2350) := rfl
theorem i_L_law_2350 : aq_T 251 2350 = some (aq_st 0 6 2352) := rfl
theorem i_L_law_2352 : aq_T 251 2352 = some (aq_ld 4 2 2353) := rfl
theorem i_L_law_2353 : aq_T 251 2353 = some (aq_call 126 1 (some 7) 2356) := rfl
theorem i_L_law_2356 : aq_T 251 2356 = some (aq_ld 0 5 2358) := rfl
theorem i_L_law_2358 : aq_T 251 2358 = some (aq_if ai_eq 2363 2361) := rfl
theorem i_L_law_2361 : aq_T 251 2361 = some (aq_push (.int (0)) 2362) := rfl
theorem i_L_law_2362 : aq_T 251 2362 = some (aq_ret 5) := rfl
theorem i_L_law_2363 : aq_T 251 2363 = some (aq_ld 0 5 2365) := rfl
theorem i_L_law_2365 : aq_T 251 2365 = some (aq_if ai_ne0 2380 2368) := rfl
theorem i_L_law_2368 : aq_T 251 2368 = some (aq_ld 4 3 2369) := rfl
theorem i_L_law_2369 : aq_T 251 2369 = some (aq_push (.int (0)) 2370) := rfl
theorem i_L_law_2370 : aq_T 251 2370 = some (aq_ldl 2371) := rfl
theorem i_L_law_2371 : aq_T 251 2371 = some (aq_ld 0 6 2373) := rfl
theorem i_L_law_2373 : aq_T 251 2373 = some (aq_ar af_i2l 2374) := rfl
theorem i_L_law_2374 : aq_T 251 2374 = some (aq_ar af_lcmp 2375) := rfl
theorem i_L_law_2375 : aq_T 251 2375 = some (aq_if ai_eq0 2380 2378) := rfl
theorem i_L_law_2378 : aq_T 251 2378 = some (aq_push (.int (0)) 2379) := rfl
theorem i_L_law_2379 : aq_T 251 2379 = some (aq_ret 5) := rfl
theorem i_L_law_2380 : aq_T 251 2380 = some (aq_go 2846) := rfl
theorem i_L_law_2383 : aq_T 251 2383 = some (aq_ld 4 1 2384) := rfl
theorem i_L_law_2384 : aq_T 251 2384 = some (aq_ld 4 0 2385) := rfl
theorem i_L_law_2385 : aq_T 251 2385 = some (aq_ld 0 4 2387) := rfl
theorem i_L_law_2387 : aq_T 251 2387 = some (aq_push (.int (1)) 2388) := rfl
theorem i_L_law_2388 : aq_T 251 2388 = some (aq_ar af_iadd 2389) := rfl
theorem i_L_law_2389 : aq_T 251 2389 = some (aq_ldi 0 2390) := rfl
theorem i_L_law_2390 : aq_T 251 2390 = some (aq_ld 4 3 2391) := rfl
theorem i_L_law_2391 : aq_T 251 2391 = some (aq_call 244 3 none 2394) := rfl
theorem i_L_law_2394 : aq_T 251 2394 = some (aq_st 0 5 2396) := rfl
theorem i_L_law_2396 : aq_T 251 2396 = some (aq_ld 4 2 2397) := rfl
theorem i_L_law_2397 : aq_T 251 2397 = some (aq_ld 4 0 2398) := rfl
theorem i_L_law_2398 : aq_T 251 2398 = some (aq_ld 0 4 2400) := rfl
theorem i_L_law_2400 : aq_T 251 2400 = some (aq_push (.int (1)) 2401) := rfl
theorem i_L_law_2401 : aq_T 251 2401 = some (aq_ar af_iadd 2402) := rfl
theorem i_L_law_2402 : aq_T 251 2402 = some (aq_ldi 0 2403) := rfl
theorem i_L_law_2403 : aq_T 251 2403 = some (aq_call 194 2 (some 7) 2406) := rfl
theorem i_L_law_2406 : aq_T 251 2406 = some (aq_st 1 6 2408) := rfl
theorem i_L_law_2408 : aq_T 251 2408 = some (aq_ld 4 2 2409) := rfl
theorem i_L_law_2409 : aq_T 251 2409 = some (aq_call 126 1 (some 7) 2412) := rfl
theorem i_L_law_2412 : aq_T 251 2412 = some (aq_ld 0 5 2414) := rfl
theorem i_L_law_2414 : aq_T 251 2414 = some (aq_if ai_eq 2419 2417) := rfl
theorem i_L_law_2417 : aq_T 251 2417 = some (aq_push (.int (0)) 2418) := rfl
theorem i_L_law_2418 : aq_T 251 2418 = some (aq_ret 5) := rfl
theorem i_L_law_2419 : aq_T 251 2419 = some (aq_ld 0 5 2421) := rfl
theorem i_L_law_2421 : aq_T 251 2421 = some (aq_if ai_ne0 2435 2424) := rfl
theorem i_L_law_2424 : aq_T 251 2424 = some (aq_ld 4 3 2425) := rfl
theorem i_L_law_2425 : aq_T 251 2425 = some (aq_push (.int (0)) 2426) := rfl
theorem i_L_law_2426 : aq_T 251 2426 = some (aq_ldl 2427) := rfl
theorem i_L_law_2427 : aq_T 251 2427 = some (aq_ld 1 6 2429) := rfl
theorem i_L_law_2429 : aq_T 251 2429 = some (aq_ar af_lcmp 2430) := rfl
theorem i_L_law_2430 : aq_T 251 2430 = some (aq_if ai_eq0 2435 2433) := rfl
theorem i_L_law_2433 : aq_T 251 2433 = some (aq_push (.int (0)) 2434) := rfl
theorem i_L_law_2434 : aq_T 251 2434 = some (aq_ret 5) := rfl
theorem i_L_law_2435 : aq_T 251 2435 = some (aq_go 2846) := rfl
theorem i_L_law_2438 : aq_T 251 2438 = some (aq_ld 4 1 2439) := rfl
theorem i_L_law_2439 : aq_T 251 2439 = some (aq_ld 4 0 2440) := rfl
theorem i_L_law_2440 : aq_T 251 2440 = some (aq_ld 0 4 2442) := rfl
theorem i_L_law_2442 : aq_T 251 2442 = some (aq_push (.int (1)) 2443) := rfl
theorem i_L_law_2443 : aq_T 251 2443 = some (aq_ar af_iadd 2444) := rfl
theorem i_L_law_2444 : aq_T 251 2444 = some (aq_ldi 0 2445) := rfl
theorem i_L_law_2445 : aq_T 251 2445 = some (aq_ld 4 3 2446) := rfl
theorem i_L_law_2446 : aq_T 251 2446 = some (aq_call 245 3 none 2449) := rfl
theorem i_L_law_2449 : aq_T 251 2449 = some (aq_st 0 5 2451) := rfl
theorem i_L_law_2451 : aq_T 251 2451 = some (aq_ld 4 2 2452) := rfl
theorem i_L_law_2452 : aq_T 251 2452 = some (aq_ld 4 0 2453) := rfl
theorem i_L_law_2453 : aq_T 251 2453 = some (aq_ld 0 4 2455) := rfl
theorem i_L_law_2455 : aq_T 251 2455 = some (aq_push (.int (1)) 2456) := rfl
theorem i_L_law_2456 : aq_T 251 2456 = some (aq_ar af_iadd 2457) := rfl
theorem i_L_law_2457 : aq_T 251 2457 = some (aq_ldi 0 2458) := rfl
theorem i_L_law_2458 : aq_T 251 2458 = some (aq_call 199 2 (some 7) 2461) := rfl
theorem i_L_law_2461 : aq_T 251 2461 = some (aq_st 0 6 2463) := rfl
theorem i_L_law_2463 : aq_T 251 2463 = some (aq_ld 4 2 2464) := rfl
theorem i_L_law_2464 : aq_T 251 2464 = some (aq_call 126 1 (some 7) 2467) := rfl
theorem i_L_law_2467 : aq_T 251 2467 = some (aq_ld 0 5 2469) := rfl
theorem i_L_law_2469 : aq_T 251 2469 = some (aq_if ai_eq 2474 2472) := rfl
theorem i_L_law_2472 : aq_T 251 2472 = some (aq_push (.int (0)) 2473) := rfl
theorem i_L_law_2473 : aq_T 251 2473 = some (aq_ret 5) := rfl
theorem i_L_law_2474 : aq_T 251 2474 = some (aq_ld 0 5 2476) := rfl
theorem i_L_law_2476 : aq_T 251 2476 = some (aq_if ai_ne0 2491 2479) := rfl
theorem i_L_law_2479 : aq_T 251 2479 = some (aq_ld 4 3 2480) := rfl
theorem i_L_law_2480 : aq_T 251 2480 = some (aq_push (.int (0)) 2481) := rfl
theorem i_L_law_2481 : aq_T 251 2481 = some (aq_ldl 2482) := rfl
theorem i_L_law_2482 : aq_T 251 2482 = some (aq_ld 0 6 2484) := rfl
theorem i_L_law_2484 : aq_T 251 2484 = some (aq_ar af_i2l 2485) := rfl
theorem i_L_law_2485 : aq_T 251 2485 = some (aq_ar af_lcmp 2486) := rfl
theorem i_L_law_2486 : aq_T 251 2486 = some (aq_if ai_eq0 2491 2489) := rfl
theorem i_L_law_2489 : aq_T 251 2489 = some (aq_push (.int (0)) 2490) := rfl
theorem i_L_law_2490 : aq_T 251 2490 = some (aq_ret 5) := rfl
theorem i_L_law_2491 : aq_T 251 2491 = some (aq_go 2846) := rfl
theorem i_L_law_2494 : aq_T 251 2494 = some (aq_ld 4 1 2495) := rfl
theorem i_L_law_2495 : aq_T 251 2495 = some (aq_ld 4 0 2496) := rfl
theorem i_L_law_2496 : aq_T 251 2496 = some (aq_ld 0 4 2498) := rfl
theorem i_L_law_2498 : aq_T 251 2498 = some (aq_push (.int (1)) 2499) := rfl
theorem i_L_law_2499 : aq_T 251 2499 = some (aq_ar af_iadd 2500) := rfl
theorem i_L_law_2500 : aq_T 251 2500 = some (aq_ldi 0 2501) := rfl
theorem i_L_law_2501 : aq_T 251 2501 = some (aq_ld 4 0 2502) := rfl
theorem i_L_law_2502 : aq_T 251 2502 = some (aq_ld 0 4 2504) := rfl
theorem i_L_law_2504 : aq_T 251 2504 = some (aq_push (.int (2)) 2505) := rfl
theorem i_L_law_2505 : aq_T 251 2505 = some (aq_ar af_iadd 2506) := rfl
theorem i_L_law_2506 : aq_T 251 2506 = some (aq_ldi 0 2507) := rfl
theorem i_L_law_2507 : aq_T 251 2507 = some (aq_ld 4 0 2508) := rfl
theorem i_L_law_2508 : aq_T 251 2508 = some (aq_ld 0 4 2510) := rfl
theorem i_L_law_2510 : aq_T 251 2510 = some (aq_push (.int (3)) 2511) := rfl
theorem i_L_law_2511 : aq_T 251 2511 = some (aq_ar af_iadd 2512) := rfl
theorem i_L_law_2512 : aq_T 251 2512 = some (aq_ldi 0 2513) := rfl
theorem i_L_law_2513 : aq_T 251 2513 = some (aq_ld 4 3 2514) := rfl
theorem i_L_law_2514 : aq_T 251 2514 = some (aq_call 246 5 none 2517) := rfl
theorem i_L_law_2517 : aq_T 251 2517 = some (aq_st 0 5 2519) := rfl
theorem i_L_law_2519 : aq_T 251 2519 = some (aq_ld 4 2 2520) := rfl
theorem i_L_law_2520 : aq_T 251 2520 = some (aq_ld 4 0 2521) := rfl
theorem i_L_law_2521 : aq_T 251 2521 = some (aq_ld 0 4 2523) := rfl
theorem i_L_law_2523 : aq_T 251 2523 = some (aq_push (.int (1)) 2524) := rfl
theorem i_L_law_2524 : aq_T 251 2524 = some (aq_ar af_iadd 2525) := rfl
theorem i_L_law_2525 : aq_T 251 2525 = some (aq_ldi 0 2526) := rfl
theorem i_L_law_2526 : aq_T 251 2526 = some (aq_ld 4 0 2527) := rfl
theorem i_L_law_2527 : aq_T 251 2527 = some (aq_ld 0 4 2529) := rfl
theorem i_L_law_2529 : aq_T 251 2529 = some (aq_push (.int (2)) 2530) := rfl
theorem i_L_law_2530 : aq_T 251 2530 = some (aq_ar af_iadd 2531) := rfl
theorem i_L_law_2531 : aq_T 251 2531 = some (aq_ldi 0 2532) := rfl
theorem i_L_law_2532 : aq_T 251 2532 = some (aq_ld 4 0 2533) := rfl
theorem i_L_law_2533 : aq_T 251 2533 = some (aq_ld 0 4 2535) := rfl
theorem i_L_law_2535 : aq_T 251 2535 = some (aq_push (.int (3)) 2536) := rfl
theorem i_L_law_2536 : aq_T 251 2536 = some (aq_ar af_iadd 2537) := rfl
theorem i_L_law_2537 : aq_T 251 2537 = some (aq_ldi 0 2538) := rfl
theorem i_L_law_2538 : aq_T 251 2538 = some (aq_call 202 4 (some 7) 2541) := rfl
theorem i_L_law_2541 : aq_T 251 2541 = some (aq_st 0 6 2543) := rfl
theorem i_L_law_2543 : aq_T 251 2543 = some (aq_ld 4 2 2544) := rfl
theorem i_L_law_2544 : aq_T 251 2544 = some (aq_call 126 1 (some 7) 2547) := rfl
theorem i_L_law_2547 : aq_T 251 2547 = some (aq_ld 0 5 2549) := rfl
theorem i_L_law_2549 : aq_T 251 2549 = some (aq_if ai_eq 2554 2552) := rfl
theorem i_L_law_2552 : aq_T 251 2552 = some (aq_push (.int (0)) 2553) := rfl
theorem i_L_law_2553 : aq_T 251 2553 = some (aq_ret 5) := rfl
theorem i_L_law_2554 : aq_T 251 2554 = some (aq_ld 0 5 2556) := rfl
theorem i_L_law_2556 : aq_T 251 2556 = some (aq_if ai_ne0 2571 2559) := rfl
theorem i_L_law_2559 : aq_T 251 2559 = some (aq_ld 4 3 2560) := rfl
theorem i_L_law_2560 : aq_T 251 2560 = some (aq_push (.int (0)) 2561) := rfl
theorem i_L_law_2561 : aq_T 251 2561 = some (aq_ldl 2562) := rfl
theorem i_L_law_2562 : aq_T 251 2562 = some (aq_ld 0 6 2564) := rfl
theorem i_L_law_2564 : aq_T 251 2564 = some (aq_ar af_i2l 2565) := rfl
theorem i_L_law_2565 : aq_T 251 2565 = some (aq_ar af_lcmp 2566) := rfl
theorem i_L_law_2566 : aq_T 251 2566 = some (aq_if ai_eq0 2571 2569) := rfl
theorem i_L_law_2569 : aq_T 251 2569 = some (aq_push (.int (0)) 2570) := rfl
theorem i_L_law_2570 : aq_T 251 2570 = some (aq_ret 5) := rfl
theorem i_L_law_2571 : aq_T 251 2571 = some (aq_go 2846) := rfl
theorem i_L_law_2574 : aq_T 251 2574 = some (aq_ld 4 1 2575) := rfl
theorem i_L_law_2575 : aq_T 251 2575 = some (aq_ld 4 0 2576) := rfl
theorem i_L_law_2576 : aq_T 251 2576 = some (aq_ld 0 4 2578) := rfl
theorem i_L_law_2578 : aq_T 251 2578 = some (aq_push (.int (1)) 2579) := rfl
theorem i_L_law_2579 : aq_T 251 2579 = some (aq_ar af_iadd 2580) := rfl
theorem i_L_law_2580 : aq_T 251 2580 = some (aq_ldi 0 2581) := rfl
theorem i_L_law_2581 : aq_T 251 2581 = some (aq_ld 4 0 2582) := rfl
theorem i_L_law_2582 : aq_T 251 2582 = some (aq_ld 0 4 2584) := rfl
theorem i_L_law_2584 : aq_T 251 2584 = some (aq_push (.int (2)) 2585) := rfl
theorem i_L_law_2585 : aq_T 251 2585 = some (aq_ar af_iadd 2586) := rfl
theorem i_L_law_2586 : aq_T 251 2586 = some (aq_ldi 0 2587) := rfl
theorem i_L_law_2587 : aq_T 251 2587 = some (aq_ld 4 3 2588) := rfl
theorem i_L_law_2588 : aq_T 251 2588 = some (aq_call 247 4 none 2591) := rfl
theorem i_L_law_2591 : aq_T 251 2591 = some (aq_st 0 5 2593) := rfl
theorem i_L_law_2593 : aq_T 251 2593 = some (aq_ld 4 2 2594) := rfl
theorem i_L_law_2594 : aq_T 251 2594 = some (aq_ld 4 0 2595) := rfl
theorem i_L_law_2595 : aq_T 251 2595 = some (aq_ld 0 4 2597) := rfl
theorem i_L_law_2597 : aq_T 251 2597 = some (aq_push (.int (1)) 2598) := rfl
theorem i_L_law_2598 : aq_T 251 2598 = some (aq_ar af_iadd 2599) := rfl
theorem i_L_law_2599 : aq_T 251 2599 = some (aq_ldi 0 2600) := rfl
theorem i_L_law_2600 : aq_T 251 2600 = some (aq_ld 4 0 2601) := rfl
theorem i_L_law_2601 : aq_T 251 2601 = some (aq_ld 0 4 2603) := rfl
theorem i_L_law_2603 : aq_T 251 2603 = some (aq_push (.int (2)) 2604) := rfl
theorem i_L_law_2604 : aq_T 251 2604 = some (aq_ar af_iadd 2605) := rfl
theorem i_L_law_2605 : aq_T 251 2605 = some (aq_ldi 0 2606) := rfl
theorem i_L_law_2606 : aq_T 251 2606 = some (aq_call 203 3 (some 7) 2609) := rfl
theorem i_L_law_2609 : aq_T 251 2609 = some (aq_st 0 6 2611) := rfl
theorem i_L_law_2611 : aq_T 251 2611 = some (aq_ld 4 2 2612) := rfl
theorem i_L_law_2612 : aq_T 251 2612 = some (aq_call 126 1 (some 7) 2615) := rfl
theorem i_L_law_2615 : aq_T 251 2615 = some (aq_ld 0 5 2617) := rfl
theorem i_L_law_2617 : aq_T 251 2617 = some (aq_if ai_eq 2622 2620) := rfl
theorem i_L_law_2620 : aq_T 251 2620 = some (aq_push (.int (0)) 2621) := rfl
theorem i_L_law_2621 : aq_T 251 2621 = some (aq_ret 5) := rfl
theorem i_L_law_2622 : aq_T 251 2622 = some (aq_ld 0 5 2624) := rfl
theorem i_L_law_2624 : aq_T 251 2624 = some (aq_if ai_ne0 2639 2627) := rfl
theorem i_L_law_2627 : aq_T 251 2627 = some (aq_ld 4 3 2628) := rfl
theorem i_L_law_2628 : aq_T 251 2628 = some (aq_push (.int (0)) 2629) := rfl
theorem i_L_law_2629 : aq_T 251 2629 = some (aq_ldl 2630) := rfl
theorem i_L_law_2630 : aq_T 251 2630 = some (aq_ld 0 6 2632) := rfl
theorem i_L_law_2632 : aq_T 251 2632 = some (aq_ar af_i2l 2633) := rfl
theorem i_L_law_2633 : aq_T 251 2633 = some (aq_ar af_lcmp 2634) := rfl
theorem i_L_law_2634 : aq_T 251 2634 = some (aq_if ai_eq0 2639 2637) := rfl
theorem i_L_law_2637 : aq_T 251 2637 = some (aq_push (.int (0)) 2638) := rfl
theorem i_L_law_2638 : aq_T 251 2638 = some (aq_ret 5) := rfl
theorem i_L_law_2639 : aq_T 251 2639 = some (aq_go 2846) := rfl
theorem i_L_law_2642 : aq_T 251 2642 = some (aq_ld 4 1 2643) := rfl
theorem i_L_law_2643 : aq_T 251 2643 = some (aq_ld 4 0 2644) := rfl
theorem i_L_law_2644 : aq_T 251 2644 = some (aq_ld 0 4 2646) := rfl
theorem i_L_law_2646 : aq_T 251 2646 = some (aq_push (.int (1)) 2647) := rfl
theorem i_L_law_2647 : aq_T 251 2647 = some (aq_ar af_iadd 2648) := rfl
theorem i_L_law_2648 : aq_T 251 2648 = some (aq_ldi 0 2649) := rfl
theorem i_L_law_2649 : aq_T 251 2649 = some (aq_ld 4 0 2650) := rfl
theorem i_L_law_2650 : aq_T 251 2650 = some (aq_ld 0 4 2652) := rfl
theorem i_L_law_2652 : aq_T 251 2652 = some (aq_push (.int (2)) 2653) := rfl
theorem i_L_law_2653 : aq_T 251 2653 = some (aq_ar af_iadd 2654) := rfl
theorem i_L_law_2654 : aq_T 251 2654 = some (aq_ldi 0 2655) := rfl
theorem i_L_law_2655 : aq_T 251 2655 = some (aq_ld 4 0 2656) := rfl
theorem i_L_law_2656 : aq_T 251 2656 = some (aq_ld 0 4 2658) := rfl
theorem i_L_law_2658 : aq_T 251 2658 = some (aq_push (.int (3)) 2659) := rfl
theorem i_L_law_2659 : aq_T 251 2659 = some (aq_ar af_iadd 2660) := rfl
theorem i_L_law_2660 : aq_T 251 2660 = some (aq_ldi 0 2661) := rfl
theorem i_L_law_2661 : aq_T 251 2661 = some (aq_ld 4 3 2662) := rfl
theorem i_L_law_2662 : aq_T 251 2662 = some (aq_call 248 5 none 2665) := rfl
theorem i_L_law_2665 : aq_T 251 2665 = some (aq_st 0 5 2667) := rfl
theorem i_L_law_2667 : aq_T 251 2667 = some (aq_ld 4 2 2668) := rfl
theorem i_L_law_2668 : aq_T 251 2668 = some (aq_ld 4 0 2669) := rfl
theorem i_L_law_2669 : aq_T 251 2669 = some (aq_ld 0 4 2671) := rfl
theorem i_L_law_2671 : aq_T 251 2671 = some (aq_push (.int (1)) 2672) := rfl
theorem i_L_law_2672 : aq_T 251 2672 = some (aq_ar af_iadd 2673) := rfl
theorem i_L_law_2673 : aq_T 251 2673 = some (aq_ldi 0 2674) := rfl
theorem i_L_law_2674 : aq_T 251 2674 = some (aq_ld 4 0 2675) := rfl
theorem i_L_law_2675 : aq_T 251 2675 = some (aq_ld 0 4 2677) := rfl
theorem i_L_law_2677 : aq_T 251 2677 = some (aq_push (.int (2)) 2678) := rfl
theorem i_L_law_2678 : aq_T 251 2678 = some (aq_ar af_iadd 2679) := rfl
theorem i_L_law_2679 : aq_T 251 2679 = some (aq_ldi 0 2680) := rfl
theorem i_L_law_2680 : aq_T 251 2680 = some (aq_ld 4 0 2681) := rfl
theorem i_L_law_2681 : aq_T 251 2681 = some (aq_ld 0 4 2683) := rfl
theorem i_L_law_2683 : aq_T 251 2683 = some (aq_push (.int (3)) 2684) := rfl
theorem i_L_law_2684 : aq_T 251 2684 = some (aq_ar af_iadd 2685) := rfl
theorem i_L_law_2685 : aq_T 251 2685 = some (aq_ldi 0 2686) := rfl
theorem i_L_law_2686 : aq_T 251 2686 = some (aq_call 205 4 (some 7) 2689) := rfl
theorem i_L_law_2689 : aq_T 251 2689 = some (aq_st 0 6 2691) := rfl
theorem i_L_law_2691 : aq_T 251 2691 = some (aq_ld 4 2 2692) := rfl
theorem i_L_law_2692 : aq_T 251 2692 = some (aq_call 126 1 (some 7) 2695) := rfl
theorem i_L_law_2695 : aq_T 251 2695 = some (aq_ld 0 5 2697) := rfl
theorem i_L_law_2697 : aq_T 251 2697 = some (aq_if ai_eq 2702 2700) := rfl
theorem i_L_law_2700 : aq_T 251 2700 = some (aq_push (.int (0)) 2701) := rfl
theorem i_L_law_2701 : aq_T 251 2701 = some (aq_ret 5) := rfl
theorem i_L_law_2702 : aq_T 251 2702 = some (aq_ld 0 5 2704) := rfl
theorem i_L_law_2704 : aq_T 251 2704 = some (aq_if ai_ne0 2719 2707) := rfl
theorem i_L_law_2707 : aq_T 251 2707 = some (aq_ld 4 3 2708) := rfl
theorem i_L_law_2708 : aq_T 251 2708 = some (aq_push (.int (0)) 2709) := rfl
theorem i_L_law_2709 : aq_T 251 2709 = some (aq_ldl 2710) := rfl
theorem i_L_law_2710 : aq_T 251 2710 = some (aq_ld 0 6 2712) := rfl
theorem i_L_law_2712 : aq_T 251 2712 = some (aq_ar af_i2l 2713) := rfl
theorem i_L_law_2713 : aq_T 251 2713 = some (aq_ar af_lcmp 2714) := rfl
theorem i_L_law_2714 : aq_T 251 2714 = some (aq_if ai_eq0 2719 2717) := rfl
theorem i_L_law_2717 : aq_T 251 2717 = some (aq_push (.int (0)) 2718) := rfl
theorem i_L_law_2718 : aq_T 251 2718 = some (aq_ret 5) := rfl
theorem i_L_law_2719 : aq_T 251 2719 = some (aq_go 2846) := rfl
theorem i_L_law_2722 : aq_T 251 2722 = some (aq_ld 4 1 2723) := rfl
theorem i_L_law_2723 : aq_T 251 2723 = some (aq_ld 4 0 2724) := rfl
theorem i_L_law_2724 : aq_T 251 2724 = some (aq_ld 0 4 2726) := rfl
theorem i_L_law_2726 : aq_T 251 2726 = some (aq_push (.int (1)) 2727) := rfl
theorem i_L_law_2727 : aq_T 251 2727 = some (aq_ar af_iadd 2728) := rfl
theorem i_L_law_2728 : aq_T 251 2728 = some (aq_ldi 0 2729) := rfl
theorem i_L_law_2729 : aq_T 251 2729 = some (aq_ld 4 0 2730) := rfl
theorem i_L_law_2730 : aq_T 251 2730 = some (aq_ld 0 4 2732) := rfl
theorem i_L_law_2732 : aq_T 251 2732 = some (aq_push (.int (2)) 2733) := rfl
theorem i_L_law_2733 : aq_T 251 2733 = some (aq_ar af_iadd 2734) := rfl
theorem i_L_law_2734 : aq_T 251 2734 = some (aq_ldi 0 2735) := rfl
theorem i_L_law_2735 : aq_T 251 2735 = some (aq_ld 4 3 2736) := rfl
theorem i_L_law_2736 : aq_T 251 2736 = some (aq_call 249 4 none 2739) := rfl
theorem i_L_law_2739 : aq_T 251 2739 = some (aq_st 0 5 2741) := rfl
theorem i_L_law_2741 : aq_T 251 2741 = some (aq_ld 4 2 2742) := rfl
theorem i_L_law_2742 : aq_T 251 2742 = some (aq_ld 4 0 2743) := rfl
theorem i_L_law_2743 : aq_T 251 2743 = some (aq_ld 0 4 2745) := rfl
theorem i_L_law_2745 : aq_T 251 2745 = some (aq_push (.int (1)) 2746) := rfl
theorem i_L_law_2746 : aq_T 251 2746 = some (aq_ar af_iadd 2747) := rfl
theorem i_L_law_2747 : aq_T 251 2747 = some (aq_ldi 0 2748) := rfl
theorem i_L_law_2748 : aq_T 251 2748 = some (aq_ld 4 0 2749) := rfl
theorem i_L_law_2749 : aq_T 251 2749 = some (aq_ld 0 4 2751) := rfl
theorem i_L_law_2751 : aq_T 251 2751 = some (aq_push (.int (2)) 2752) := rfl
theorem i_L_law_2752 : aq_T 251 2752 = some (aq_ar af_iadd 2753) := rfl
theorem i_L_law_2753 : aq_T 251 2753 = some (aq_ldi 0 2754) := rfl
theorem i_L_law_2754 : aq_T 251 2754 = some (aq_call 206 3 (some 7) 2757) := rfl
theorem i_L_law_2757 : aq_T 251 2757 = some (aq_st 1 6 2759) := rfl
theorem i_L_law_2759 : aq_T 251 2759 = some (aq_ld 4 2 2760) := rfl
theorem i_L_law_2760 : aq_T 251 2760 = some (aq_call 126 1 (some 7) 2763) := rfl
theorem i_L_law_2763 : aq_T 251 2763 = some (aq_ld 0 5 2765) := rfl
theorem i_L_law_2765 : aq_T 251 2765 = some (aq_if ai_eq 2770 2768) := rfl
theorem i_L_law_2768 : aq_T 251 2768 = some (aq_push (.int (0)) 2769) := rfl
theorem i_L_law_2769 : aq_T 251 2769 = some (aq_ret 5) := rfl
theorem i_L_law_2770 : aq_T 251 2770 = some (aq_ld 0 5 2772) := rfl
theorem i_L_law_2772 : aq_T 251 2772 = some (aq_if ai_ne0 2786 2775) := rfl
theorem i_L_law_2775 : aq_T 251 2775 = some (aq_ld 4 3 2776) := rfl
theorem i_L_law_2776 : aq_T 251 2776 = some (aq_push (.int (0)) 2777) := rfl
theorem i_L_law_2777 : aq_T 251 2777 = some (aq_ldl 2778) := rfl
theorem i_L_law_2778 : aq_T 251 2778 = some (aq_ld 1 6 2780) := rfl
theorem i_L_law_2780 : aq_T 251 2780 = some (aq_ar af_lcmp 2781) := rfl
theorem i_L_law_2781 : aq_T 251 2781 = some (aq_if ai_eq0 2786 2784) := rfl
theorem i_L_law_2784 : aq_T 251 2784 = some (aq_push (.int (0)) 2785) := rfl
theorem i_L_law_2785 : aq_T 251 2785 = some (aq_ret 5) := rfl
theorem i_L_law_2786 : aq_T 251 2786 = some (aq_go 2846) := rfl
theorem i_L_law_2789 : aq_T 251 2789 = some (aq_ld 4 1 2790) := rfl
theorem i_L_law_2790 : aq_T 251 2790 = some (aq_call 108 1 (some 6) 2793) := rfl
theorem i_L_law_2793 : aq_T 251 2793 = some (aq_ld 4 2 2794) := rfl
theorem i_L_law_2794 : aq_T 251 2794 = some (aq_call 210 1 (some 7) 2797) := rfl
theorem i_L_law_2797 : aq_T 251 2797 = some (aq_if ai_eq 2846 2800) := rfl
theorem i_L_law_2800 : aq_T 251 2800 = some (aq_push (.int (0)) 2801) := rfl
theorem i_L_law_2801 : aq_T 251 2801 = some (aq_ret 5) := rfl
theorem i_L_law_2802 : aq_T 251 2802 = some (aq_ld 4 1 2803) := rfl
theorem i_L_law_2803 : aq_T 251 2803 = some (aq_ld 4 3 2804) := rfl
theorem i_L_law_2804 : aq_T 251 2804 = some (aq_call 250 2 none 2807) := rfl
theorem i_L_law_2807 : aq_T 251 2807 = some (aq_st 0 5 2809) := rfl
theorem i_L_law_2809 : aq_T 251 2809 = some (aq_ld 4 2 2810) := rfl
theorem i_L_law_2810 : aq_T 251 2810 = some (aq_call 211 1 (some 7) 2813) := rfl
theorem i_L_law_2813 : aq_T 251 2813 = some (aq_st 0 6 2815) := rfl
theorem i_L_law_2815 : aq_T 251 2815 = some (aq_ld 4 2 2816) := rfl
theorem i_L_law_2816 : aq_T 251 2816 = some (aq_call 126 1 (some 7) 2819) := rfl
theorem i_L_law_2819 : aq_T 251 2819 = some (aq_ld 0 5 2821) := rfl
theorem i_L_law_2821 : aq_T 251 2821 = some (aq_if ai_eq 2826 2824) := rfl
theorem i_L_law_2824 : aq_T 251 2824 = some (aq_push (.int (0)) 2825) := rfl
theorem i_L_law_2825 : aq_T 251 2825 = some (aq_ret 5) := rfl
theorem i_L_law_2826 : aq_T 251 2826 = some (aq_ld 0 5 2828) := rfl
theorem i_L_law_2828 : aq_T 251 2828 = some (aq_if ai_ne0 2843 2831) := rfl
theorem i_L_law_2831 : aq_T 251 2831 = some (aq_ld 4 3 2832) := rfl
theorem i_L_law_2832 : aq_T 251 2832 = some (aq_push (.int (0)) 2833) := rfl
theorem i_L_law_2833 : aq_T 251 2833 = some (aq_ldl 2834) := rfl
theorem i_L_law_2834 : aq_T 251 2834 = some (aq_ld 0 6 2836) := rfl
theorem i_L_law_2836 : aq_T 251 2836 = some (aq_ar af_i2l 2837) := rfl
theorem i_L_law_2837 : aq_T 251 2837 = some (aq_ar af_lcmp 2838) := rfl
theorem i_L_law_2838 : aq_T 251 2838 = some (aq_if ai_eq0 2843 2841) := rfl
theorem i_L_law_2841 : aq_T 251 2841 = some (aq_push (.int (0)) 2842) := rfl
theorem i_L_law_2842 : aq_T 251 2842 = some (aq_ret 5) := rfl
theorem i_L_law_2843 : aq_T 251 2843 = some (aq_go 2846) := rfl
theorem i_L_law_2846 : aq_T 251 2846 = some (aq_inc 4 (5) 2849) := rfl
theorem i_L_law_2849 : aq_T 251 2849 = some (aq_go 23) := rfl
theorem i_L_law_2852 : aq_T 251 2852 = some (aq_push (.int (1)) 2853) := rfl
theorem i_L_law_2853 : aq_T 251 2853 = some (aq_ret 5) := rfl
end
