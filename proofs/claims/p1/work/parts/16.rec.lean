theorem zm_340 : Cond.code ⟨"ScheduleCheck$Parser","readLevel","(II)V"⟩ prog_6_method_26_code 6 none ∈ zd_ww := zd_me 501 (by decide +kernel) (by decide +kernel)
theorem zm_341 : Cond.methodLink "ScheduleCheck$Parser" 303 ⟨"ScheduleCheck$Parser","readLevel","(II)V"⟩ ∈ zd_ww := zd_me 498 (by decide +kernel) (by decide +kernel)
theorem zm_342 : Cond.instanceMethod ⟨"ScheduleCheck$Parser","readLevel","(II)V"⟩ ∈ zd_ww := zd_me 500 (by decide +kernel) (by decide +kernel)
theorem zm_343 : Cond.selects "ScheduleCheck$Parser" ⟨"ScheduleCheck$Parser","readLevel","(II)V"⟩ ⟨"ScheduleCheck$Parser","readLevel","(II)V"⟩ ∈ zd_ww := zd_ms 20 (by decide +kernel) (by decide +kernel)
theorem zm_344 : Cond.code ⟨"ScheduleCheck$Parser","readAtom","(I)V"⟩ prog_6_method_27_code 3 none ∈ zd_ww := zd_me 505 (by decide +kernel) (by decide +kernel)
theorem zm_345 : Cond.methodLink "ScheduleCheck$Parser" 309 ⟨"ScheduleCheck$Parser","readAtom","(I)V"⟩ ∈ zd_ww := zd_me 502 (by decide +kernel) (by decide +kernel)
theorem zm_346 : Cond.instanceMethod ⟨"ScheduleCheck$Parser","readAtom","(I)V"⟩ ∈ zd_ww := zd_me 504 (by decide +kernel) (by decide +kernel)
theorem zm_347 : Cond.selects "ScheduleCheck$Parser" ⟨"ScheduleCheck$Parser","readAtom","(I)V"⟩ ⟨"ScheduleCheck$Parser","readAtom","(I)V"⟩ ∈ zd_ww := zd_ms 21 (by decide +kernel) (by decide +kernel)
theorem zm_348 : Cond.fieldLink "ScheduleCheck$Parser" 312 "ScheduleCheck$Token" "level" "I" ∈ zd_ww := zd_me 1289 (by decide +kernel) (by decide +kernel)
theorem zm_349 : Cond.fieldLink "ScheduleCheck$Parser" 274 "ScheduleCheck$Token" "LEFT" "LScheduleCheck$Token;" ∈ zd_ww := zd_me 514 (by decide +kernel) (by decide +kernel)
theorem zm_350 : Cond.fieldLink "ScheduleCheck$Parser" 322 "ScheduleCheck$Token" "NOT" "LScheduleCheck$Token;" ∈ zd_ww := zd_me 518 (by decide +kernel) (by decide +kernel)
theorem zm_351 : Cond.fieldLink "ScheduleCheck$Parser" 277 "ScheduleCheck$Token" "RIGHT" "LScheduleCheck$Token;" ∈ zd_ww := zd_me 516 (by decide +kernel) (by decide +kernel)
theorem zm_352 : Cond.code ⟨"ScheduleCheck$Parser","readOperand","()V"⟩ prog_6_method_28_code 4 none ∈ zd_ww := zd_me 509 (by decide +kernel) (by decide +kernel)
theorem zm_353 : Cond.methodLink "ScheduleCheck$Parser" 319 ⟨"ScheduleCheck$Parser","readOperand","()V"⟩ ∈ zd_ww := zd_me 506 (by decide +kernel) (by decide +kernel)
theorem zm_354 : Cond.instanceMethod ⟨"ScheduleCheck$Parser","readOperand","()V"⟩ ∈ zd_ww := zd_me 508 (by decide +kernel) (by decide +kernel)
theorem zm_355 : Cond.selects "ScheduleCheck$Parser" ⟨"ScheduleCheck$Parser","readOperand","()V"⟩ ⟨"ScheduleCheck$Parser","readOperand","()V"⟩ ∈ zd_ww := zd_ms 22 (by decide +kernel) (by decide +kernel)
theorem zm_356 : Cond.fieldLink "ScheduleCheck$Parser" 325 "ScheduleCheck$Token" "NEGATE" "LScheduleCheck$Token;" ∈ zd_ww := zd_me 520 (by decide +kernel) (by decide +kernel)
theorem zm_357 : Cond.fieldLink "ScheduleCheck$Parser" 297 "ScheduleCheck$Code" "size" "I" ∈ zd_ww := zd_me 228 (by decide +kernel) (by decide +kernel)
theorem zm_358 : Cond.fieldLink "ScheduleCheck$Parser" 300 "ScheduleCheck$Statement" "codeFrom" "I" ∈ zd_ww := zd_me 179 (by decide +kernel) (by decide +kernel)
theorem zm_359 : Cond.fieldLink "ScheduleCheck$Parser" 306 "ScheduleCheck$Statement" "codeTo" "I" ∈ zd_ww := zd_me 182 (by decide +kernel) (by decide +kernel)
theorem zm_360 : Cond.fieldLink "ScheduleCheck$Parser" 256 "ScheduleCheck$Statement" "uses" "I" ∈ zd_ww := zd_me 196 (by decide +kernel) (by decide +kernel)
theorem zm_361 : Cond.fieldLink "ScheduleCheck$Parser" 244 "ScheduleCheck$Kind" "ASSIGN" "LScheduleCheck$Kind;" ∈ zd_ww := zd_me 492 (by decide +kernel) (by decide +kernel)
theorem zm_362 : Cond.code ⟨"ScheduleCheck$Parser","readExpression","(LScheduleCheck$Statement;)V"⟩ prog_6_method_25_code 2 none ∈ zd_ww := zd_me 497 (by decide +kernel) (by decide +kernel)
theorem zm_363 : Cond.methodLink "ScheduleCheck$Parser" 253 ⟨"ScheduleCheck$Parser","readExpression","(LScheduleCheck$Statement;)V"⟩ ∈ zd_ww := zd_me 494 (by decide +kernel) (by decide +kernel)
theorem zm_364 : Cond.instanceMethod ⟨"ScheduleCheck$Parser","readExpression","(LScheduleCheck$Statement;)V"⟩ ∈ zd_ww := zd_me 496 (by decide +kernel) (by decide +kernel)
theorem zm_365 : Cond.selects "ScheduleCheck$Parser" ⟨"ScheduleCheck$Parser","readExpression","(LScheduleCheck$Statement;)V"⟩ ⟨"ScheduleCheck$Parser","readExpression","(LScheduleCheck$Statement;)V"⟩ ∈ zd_ww := zd_ms 19 (by decide +kernel) (by decide +kernel)
theorem zm_366 : Cond.fieldLink "ScheduleCheck$Parser" 268 "ScheduleCheck$Kind" "ASSERT" "LScheduleCheck$Kind;" ∈ zd_ww := zd_me 545 (by decide +kernel) (by decide +kernel)
theorem zm_367 : Cond.fieldLink "ScheduleCheck$Parser" 148 "ScheduleCheck$Token" "OPEN" "LScheduleCheck$Token;" ∈ zd_ww := zd_me 449 (by decide +kernel) (by decide +kernel)
theorem zm_368 : Cond.fieldLink "ScheduleCheck$Parser" 158 "ScheduleCheck$Program" "size" "I" ∈ zd_ww := zd_me 251 (by decide +kernel) (by decide +kernel)
theorem zm_369 : Cond.code ⟨"ScheduleCheck$Parser","readStatements","(II)V"⟩ prog_6_method_17_code 4 none ∈ zd_ww := zd_me 463 (by decide +kernel) (by decide +kernel)
theorem zm_370 : Cond.methodLink "ScheduleCheck$Parser" 161 ⟨"ScheduleCheck$Parser","readStatements","(II)V"⟩ ∈ zd_ww := zd_me 460 (by decide +kernel) (by decide +kernel)
theorem zm_371 : Cond.instanceMethod ⟨"ScheduleCheck$Parser","readStatements","(II)V"⟩ ∈ zd_ww := zd_me 462 (by decide +kernel) (by decide +kernel)
theorem zm_372 : Cond.selects "ScheduleCheck$Parser" ⟨"ScheduleCheck$Parser","readStatements","(II)V"⟩ ⟨"ScheduleCheck$Parser","readStatements","(II)V"⟩ ∈ zd_ww := zd_ms 16 (by decide +kernel) (by decide +kernel)
theorem zm_373 : Cond.fieldLink "ScheduleCheck$Parser" 168 "ScheduleCheck$Token" "CLOSE" "LScheduleCheck$Token;" ∈ zd_ww := zd_me 464 (by decide +kernel) (by decide +kernel)
theorem zm_374 : Cond.code ⟨"ScheduleCheck$Parser","readBlock","(II)I"⟩ prog_6_method_24_code 4 (Option.some FieldType.int) ∈ zd_ww := zd_me 561 (by decide +kernel) (by decide +kernel)
theorem zm_375 : Cond.methodLink "ScheduleCheck$Parser" 280 ⟨"ScheduleCheck$Parser","readBlock","(II)I"⟩ ∈ zd_ww := zd_me 558 (by decide +kernel) (by decide +kernel)
theorem zm_376 : Cond.instanceMethod ⟨"ScheduleCheck$Parser","readBlock","(II)I"⟩ ∈ zd_ww := zd_me 560 (by decide +kernel) (by decide +kernel)
theorem zm_377 : Cond.selects "ScheduleCheck$Parser" ⟨"ScheduleCheck$Parser","readBlock","(II)I"⟩ ⟨"ScheduleCheck$Parser","readBlock","(II)I"⟩ ∈ zd_ww := zd_ms 27 (by decide +kernel) (by decide +kernel)
theorem zm_378 : Cond.fieldLink "ScheduleCheck$Parser" 283 "ScheduleCheck$Statement" "yes" "I" ∈ zd_ww := zd_me 186 (by decide +kernel) (by decide +kernel)
theorem zm_379 : Cond.fieldLink "ScheduleCheck$Parser" 224 "ScheduleCheck$Kind" "IF" "LScheduleCheck$Kind;" ∈ zd_ww := zd_me 552 (by decide +kernel) (by decide +kernel)
theorem zm_380 : Cond.fieldLink "ScheduleCheck$Parser" 286 "ScheduleCheck$Token" "ELSE" "LScheduleCheck$Token;" ∈ zd_ww := zd_me 562 (by decide +kernel) (by decide +kernel)
theorem zm_381 : Cond.fieldLink "ScheduleCheck$Parser" 289 "ScheduleCheck$Statement" "no" "I" ∈ zd_ww := zd_me 190 (by decide +kernel) (by decide +kernel)
theorem zm_382 : Cond.fieldLink "ScheduleCheck$Parser" 178 "ScheduleCheck$Program" "statements" "[LScheduleCheck$Statement;" ∈ zd_ww := zd_me 263 (by decide +kernel) (by decide +kernel)
theorem zm_383 : Cond.code ⟨"ScheduleCheck$Statement","begin","(I)V"⟩ prog_8_method_2_code 2 none ∈ zd_ww := zd_me 473 (by decide +kernel) (by decide +kernel)
theorem zm_384 : Cond.methodLink "ScheduleCheck$Parser" 182 ⟨"ScheduleCheck$Statement","begin","(I)V"⟩ ∈ zd_ww := zd_me 470 (by decide +kernel) (by decide +kernel)
theorem zm_385 : Cond.instanceMethod ⟨"ScheduleCheck$Statement","begin","(I)V"⟩ ∈ zd_ww := zd_me 471 (by decide +kernel) (by decide +kernel)
theorem zm_386 : Cond.selects "ScheduleCheck$Statement" ⟨"ScheduleCheck$Statement","begin","(I)V"⟩ ⟨"ScheduleCheck$Statement","begin","(I)V"⟩ ∈ zd_ww := zd_me 472 (by decide +kernel) (by decide +kernel)
theorem zm_387 : Cond.fieldLink "ScheduleCheck$Parser" 187 "ScheduleCheck$1" "$SwitchMap$ScheduleCheck$Token" "[I" ∈ zd_ww := zd_me 474 (by decide +kernel) (by decide +kernel)
theorem zm_388 : Cond.methodLink "ScheduleCheck$Parser" 192 ⟨"ScheduleCheck$Token","ordinal","()I"⟩ ∈ zd_ww := zd_me 476 (by decide +kernel) (by decide +kernel)
theorem zm_389 : Cond.code ⟨"ScheduleCheck$Parser","readAssignment","(LScheduleCheck$Statement;)V"⟩ prog_6_method_19_code 3 none ∈ zd_ww := zd_me 485 (by decide +kernel) (by decide +kernel)
theorem zm_390 : Cond.methodLink "ScheduleCheck$Parser" 195 ⟨"ScheduleCheck$Parser","readAssignment","(LScheduleCheck$Statement;)V"⟩ ∈ zd_ww := zd_me 482 (by decide +kernel) (by decide +kernel)
theorem zm_391 : Cond.instanceMethod ⟨"ScheduleCheck$Parser","readAssignment","(LScheduleCheck$Statement;)V"⟩ ∈ zd_ww := zd_me 484 (by decide +kernel) (by decide +kernel)
theorem zm_392 : Cond.selects "ScheduleCheck$Parser" ⟨"ScheduleCheck$Parser","readAssignment","(LScheduleCheck$Statement;)V"⟩ ⟨"ScheduleCheck$Parser","readAssignment","(LScheduleCheck$Statement;)V"⟩ ∈ zd_ww := zd_ms 18 (by decide +kernel) (by decide +kernel)
theorem zm_393 : Cond.fieldLink "ScheduleCheck$Parser" 199 "ScheduleCheck$Kind" "TAKE" "LScheduleCheck$Kind;" ∈ zd_ww := zd_me 522 (by decide +kernel) (by decide +kernel)
theorem zm_394 : Cond.code ⟨"ScheduleCheck$Parser","readLockUse","(LScheduleCheck$Statement;LScheduleCheck$Kind;)V"⟩ prog_6_method_20_code 3 none ∈ zd_ww := zd_me 527 (by decide +kernel) (by decide +kernel)
theorem zm_395 : Cond.methodLink "ScheduleCheck$Parser" 205 ⟨"ScheduleCheck$Parser","readLockUse","(LScheduleCheck$Statement;LScheduleCheck$Kind;)V"⟩ ∈ zd_ww := zd_me 524 (by decide +kernel) (by decide +kernel)
theorem zm_396 : Cond.instanceMethod ⟨"ScheduleCheck$Parser","readLockUse","(LScheduleCheck$Statement;LScheduleCheck$Kind;)V"⟩ ∈ zd_ww := zd_me 526 (by decide +kernel) (by decide +kernel)
theorem zm_397 : Cond.selects "ScheduleCheck$Parser" ⟨"ScheduleCheck$Parser","readLockUse","(LScheduleCheck$Statement;LScheduleCheck$Kind;)V"⟩ ⟨"ScheduleCheck$Parser","readLockUse","(LScheduleCheck$Statement;LScheduleCheck$Kind;)V"⟩ ∈ zd_ww := zd_ms 23 (by decide +kernel) (by decide +kernel)
theorem zm_398 : Cond.fieldLink "ScheduleCheck$Parser" 209 "ScheduleCheck$Kind" "GIVE" "LScheduleCheck$Kind;" ∈ zd_ww := zd_me 537 (by decide +kernel) (by decide +kernel)
theorem zm_399 : Cond.fieldLink "ScheduleCheck$Parser" 212 "ScheduleCheck$Kind" "WAIT" "LScheduleCheck$Kind;" ∈ zd_ww := zd_me 539 (by decide +kernel) (by decide +kernel)
theorem zm_400 : Cond.code ⟨"ScheduleCheck$Parser","readAssert","(LScheduleCheck$Statement;)V"⟩ prog_6_method_21_code 2 none ∈ zd_ww := zd_me 544 (by decide +kernel) (by decide +kernel)
theorem zm_401 : Cond.methodLink "ScheduleCheck$Parser" 218 ⟨"ScheduleCheck$Parser","readAssert","(LScheduleCheck$Statement;)V"⟩ ∈ zd_ww := zd_me 541 (by decide +kernel) (by decide +kernel)
theorem zm_402 : Cond.instanceMethod ⟨"ScheduleCheck$Parser","readAssert","(LScheduleCheck$Statement;)V"⟩ ∈ zd_ww := zd_me 543 (by decide +kernel) (by decide +kernel)
theorem zm_403 : Cond.selects "ScheduleCheck$Parser" ⟨"ScheduleCheck$Parser","readAssert","(LScheduleCheck$Statement;)V"⟩ ⟨"ScheduleCheck$Parser","readAssert","(LScheduleCheck$Statement;)V"⟩ ∈ zd_ww := zd_ms 24 (by decide +kernel) (by decide +kernel)
theorem zm_404 : Cond.code ⟨"ScheduleCheck$Parser","readStop","(LScheduleCheck$Statement;)V"⟩ prog_6_method_22_code 2 none ∈ zd_ww := zd_me 550 (by decide +kernel) (by decide +kernel)
theorem zm_405 : Cond.methodLink "ScheduleCheck$Parser" 221 ⟨"ScheduleCheck$Parser","readStop","(LScheduleCheck$Statement;)V"⟩ ∈ zd_ww := zd_me 547 (by decide +kernel) (by decide +kernel)
theorem zm_406 : Cond.instanceMethod ⟨"ScheduleCheck$Parser","readStop","(LScheduleCheck$Statement;)V"⟩ ∈ zd_ww := zd_me 549 (by decide +kernel) (by decide +kernel)
theorem zm_407 : Cond.selects "ScheduleCheck$Parser" ⟨"ScheduleCheck$Parser","readStop","(LScheduleCheck$Statement;)V"⟩ ⟨"ScheduleCheck$Parser","readStop","(LScheduleCheck$Statement;)V"⟩ ∈ zd_ww := zd_ms 25 (by decide +kernel) (by decide +kernel)
theorem zm_408 : Cond.code ⟨"ScheduleCheck$Parser","readCondition","(LScheduleCheck$Statement;LScheduleCheck$Kind;I)V"⟩ prog_6_method_23_code 5 none ∈ zd_ww := zd_me 557 (by decide +kernel) (by decide +kernel)
theorem zm_409 : Cond.methodLink "ScheduleCheck$Parser" 227 ⟨"ScheduleCheck$Parser","readCondition","(LScheduleCheck$Statement;LScheduleCheck$Kind;I)V"⟩ ∈ zd_ww := zd_me 554 (by decide +kernel) (by decide +kernel)
theorem zm_410 : Cond.instanceMethod ⟨"ScheduleCheck$Parser","readCondition","(LScheduleCheck$Statement;LScheduleCheck$Kind;I)V"⟩ ∈ zd_ww := zd_me 556 (by decide +kernel) (by decide +kernel)
theorem zm_411 : Cond.selects "ScheduleCheck$Parser" ⟨"ScheduleCheck$Parser","readCondition","(LScheduleCheck$Statement;LScheduleCheck$Kind;I)V"⟩ ⟨"ScheduleCheck$Parser","readCondition","(LScheduleCheck$Statement;LScheduleCheck$Kind;I)V"⟩ ∈ zd_ww := zd_ms 26 (by decide +kernel) (by decide +kernel)
theorem zm_412 : Cond.fieldLink "ScheduleCheck$Parser" 231 "ScheduleCheck$Kind" "WHILE" "LScheduleCheck$Kind;" ∈ zd_ww := zd_me 564 (by decide +kernel) (by decide +kernel)
theorem zm_413 : Cond.fieldLink "ScheduleCheck$Parser" 234 "ScheduleCheck$Statement" "follow" "I" ∈ zd_ww := zd_me 194 (by decide +kernel) (by decide +kernel)
theorem zm_414 : Cond.code ⟨"ScheduleCheck$Parser","readStatement","(II)V"⟩ prog_6_method_18_code 4 none ∈ zd_ww := zd_me 469 (by decide +kernel) (by decide +kernel)
theorem zm_415 : Cond.methodLink "ScheduleCheck$Parser" 175 ⟨"ScheduleCheck$Parser","readStatement","(II)V"⟩ ∈ zd_ww := zd_me 466 (by decide +kernel) (by decide +kernel)
theorem zm_416 : Cond.instanceMethod ⟨"ScheduleCheck$Parser","readStatement","(II)V"⟩ ∈ zd_ww := zd_me 468 (by decide +kernel) (by decide +kernel)
theorem zm_417 : Cond.selects "ScheduleCheck$Parser" ⟨"ScheduleCheck$Parser","readStatement","(II)V"⟩ ⟨"ScheduleCheck$Parser","readStatement","(II)V"⟩ ∈ zd_ww := zd_ms 17 (by decide +kernel) (by decide +kernel)
theorem zm_418 : Cond.fieldLink "ScheduleCheck$Parser" 142 "ScheduleCheck$Program" "threads" "I" ∈ zd_ww := zd_me 248 (by decide +kernel) (by decide +kernel)
theorem zm_419 : Cond.fieldLink "ScheduleCheck$Parser" 58 "ScheduleCheck$Token" "THREAD" "LScheduleCheck$Token;" ∈ zd_ww := zd_me 447 (by decide +kernel) (by decide +kernel)
theorem zm_420 : Cond.fieldLink "ScheduleCheck$Parser" 151 "ScheduleCheck$Token" "LOCAL" "LScheduleCheck$Token;" ∈ zd_ww := zd_me 451 (by decide +kernel) (by decide +kernel)
theorem zm_421 : Cond.code ⟨"ScheduleCheck$Parser","readLocal","(I)V"⟩ prog_6_method_16_code 3 none ∈ zd_ww := zd_me 456 (by decide +kernel) (by decide +kernel)
theorem zm_422 : Cond.methodLink "ScheduleCheck$Parser" 154 ⟨"ScheduleCheck$Parser","readLocal","(I)V"⟩ ∈ zd_ww := zd_me 453 (by decide +kernel) (by decide +kernel)
theorem zm_423 : Cond.instanceMethod ⟨"ScheduleCheck$Parser","readLocal","(I)V"⟩ ∈ zd_ww := zd_me 455 (by decide +kernel) (by decide +kernel)
theorem zm_424 : Cond.selects "ScheduleCheck$Parser" ⟨"ScheduleCheck$Parser","readLocal","(I)V"⟩ ⟨"ScheduleCheck$Parser","readLocal","(I)V"⟩ ∈ zd_ww := zd_ms 15 (by decide +kernel) (by decide +kernel)
theorem zm_425 : Cond.fieldLink "ScheduleCheck$Parser" 165 "ScheduleCheck$Program" "entries" "[I" ∈ zd_ww := zd_me 260 (by decide +kernel) (by decide +kernel)
theorem zm_426 : Cond.code ⟨"ScheduleCheck$Program","clear","()V"⟩ prog_7_method_2_code 1 none ∈ zd_ww := zd_me 393 (by decide +kernel) (by decide +kernel)
theorem zm_427 : Cond.methodLink "ScheduleCheck$Parser" 41 ⟨"ScheduleCheck$Program","clear","()V"⟩ ∈ zd_ww := zd_me 390 (by decide +kernel) (by decide +kernel)
theorem zm_428 : Cond.instanceMethod ⟨"ScheduleCheck$Program","clear","()V"⟩ ∈ zd_ww := zd_me 391 (by decide +kernel) (by decide +kernel)
theorem zm_429 : Cond.selects "ScheduleCheck$Program" ⟨"ScheduleCheck$Program","clear","()V"⟩ ⟨"ScheduleCheck$Program","clear","()V"⟩ ∈ zd_ww := zd_me 392 (by decide +kernel) (by decide +kernel)
theorem zm_430 : Cond.code ⟨"ScheduleCheck$Parser","readDeclarations","()V"⟩ prog_6_method_6_code 2 none ∈ zd_ww := zd_me 397 (by decide +kernel) (by decide +kernel)
theorem zm_431 : Cond.methodLink "ScheduleCheck$Parser" 52 ⟨"ScheduleCheck$Parser","readDeclarations","()V"⟩ ∈ zd_ww := zd_me 394 (by decide +kernel) (by decide +kernel)
theorem zm_432 : Cond.instanceMethod ⟨"ScheduleCheck$Parser","readDeclarations","()V"⟩ ∈ zd_ww := zd_me 396 (by decide +kernel) (by decide +kernel)
theorem zm_433 : Cond.selects "ScheduleCheck$Parser" ⟨"ScheduleCheck$Parser","readDeclarations","()V"⟩ ⟨"ScheduleCheck$Parser","readDeclarations","()V"⟩ ∈ zd_ww := zd_ms 5 (by decide +kernel) (by decide +kernel)
theorem zm_434 : Cond.code ⟨"ScheduleCheck$Parser","readThread","()V"⟩ prog_6_method_15_code 3 none ∈ zd_ww := zd_me 446 (by decide +kernel) (by decide +kernel)
theorem zm_435 : Cond.methodLink "ScheduleCheck$Parser" 55 ⟨"ScheduleCheck$Parser","readThread","()V"⟩ ∈ zd_ww := zd_me 443 (by decide +kernel) (by decide +kernel)
theorem zm_436 : Cond.instanceMethod ⟨"ScheduleCheck$Parser","readThread","()V"⟩ ∈ zd_ww := zd_me 445 (by decide +kernel) (by decide +kernel)
theorem zm_437 : Cond.selects "ScheduleCheck$Parser" ⟨"ScheduleCheck$Parser","readThread","()V"⟩ ⟨"ScheduleCheck$Parser","readThread","()V"⟩ ∈ zd_ww := zd_ms 14 (by decide +kernel) (by decide +kernel)
theorem zm_438 : Cond.fieldLink "ScheduleCheck$Parser" 63 "ScheduleCheck$Token" "END" "LScheduleCheck$Token;" ∈ zd_ww := zd_me 566 (by decide +kernel) (by decide +kernel)
theorem zm_439 : Cond.code ⟨"ScheduleCheck$Program","settleWays","()V"⟩ prog_7_method_5_code 3 none ∈ zd_ww := zd_me 570 (by decide +kernel) (by decide +kernel)
theorem zm_440 : Cond.methodLink "ScheduleCheck$Parser" 69 ⟨"ScheduleCheck$Program","settleWays","()V"⟩ ∈ zd_ww := zd_me 567 (by decide +kernel) (by decide +kernel)
theorem zm_441 : Cond.instanceMethod ⟨"ScheduleCheck$Program","settleWays","()V"⟩ ∈ zd_ww := zd_me 568 (by decide +kernel) (by decide +kernel)
theorem zm_442 : Cond.selects "ScheduleCheck$Program" ⟨"ScheduleCheck$Program","settleWays","()V"⟩ ⟨"ScheduleCheck$Program","settleWays","()V"⟩ ∈ zd_ww := zd_me 569 (by decide +kernel) (by decide +kernel)
theorem zm_443 : Cond.fieldLink "ScheduleCheck" 16 "ScheduleCheck" "tokens" "LScheduleCheck$Tokens;" ∈ zd_ww := zd_me 301 (by decide +kernel) (by decide +kernel)
theorem zm_444 : Cond.fieldLink "ScheduleCheck" 9 "ScheduleCheck" "tape" "[B" ∈ zd_ww := zd_me 299 (by decide +kernel) (by decide +kernel)
theorem zm_445 : Cond.fieldLink "ScheduleCheck" 56 "ScheduleCheck" "tapeSize" "I" ∈ zd_ww := zd_me 300 (by decide +kernel) (by decide +kernel)
theorem zm_446 : Cond.code ⟨"ScheduleCheck$Tokens","split","([BI)V"⟩ prog_11_method_2_code 4 none ∈ zd_ww := zd_me 346 (by decide +kernel) (by decide +kernel)
theorem zm_447 : Cond.methodLink "ScheduleCheck" 64 ⟨"ScheduleCheck$Tokens","split","([BI)V"⟩ ∈ zd_ww := zd_me 343 (by decide +kernel) (by decide +kernel)
theorem zm_448 : Cond.instanceMethod ⟨"ScheduleCheck$Tokens","split","([BI)V"⟩ ∈ zd_ww := zd_me 344 (by decide +kernel) (by decide +kernel)
theorem zm_449 : Cond.selects "ScheduleCheck$Tokens" ⟨"ScheduleCheck$Tokens","split","([BI)V"⟩ ⟨"ScheduleCheck$Tokens","split","([BI)V"⟩ ∈ zd_ww := zd_me 345 (by decide +kernel) (by decide +kernel)
theorem zm_450 : Cond.fieldLink "ScheduleCheck" 23 "ScheduleCheck" "parser" "LScheduleCheck$Parser;" ∈ zd_ww := zd_me 302 (by decide +kernel) (by decide +kernel)
theorem zm_451 : Cond.fieldLink "ScheduleCheck" 41 "ScheduleCheck" "draft" "LScheduleCheck$Program;" ∈ zd_ww := zd_me 306 (by decide +kernel) (by decide +kernel)
theorem zm_452 : Cond.code ⟨"ScheduleCheck$Parser","parse","(LScheduleCheck$Tokens;LScheduleCheck$Program;)I"⟩ prog_6_method_2_code 4 (Option.some FieldType.int) ∈ zd_ww := zd_me 389 (by decide +kernel) (by decide +kernel)
theorem zm_453 : Cond.methodLink "ScheduleCheck" 68 ⟨"ScheduleCheck$Parser","parse","(LScheduleCheck$Tokens;LScheduleCheck$Program;)I"⟩ ∈ zd_ww := zd_me 386 (by decide +kernel) (by decide +kernel)
theorem zm_454 : Cond.instanceMethod ⟨"ScheduleCheck$Parser","parse","(LScheduleCheck$Tokens;LScheduleCheck$Program;)I"⟩ ∈ zd_ww := zd_me 387 (by decide +kernel) (by decide +kernel)
theorem zm_455 : Cond.selects "ScheduleCheck$Parser" ⟨"ScheduleCheck$Parser","parse","(LScheduleCheck$Tokens;LScheduleCheck$Program;)I"⟩ ⟨"ScheduleCheck$Parser","parse","(LScheduleCheck$Tokens;LScheduleCheck$Program;)I"⟩ ∈ zd_ww := zd_me 388 (by decide +kernel) (by decide +kernel)
theorem zm_456 : Cond.fieldLink "ScheduleCheck" 37 "ScheduleCheck" "program" "LScheduleCheck$Program;" ∈ zd_ww := zd_me 305 (by decide +kernel) (by decide +kernel)
theorem zm_457 : Cond.fieldLink "ScheduleCheck" 49 "ScheduleCheck" "explorer" "LScheduleCheck$Explorer;" ∈ zd_ww := zd_me 304 (by decide +kernel) (by decide +kernel)
theorem zm_458 : Cond.code ⟨"ScheduleCheck$Explorer","explore","(LScheduleCheck$Program;)Z"⟩ prog_4_method_2_code 5 (Option.some FieldType.boolean) ∈ zd_ww := zd_me 579 (by decide +kernel) (by decide +kernel)
theorem zm_459 : Cond.methodLink "ScheduleCheck" 72 ⟨"ScheduleCheck$Explorer","explore","(LScheduleCheck$Program;)Z"⟩ ∈ zd_ww := zd_me 576 (by decide +kernel) (by decide +kernel)
theorem zm_460 : Cond.instanceMethod ⟨"ScheduleCheck$Explorer","explore","(LScheduleCheck$Program;)Z"⟩ ∈ zd_ww := zd_me 577 (by decide +kernel) (by decide +kernel)
theorem zm_461 : Cond.selects "ScheduleCheck$Explorer" ⟨"ScheduleCheck$Explorer","explore","(LScheduleCheck$Program;)Z"⟩ ⟨"ScheduleCheck$Explorer","explore","(LScheduleCheck$Program;)Z"⟩ ∈ zd_ww := zd_me 578 (by decide +kernel) (by decide +kernel)
theorem zm_462 : Cond.methodLink "ScheduleCheck" 76 ⟨"ScheduleCheck$Program","clear","()V"⟩ ∈ zd_ww := zd_me 700 (by decide +kernel) (by decide +kernel)
theorem zm_463 : Cond.fieldLink "ScheduleCheck" 30 "ScheduleCheck" "states" "LScheduleCheck$States;" ∈ zd_ww := zd_me 303 (by decide +kernel) (by decide +kernel)
theorem zm_464 : Cond.methodLink "ScheduleCheck" 79 ⟨"ScheduleCheck$States","clear","()V"⟩ ∈ zd_ww := zd_me 701 (by decide +kernel) (by decide +kernel)
def y_Parser_readLevel : MethodName := ⟨"ScheduleCheck$Parser","readLevel","(II)V"⟩
theorem d_Parser_readLevel_0 : decode prog_6_method_26_code 0 = .ok (.iload_n 1, 1) := by decide +kernel
theorem d_Parser_readLevel_1 : decode prog_6_method_26_code 1 = .ok (.iconst 5, 1) := by decide +kernel
theorem d_Parser_readLevel_2 : decode prog_6_method_26_code 2 = .ok (.if_icmp .ne 9, 3) := by decide +kernel
theorem d_Parser_readLevel_5 : decode prog_6_method_26_code 5 = .ok (.aload_n 0, 1) := by decide +kernel
theorem d_Parser_readLevel_6 : decode prog_6_method_26_code 6 = .ok (.iload_n 2, 1) := by decide +kernel
theorem d_Parser_readLevel_7 : decode prog_6_method_26_code 7 = .ok (.invokevirtual 309, 3) := by decide +kernel
theorem d_Parser_readLevel_10 : decode prog_6_method_26_code 10 = .ok (.return_, 1) := by decide +kernel
theorem d_Parser_readLevel_11 : decode prog_6_method_26_code 11 = .ok (.aload_n 0, 1) := by decide +kernel
theorem d_Parser_readLevel_12 : decode prog_6_method_26_code 12 = .ok (.iload_n 1, 1) := by decide +kernel
theorem d_Parser_readLevel_13 : decode prog_6_method_26_code 13 = .ok (.iconst 1, 1) := by decide +kernel
theorem d_Parser_readLevel_14 : decode prog_6_method_26_code 14 = .ok (.iadd, 1) := by decide +kernel
theorem d_Parser_readLevel_15 : decode prog_6_method_26_code 15 = .ok (.iload_n 2, 1) := by decide +kernel
theorem d_Parser_readLevel_16 : decode prog_6_method_26_code 16 = .ok (.invokevirtual 303, 3) := by decide +kernel
theorem d_Parser_readLevel_19 : decode prog_6_method_26_code 19 = .ok (.iload_n 1, 1) := by decide +kernel
theorem d_Parser_readLevel_20 : decode prog_6_method_26_code 20 = .ok (.iconst 2, 1) := by decide +kernel
theorem d_Parser_readLevel_21 : decode prog_6_method_26_code 21 = .ok (.if_icmp .ne 7, 3) := by decide +kernel
theorem d_Parser_readLevel_24 : decode prog_6_method_26_code 24 = .ok (.iconst 1, 1) := by decide +kernel
theorem d_Parser_readLevel_25 : decode prog_6_method_26_code 25 = .ok (.goto 6, 3) := by decide +kernel
theorem d_Parser_readLevel_28 : decode prog_6_method_26_code 28 = .ok (.sipush 150, 3) := by decide +kernel
theorem d_Parser_readLevel_31 : decode prog_6_method_26_code 31 = .ok (.istore_n 3, 1) := by decide +kernel
theorem d_Parser_readLevel_32 : decode prog_6_method_26_code 32 = .ok (.iconst 0, 1) := by decide +kernel
theorem d_Parser_readLevel_33 : decode prog_6_method_26_code 33 = .ok (.istore 4, 2) := by decide +kernel
theorem d_Parser_readLevel_35 : decode prog_6_method_26_code 35 = .ok (.iload 4, 2) := by decide +kernel
theorem d_Parser_readLevel_37 : decode prog_6_method_26_code 37 = .ok (.iload_n 3, 1) := by decide +kernel
theorem d_Parser_readLevel_38 : decode prog_6_method_26_code 38 = .ok (.if_icmp .ge 51, 3) := by decide +kernel
theorem d_Parser_readLevel_41 : decode prog_6_method_26_code 41 = .ok (.aload_n 0, 1) := by decide +kernel
theorem d_Parser_readLevel_42 : decode prog_6_method_26_code 42 = .ok (.getfield 33, 3) := by decide +kernel
theorem d_Parser_readLevel_45 : decode prog_6_method_26_code 45 = .ok (.getfield 312, 3) := by decide +kernel
theorem d_Parser_readLevel_48 : decode prog_6_method_26_code 48 = .ok (.iload_n 1, 1) := by decide +kernel
theorem d_Parser_readLevel_49 : decode prog_6_method_26_code 49 = .ok (.if_icmp .ne 40, 3) := by decide +kernel
theorem d_Parser_readLevel_52 : decode prog_6_method_26_code 52 = .ok (.aload_n 0, 1) := by decide +kernel
theorem d_Parser_readLevel_53 : decode prog_6_method_26_code 53 = .ok (.getfield 33, 3) := by decide +kernel
theorem d_Parser_readLevel_56 : decode prog_6_method_26_code 56 = .ok (.astore 5, 2) := by decide +kernel
theorem d_Parser_readLevel_58 : decode prog_6_method_26_code 58 = .ok (.aload_n 0, 1) := by decide +kernel
theorem d_Parser_readLevel_59 : decode prog_6_method_26_code 59 = .ok (.invokevirtual 78, 3) := by decide +kernel
theorem d_Parser_readLevel_62 : decode prog_6_method_26_code 62 = .ok (.aload_n 0, 1) := by decide +kernel
theorem d_Parser_readLevel_63 : decode prog_6_method_26_code 63 = .ok (.iload_n 1, 1) := by decide +kernel
theorem d_Parser_readLevel_64 : decode prog_6_method_26_code 64 = .ok (.iconst 1, 1) := by decide +kernel
theorem d_Parser_readLevel_65 : decode prog_6_method_26_code 65 = .ok (.iadd, 1) := by decide +kernel
theorem d_Parser_readLevel_66 : decode prog_6_method_26_code 66 = .ok (.iload_n 2, 1) := by decide +kernel
theorem d_Parser_readLevel_67 : decode prog_6_method_26_code 67 = .ok (.invokevirtual 303, 3) := by decide +kernel
theorem d_Parser_readLevel_70 : decode prog_6_method_26_code 70 = .ok (.aload_n 0, 1) := by decide +kernel
theorem d_Parser_readLevel_71 : decode prog_6_method_26_code 71 = .ok (.getfield 37, 3) := by decide +kernel
theorem d_Parser_readLevel_74 : decode prog_6_method_26_code 74 = .ok (.getfield 293, 3) := by decide +kernel
theorem d_Parser_readLevel_77 : decode prog_6_method_26_code 77 = .ok (.aload 5, 2) := by decide +kernel
theorem d_Parser_readLevel_79 : decode prog_6_method_26_code 79 = .ok (.iconst 0, 1) := by decide +kernel
theorem d_Parser_readLevel_80 : decode prog_6_method_26_code 80 = .ok (.invokevirtual 315, 3) := by decide +kernel
theorem d_Parser_readLevel_83 : decode prog_6_method_26_code 83 = .ok (.iinc 4 1, 3) := by decide +kernel
theorem d_Parser_readLevel_86 : decode prog_6_method_26_code 86 = .ok (.goto (-51), 3) := by decide +kernel
theorem d_Parser_readLevel_89 : decode prog_6_method_26_code 89 = .ok (.return_, 1) := by decide +kernel
def y_Parser_readAtom : MethodName := ⟨"ScheduleCheck$Parser","readAtom","(I)V"⟩
theorem d_Parser_readAtom_0 : decode prog_6_method_27_code 0 = .ok (.aload_n 0, 1) := by decide +kernel
theorem d_Parser_readAtom_1 : decode prog_6_method_27_code 1 = .ok (.getfield 33, 3) := by decide +kernel
theorem d_Parser_readAtom_4 : decode prog_6_method_27_code 4 = .ok (.astore_n 2, 1) := by decide +kernel
theorem d_Parser_readAtom_5 : decode prog_6_method_27_code 5 = .ok (.aload_n 2, 1) := by decide +kernel
theorem d_Parser_readAtom_6 : decode prog_6_method_27_code 6 = .ok (.getstatic 129, 3) := by decide +kernel
theorem d_Parser_readAtom_9 : decode prog_6_method_27_code 9 = .ok (.if_acmp .eq 10, 3) := by decide +kernel
theorem d_Parser_readAtom_12 : decode prog_6_method_27_code 12 = .ok (.aload_n 2, 1) := by decide +kernel
theorem d_Parser_readAtom_13 : decode prog_6_method_27_code 13 = .ok (.getstatic 135, 3) := by decide +kernel
theorem d_Parser_readAtom_16 : decode prog_6_method_27_code 16 = .ok (.if_acmp .ne 10, 3) := by decide +kernel
theorem d_Parser_readAtom_19 : decode prog_6_method_27_code 19 = .ok (.aload_n 0, 1) := by decide +kernel
theorem d_Parser_readAtom_20 : decode prog_6_method_27_code 20 = .ok (.invokevirtual 319, 3) := by decide +kernel
theorem d_Parser_readAtom_23 : decode prog_6_method_27_code 23 = .ok (.goto 104, 3) := by decide +kernel
theorem d_Parser_readAtom_26 : decode prog_6_method_27_code 26 = .ok (.iload_n 1, 1) := by decide +kernel
theorem d_Parser_readAtom_27 : decode prog_6_method_27_code 27 = .ok (.bipush 8, 2) := by decide +kernel
theorem d_Parser_readAtom_29 : decode prog_6_method_27_code 29 = .ok (.if_icmp .ne 10, 3) := by decide +kernel
theorem d_Parser_readAtom_32 : decode prog_6_method_27_code 32 = .ok (.aload_n 0, 1) := by decide +kernel
theorem d_Parser_readAtom_33 : decode prog_6_method_27_code 33 = .ok (.invokevirtual 66, 3) := by decide +kernel
theorem d_Parser_readAtom_36 : decode prog_6_method_27_code 36 = .ok (.goto 91, 3) := by decide +kernel
theorem d_Parser_readAtom_39 : decode prog_6_method_27_code 39 = .ok (.aload_n 2, 1) := by decide +kernel
theorem d_Parser_readAtom_40 : decode prog_6_method_27_code 40 = .ok (.getstatic 274, 3) := by decide +kernel
theorem d_Parser_readAtom_43 : decode prog_6_method_27_code 43 = .ok (.if_acmp .ne 25, 3) := by decide +kernel
theorem d_Parser_readAtom_46 : decode prog_6_method_27_code 46 = .ok (.aload_n 0, 1) := by decide +kernel
theorem d_Parser_readAtom_47 : decode prog_6_method_27_code 47 = .ok (.invokevirtual 78, 3) := by decide +kernel
theorem d_Parser_readAtom_50 : decode prog_6_method_27_code 50 = .ok (.aload_n 0, 1) := by decide +kernel
theorem d_Parser_readAtom_51 : decode prog_6_method_27_code 51 = .ok (.iconst 0, 1) := by decide +kernel
theorem d_Parser_readAtom_52 : decode prog_6_method_27_code 52 = .ok (.iload_n 1, 1) := by decide +kernel
theorem d_Parser_readAtom_53 : decode prog_6_method_27_code 53 = .ok (.iconst 1, 1) := by decide +kernel
theorem d_Parser_readAtom_54 : decode prog_6_method_27_code 54 = .ok (.iadd, 1) := by decide +kernel
theorem d_Parser_readAtom_55 : decode prog_6_method_27_code 55 = .ok (.invokevirtual 303, 3) := by decide +kernel
theorem d_Parser_readAtom_58 : decode prog_6_method_27_code 58 = .ok (.aload_n 0, 1) := by decide +kernel
theorem d_Parser_readAtom_59 : decode prog_6_method_27_code 59 = .ok (.getstatic 277, 3) := by decide +kernel
theorem d_Parser_readAtom_62 : decode prog_6_method_27_code 62 = .ok (.invokevirtual 116, 3) := by decide +kernel
theorem d_Parser_readAtom_65 : decode prog_6_method_27_code 65 = .ok (.goto 62, 3) := by decide +kernel
theorem d_Parser_readAtom_68 : decode prog_6_method_27_code 68 = .ok (.aload_n 2, 1) := by decide +kernel
theorem d_Parser_readAtom_69 : decode prog_6_method_27_code 69 = .ok (.getstatic 123, 3) := by decide +kernel
theorem d_Parser_readAtom_72 : decode prog_6_method_27_code 72 = .ok (.if_acmp .eq 10, 3) := by decide +kernel
theorem d_Parser_readAtom_75 : decode prog_6_method_27_code 75 = .ok (.aload_n 2, 1) := by decide +kernel
theorem d_Parser_readAtom_76 : decode prog_6_method_27_code 76 = .ok (.getstatic 322, 3) := by decide +kernel
theorem d_Parser_readAtom_79 : decode prog_6_method_27_code 79 = .ok (.if_acmp .ne 44, 3) := by decide +kernel
theorem d_Parser_readAtom_82 : decode prog_6_method_27_code 82 = .ok (.aload_n 0, 1) := by decide +kernel
theorem d_Parser_readAtom_83 : decode prog_6_method_27_code 83 = .ok (.invokevirtual 78, 3) := by decide +kernel
theorem d_Parser_readAtom_86 : decode prog_6_method_27_code 86 = .ok (.aload_n 0, 1) := by decide +kernel
theorem d_Parser_readAtom_87 : decode prog_6_method_27_code 87 = .ok (.iload_n 1, 1) := by decide +kernel
theorem d_Parser_readAtom_88 : decode prog_6_method_27_code 88 = .ok (.iconst 1, 1) := by decide +kernel
theorem d_Parser_readAtom_89 : decode prog_6_method_27_code 89 = .ok (.iadd, 1) := by decide +kernel
theorem d_Parser_readAtom_90 : decode prog_6_method_27_code 90 = .ok (.invokevirtual 309, 3) := by decide +kernel
theorem d_Parser_readAtom_93 : decode prog_6_method_27_code 93 = .ok (.aload_n 0, 1) := by decide +kernel
theorem d_Parser_readAtom_94 : decode prog_6_method_27_code 94 = .ok (.getfield 37, 3) := by decide +kernel
theorem d_Parser_readAtom_97 : decode prog_6_method_27_code 97 = .ok (.getfield 293, 3) := by decide +kernel
theorem d_Parser_readAtom_100 : decode prog_6_method_27_code 100 = .ok (.aload_n 2, 1) := by decide +kernel
theorem d_Parser_readAtom_101 : decode prog_6_method_27_code 101 = .ok (.getstatic 322, 3) := by decide +kernel
theorem d_Parser_readAtom_104 : decode prog_6_method_27_code 104 = .ok (.if_acmp .ne 9, 3) := by decide +kernel
theorem d_Parser_readAtom_107 : decode prog_6_method_27_code 107 = .ok (.getstatic 322, 3) := by decide +kernel
theorem d_Parser_readAtom_110 : decode prog_6_method_27_code 110 = .ok (.goto 6, 3) := by decide +kernel
theorem d_Parser_readAtom_113 : decode prog_6_method_27_code 113 = .ok (.getstatic 325, 3) := by decide +kernel
theorem d_Parser_readAtom_116 : decode prog_6_method_27_code 116 = .ok (.iconst 0, 1) := by decide +kernel
theorem d_Parser_readAtom_117 : decode prog_6_method_27_code 117 = .ok (.invokevirtual 315, 3) := by decide +kernel
theorem d_Parser_readAtom_120 : decode prog_6_method_27_code 120 = .ok (.goto 7, 3) := by decide +kernel
theorem d_Parser_readAtom_123 : decode prog_6_method_27_code 123 = .ok (.aload_n 0, 1) := by decide +kernel
theorem d_Parser_readAtom_124 : decode prog_6_method_27_code 124 = .ok (.invokevirtual 66, 3) := by decide +kernel
theorem d_Parser_readAtom_127 : decode prog_6_method_27_code 127 = .ok (.return_, 1) := by decide +kernel
/-! ScheduleCheck$Parser.readLevel -/
def zf_Parser_readLevel_b_89 (kA : Int32 → zs_S → Option (zs_S)) (kL : Int32 → Int32 → zs_S → Option (zs_S)) (F : Nat)   (σ : zs_S) : Option (zs_S) :=
  some σ
def zf_Parser_readLevel_b_35 (kA : Int32 → zs_S → Option (zs_S)) (kL : Int32 → Int32 → zs_S → Option (zs_S)) (F : Nat)  : Nat → Int32 → Int32 → Int32 → Int32 → zs_S → Option (zs_S)
  | 0, _, _, _, _, _ => none
  | n + 1, x1, x2, x3, x4, σ =>
    if x3 ≤ x4 then (
      zf_Parser_readLevel_b_89 kA kL F σ
    ) else (
      zq_q (zs_r σ 7 6) fun q7 =>
      zq_g (zq_t q7) <|
      if (zd_tv 2 q7) = x1 then (
        zq_q (zs_r σ 7 6) fun q9 =>
        zq_d (zf_Parser_advance F σ) fun σ10 =>
        zq_d (kL (x1 + 1) x2 σ10) fun σ13 =>
        zq_q (zs_r σ13 7 7) fun q16 =>
        zq_g (zq_k 0 q16 15) <|
        zq_q (zd_rf 0 q16 8) fun q18 =>
        zq_g (zq_k 0 q18 17) <|
        zq_d (zf_Code_add F q18 q9 0 σ13) fun σ19 =>
        zq_v (x4 + 1) fun v23 =>
        (zf_Parser_readLevel_b_35 kA kL F n) x1 x2 x3 v23 σ19
      ) else (
        zf_Parser_readLevel_b_89 kA kL F σ
      )
    )
def zf_Parser_readLevel_b_31 (kA : Int32 → zs_S → Option (zs_S)) (kL : Int32 → Int32 → zs_S → Option (zs_S)) (F : Nat)  (x1 : Int32) (x2 : Int32) (t0 : Int32) (σ : zs_S) : Option (zs_S) :=
  zf_Parser_readLevel_b_35 kA kL F F x1 x2 t0 0 σ
def zf_Parser_readLevel_b (kA : Int32 → zs_S → Option (zs_S)) (kL : Int32 → Int32 → zs_S → Option (zs_S)) (F : Nat) (x1 : Int32) (x2 : Int32) (σ : zs_S) : Option (zs_S) :=
  if x1 = 5 then (
    zq_d (kA x2 σ) fun σ4 =>
    some σ4
  ) else (
    zq_d (kL (x1 + 1) x2 σ) fun σ1 =>
    if x1 = 2 then (
      zf_Parser_readLevel_b_31 kA kL F x1 x2 1 σ1
    ) else (
      zf_Parser_readLevel_b_31 kA kL F x1 x2 150 σ1
    )
  )
set_option maxHeartbeats 4000000 in
set_option maxRecDepth 100000 in
theorem zc_Parser_readLevel_b {l : Launch} {D : va_G} {cA : Nat → ClassId} {ad : Nat → Nat} {A : Nat → Prop} {F : Nat} {x1 : Int32} {x2 : Int32} {σ : zs_S} {q : zs_S} {kA : Int32 → zs_S → Option (zs_S)} {fA lA : Nat} (hA : ∀ {x1 : Int32} {σ : zs_S} {q : zs_S}, kA x1 σ = some q → Met l y_Parser_readAtom (.code y_Parser_readAtom prog_6_method_27_code 3 none :: zd_ww) { frames := fA, cells := 0, slots := 0, locals := lA } (va_Pc [.ref (ad 7), .int x1] (zs_U 0 D cA ad A σ)) (zs_Qv 0 D cA ad A q) 0 0 A) {kL : Int32 → Int32 → zs_S → Option (zs_S)} {fL lL : Nat} (hL : ∀ {x1 : Int32} {x2 : Int32} {σ : zs_S} {q : zs_S}, kL x1 x2 σ = some q → Met l y_Parser_readLevel (.code y_Parser_readLevel prog_6_method_26_code 6 none :: zd_ww) { frames := fL, cells := 0, slots := 0, locals := lL } (va_Pc [.ref (ad 7), .int x1, .int x2] (zs_U 0 D cA ad A σ)) (zs_Qv 0 D cA ad A q) 0 0 A) (hle1 : fA ≤ fL) (hle2 : lA ≤ lL) (hJ : zs_J ad) (hf : zf_Parser_readLevel_b kA kL F x1 x2 σ = some q) : Met l y_Parser_readLevel (.code y_Parser_readLevel prog_6_method_26_code 6 none :: zd_ww) { frames := fL + 1, cells := 0, slots := 0, locals := lL + 25 } (va_Pc [.ref (ad 7), .int x1, .int x2] (zs_U 0 D cA ad A σ)) (zs_Qv 0 D cA ad A q) 0 0 A := by
  refine Met.ofW (cc := prog_6_method_26_code) (maxL := 6) (ret := none) (by decide) rfl ?_
  intro p e s m args below meth c s₁ B hml hv
  obtain ⟨hargs, hP, hK, hD, hZ⟩ := hv
  have G : zs_G 0 p s m args c prog_6_method_26_code 6 "ScheduleCheck$Parser" D cA ad A := ⟨⟨B.exec, B.bytes, hml, findClass_of_methodNamed B.named, fun w h => atoms_spec B.pre w (List.mem_cons_of_mem _ h)⟩, hK, hJ, hZ⟩
  have hw : zs_I 0 D cA ad A s σ s.heap [] := ⟨hP, hD, va_S.rf⟩
  have hx := G.1.1
  have hb := G.1.2.1
  have hown := G.1.2.2.2.1
  have hts := G.1.2.2.2.2
  have hr := B.returns
  have hlocks := B.notSynchronized
  have he : entryFrame m args 6 = F0 m 0 ((lg_sl [.ref (ad 7), .int x1, .int x2] ++ List.replicate (6 - (lg_sl [.ref (ad 7), .int x1, .int x2]).length) Slot.unset).toArray) [] := by rw [hargs]; exact lg_entry_eq m _ 6
  have hl := lv_entry [.ref (ad 7), .int x1, .int x2] (n := 6) (Nat.le_of_ble_eq_true rfl)
  rw [he]
  generalize (lg_sl [.ref (ad 7), .int x1, .int x2] ++ List.replicate (6 - (lg_sl [.ref (ad 7), .int x1, .int x2]).length) Slot.unset).toArray = ls at hl
  have hl : lv_has ls 6 [(0, .ref (ad 7)), (1, .int x1), (2, .int x2)] := hl
  obtain ⟨RR, hR⟩ : ∃ z, z = (headSpec (.code y_Parser_readLevel prog_6_method_26_code 6 none :: zd_ww) { frames := fL + 1, cells := 0, slots := 0, locals := lL + 25 }).room := ⟨_, rfl⟩
  rw [← hR]
  obtain ⟨QQ, hQ⟩ : ∃ z, z = MQ below (zs_Qv 0 D cA ad A q) args s 0 0 A := ⟨_, rfl⟩
  rw [← hQ]
  have hR1 : fL + 1 ≤ RR.frames := by rw [hR]; exact Nat.le_refl _
  have hR2 : lL + 25 ≤ RR.locals := by rw [hR]; exact Nat.le_refl _
  generalize s.heap = H at hw ⊢
  generalize ([] : List Loc) = locs at hw ⊢
  have K89 : ∀ (σ : zs_S) (H : Heap) (locs : List Loc) (ls : Array Slot), zf_Parser_readLevel_b_89 kA kL F σ = some q → zs_I 0 D cA ad A s σ H locs → lv_has ls 6 [] → W p l e RR s m args below meth c H locs 0 0 QQ (F0 m 89 ls []) := by
    intro   σ H locs ls hf hw hl
    unfold zf_Parser_readLevel_b_89 at hf
    exact zr_vret G hw hr hlocks hf hQ d_Parser_readLevel_89
  have K35 : ∀ (n : Nat) (x1 : Int32) (x2 : Int32) (x3 : Int32) (x4 : Int32) (σ : zs_S) (H : Heap) (locs : List Loc) (ls : Array Slot), zf_Parser_readLevel_b_35 kA kL F n x1 x2 x3 x4 σ = some q → zs_I 0 D cA ad A s σ H locs → lv_has ls 6 [(0, .ref (ad 7)), (1, .int x1), (2, .int x2), (3, .int x3), (4, .int x4)] → W p l e RR s m args below meth c H locs 0 0 QQ (F0 m 35 ls []) := by
    intro  n
    induction n with
    | zero => intro x1 x2 x3 x4 σ H locs ls hf hw hl; exact nomatch (show (none : Option (zs_S)) = some q from hf)
    | succ n ih =>
      intro x1 x2 x3 x4 σ H locs ls hf hw hl
      rw [zf_Parser_readLevel_b_35] at hf
      refine lv_iload hx hb d_Parser_readLevel_35 (lv_at hl 4 rfl) ?_
      refine lv_iload_n hx hb d_Parser_readLevel_37 rfl (lv_at hl 3 rfl) ?_
      refine lv_icmp_ge hx hb d_Parser_readLevel_38 (tgt := 89) rfl (fun hc => ?_) (fun hc => ?_)
      · have hf := (if_pos hc).symm.trans hf
        exact K89 σ H locs ls hf hw (lv_sub hl [] rfl)
      · have hf := (if_neg hc).symm.trans hf
        refine lv_aload_n hx hb d_Parser_readLevel_41 rfl (lv_at hl 0 rfl) ?_
        obtain ⟨q7, e_q7, h_q7, hf⟩ := zq_qs hf
        refine zr_get (ci := 2) G hw 7 6 zi_2 rfl rfl rfl (by decide) zm_263 (fun _ h => h) (v := .ref (ad q7)) (zs_fr rfl e_q7 h_q7) d_Parser_readLevel_42 ?_
        obtain ⟨ht8, hf⟩ := zq_gs hf
        refine zr_tf G hw ht8 2 rfl zm_348 d_Parser_readLevel_45 ?_
        refine lv_iload_n hx hb d_Parser_readLevel_48 rfl (lv_at hl 1 rfl) ?_
        refine lv_icmp_ne hx hb d_Parser_readLevel_49 (tgt := 89) rfl (fun hc => ?_) (fun hc => ?_)
        · have hf := (if_neg hc).symm.trans hf
          exact K89 σ H locs ls hf hw (lv_sub hl [] rfl)
        · have hf := (if_pos hc).symm.trans hf
          refine lv_aload_n hx hb d_Parser_readLevel_52 rfl (lv_at hl 0 rfl) ?_
          obtain ⟨q9, e_q9, h_q9, hf⟩ := zq_qs hf
          refine zr_get (ci := 2) G hw 7 6 zi_2 rfl rfl rfl (by decide) zm_263 (fun _ h => h) (v := .ref (ad q9)) (zs_fr rfl e_q9 h_q9) d_Parser_readLevel_53 ?_
          refine lv_astore hx hb d_Parser_readLevel_56 hl (by decide) rfl (fun ls hl => ?_)
          have hl : lv_has ls 6 [(5, .ref (ad q9)), (0, .ref (ad 7)), (1, .int x1), (2, .int x2), (3, .int x3), (4, .int x4)] := hl
          refine lv_aload_n hx hb d_Parser_readLevel_58 rfl (lv_at hl 1 rfl) ?_
          obtain ⟨σ10, hc12, hf⟩ := zq_ds hf
          refine zr_cv hw (zr_runV (rest := []) (ci := 2) (o := 7) G hw [] (zc_Parser_advance hJ hc12) (cwV 0 hts (zs_gV zm_271 zm_272 zm_273 zm_269 zm_270) rfl rfl rfl (by decide +kernel) ⟨Nat.le_trans (show 0 + 1 ≤ fL + 1 by omega) hR1, Nat.le_trans (show 8 + (1 + 11) + (0) ≤ lL + 25 by omega) hR2⟩) rfl rfl rfl hl.1 (Nat.le_of_ble_eq_true rfl) d_Parser_readLevel_59 ⟨Nat.zero_le _, Nat.zero_le _⟩) (fun H locs hw => ?_)
          refine lv_aload_n hx hb d_Parser_readLevel_62 rfl (lv_at hl 1 rfl) ?_
          refine lv_iload_n hx hb d_Parser_readLevel_63 rfl (lv_at hl 2 rfl) ?_
          refine lv_iconst (v := 1) hx hb d_Parser_readLevel_64 (by decide) ?_
          refine lv_iadd hx hb d_Parser_readLevel_65 ?_
          refine lv_iload_n hx hb d_Parser_readLevel_66 rfl (lv_at hl 3 rfl) ?_
          obtain ⟨σ13, hc15, hf⟩ := zq_ds hf
          refine zr_cv hw (zr_runV (rest := []) (ci := 2) (o := 7) G hw [.int (x1 + 1), .int x2] (hL hc15) (cwV 2 hts (zs_gV zm_341 zm_342 zm_343 zm_269 zm_340) rfl rfl rfl (by decide +kernel) ⟨Nat.le_trans (show fL + 1 ≤ fL + 1 by omega) hR1, Nat.le_trans (show 8 + (6 + 11) + (lL) ≤ lL + 25 by omega) hR2⟩) rfl rfl rfl hl.1 (Nat.le_of_ble_eq_true rfl) d_Parser_readLevel_67 ⟨Nat.zero_le _, Nat.zero_le _⟩) (fun H locs hw => ?_)
          refine lv_aload_n hx hb d_Parser_readLevel_70 rfl (lv_at hl 1 rfl) ?_
          obtain ⟨q16, e_q16, h_q16, hf⟩ := zq_qs hf
          refine zr_get (ci := 2) G hw 7 7 zi_2 rfl rfl rfl (by decide) zm_290 (fun _ h => h) (v := .ref (ad q16)) (zs_fr rfl e_q16 h_q16) d_Parser_readLevel_71 ?_
          obtain ⟨hs17, hf⟩ := zq_gs hf
          have hs17 := zq_ks hs17
          obtain ⟨q18, e_q18, h_q18, hf⟩ := zq_qs hf
          refine zr_get (ci := 5) G hw q16 8 zi_5 hs17 rfl rfl (by decide) zm_325 (fun _ h => h) (v := .ref (ad q18)) (zs_fs rfl e_q18 h_q18) d_Parser_readLevel_74 ?_
          refine lv_aload hx hb d_Parser_readLevel_77 (lv_at hl 0 rfl) ?_
          refine lv_iconst (v := 0) hx hb d_Parser_readLevel_79 (by decide) ?_
          obtain ⟨hs22, hf⟩ := zq_gs hf
          have hs22 := zq_ks hs22
          obtain ⟨σ19, hc21, hf⟩ := zq_ds hf
          refine zr_cv hw (zr_runV (rest := []) (ci := 7) (o := q18) G hw [.ref (ad q9), .int 0] (zc_Code_add hJ hc21) (cwV 2 hts (zs_gV zm_327 zm_328 zm_329 zm_132 zm_326) rfl rfl rfl (by decide +kernel) ⟨Nat.le_trans (show 0 + 1 ≤ fL + 1 by omega) hR1, Nat.le_trans (show 8 + (3 + 11) + (0) ≤ lL + 25 by omega) hR2⟩) hs22 rfl rfl hl.1 (Nat.le_of_ble_eq_true rfl) d_Parser_readLevel_80 ⟨Nat.zero_le _, Nat.zero_le _⟩) (fun H locs hw => ?_)
          obtain ⟨v23, e_v23, hf⟩ := zq_ss hf
          refine lv_iinc (v := v23) hx hb d_Parser_readLevel_83 hl (k := 5) rfl (zq_inc (k := 1) (by decide) e_v23) (by decide) rfl (fun ls hl => ?_)
          have hl : lv_has ls 6 [(4, .int v23), (5, .ref (ad q9)), (0, .ref (ad 7)), (1, .int x1), (2, .int x2), (3, .int x3)] := hl
          refine lv_goto hx hb d_Parser_readLevel_86 (tgt := 35) rfl ?_
          exact ih x1 x2 x3 v23 σ19 H locs ls hf hw (lv_sub hl [2, 3, 4, 5, 0] rfl)
  have K31 : ∀ (x1 : Int32) (x2 : Int32) (t0 : Int32) (σ : zs_S) (H : Heap) (locs : List Loc) (ls : Array Slot), zf_Parser_readLevel_b_31 kA kL F x1 x2 t0 σ = some q → zs_I 0 D cA ad A s σ H locs → lv_has ls 6 [(0, .ref (ad 7)), (1, .int x1), (2, .int x2)] → W p l e RR s m args below meth c H locs 0 0 QQ (F0 m 31 ls [.int t0]) := by
    intro  x1 x2 t0 σ H locs ls hf hw hl
    unfold zf_Parser_readLevel_b_31 at hf
    refine lv_istore_n hx hb d_Parser_readLevel_31 rfl hl (by decide) rfl (fun ls hl => ?_)
    have hl : lv_has ls 6 [(3, .int t0), (0, .ref (ad 7)), (1, .int x1), (2, .int x2)] := hl
    refine lv_iconst (v := 0) hx hb d_Parser_readLevel_32 (by decide) ?_
    refine lv_istore hx hb d_Parser_readLevel_33 hl (by decide) rfl (fun ls hl => ?_)
    have hl : lv_has ls 6 [(4, .int 0), (3, .int t0), (0, .ref (ad 7)), (1, .int x1), (2, .int x2)] := hl
    exact K35 F x1 x2 t0 0 σ H locs ls hf hw (lv_sub hl [2, 3, 4, 1, 0] rfl)
  unfold zf_Parser_readLevel_b at hf
  refine lv_iload_n hx hb d_Parser_readLevel_0 rfl (lv_at hl 1 rfl) ?_
  refine lv_iconst (v := 5) hx hb d_Parser_readLevel_1 (by decide) ?_
  refine lv_icmp_ne hx hb d_Parser_readLevel_2 (tgt := 11) rfl (fun hc => ?_) (fun hc => ?_)
  · have hf := (if_neg hc).symm.trans hf
    refine lv_aload_n hx hb d_Parser_readLevel_11 rfl (lv_at hl 0 rfl) ?_
    refine lv_iload_n hx hb d_Parser_readLevel_12 rfl (lv_at hl 1 rfl) ?_
    refine lv_iconst (v := 1) hx hb d_Parser_readLevel_13 (by decide) ?_
    refine lv_iadd hx hb d_Parser_readLevel_14 ?_
    refine lv_iload_n hx hb d_Parser_readLevel_15 rfl (lv_at hl 2 rfl) ?_
    obtain ⟨σ1, hc3, hf⟩ := zq_ds hf
    refine zr_cv hw (zr_runV (rest := []) (ci := 2) (o := 7) G hw [.int (x1 + 1), .int x2] (hL hc3) (cwV 2 hts (zs_gV zm_341 zm_342 zm_343 zm_269 zm_340) rfl rfl rfl (by decide +kernel) ⟨Nat.le_trans (show fL + 1 ≤ fL + 1 by omega) hR1, Nat.le_trans (show 8 + (6 + 11) + (lL) ≤ lL + 25 by omega) hR2⟩) rfl rfl rfl hl.1 (Nat.le_of_ble_eq_true rfl) d_Parser_readLevel_16 ⟨Nat.zero_le _, Nat.zero_le _⟩) (fun H locs hw => ?_)
    refine lv_iload_n hx hb d_Parser_readLevel_19 rfl (lv_at hl 1 rfl) ?_
    refine lv_iconst (v := 2) hx hb d_Parser_readLevel_20 (by decide) ?_
    refine lv_icmp_ne hx hb d_Parser_readLevel_21 (tgt := 28) rfl (fun hc => ?_) (fun hc => ?_)
    · have hf := (if_neg hc).symm.trans hf
      refine lv_sipush (v := 150) hx hb d_Parser_readLevel_28 (by decide) ?_
      exact K31 x1 x2 150 σ1 H locs ls hf hw (lv_sub hl [0, 1, 2] rfl)
    · have hf := (if_pos hc).symm.trans hf
      refine lv_iconst (v := 1) hx hb d_Parser_readLevel_24 (by decide) ?_
      refine lv_goto hx hb d_Parser_readLevel_25 (tgt := 31) rfl ?_
      exact K31 x1 x2 1 σ1 H locs ls hf hw (lv_sub hl [0, 1, 2] rfl)
  · have hf := (if_pos hc).symm.trans hf
    refine lv_aload_n hx hb d_Parser_readLevel_5 rfl (lv_at hl 0 rfl) ?_
    refine lv_iload_n hx hb d_Parser_readLevel_6 rfl (lv_at hl 2 rfl) ?_
    obtain ⟨σ4, hc6, hf⟩ := zq_ds hf
    refine zr_cv hw (zr_runV (rest := []) (ci := 2) (o := 7) G hw [.int x2] (hA hc6) (cwV 1 hts (zs_gV zm_345 zm_346 zm_347 zm_269 zm_344) rfl rfl rfl (by decide +kernel) ⟨Nat.le_trans (show fA + 1 ≤ fL + 1 by omega) hR1, Nat.le_trans (show 8 + (3 + 11) + (lA) ≤ lL + 25 by omega) hR2⟩) rfl rfl rfl hl.1 (Nat.le_of_ble_eq_true rfl) d_Parser_readLevel_7 ⟨Nat.zero_le _, Nat.zero_le _⟩) (fun H locs hw => ?_)
    exact zr_vret G hw hr hlocks hf hQ d_Parser_readLevel_10
def zf_Parser_readLevel (kA : Int32 → zs_S → Option (zs_S)) (F : Nat) : Nat → Int32 → Int32 → zs_S → Option (zs_S)
  | 0, _, _, _ => none
  | n + 1, x1, x2, σ => zf_Parser_readLevel_b kA (zf_Parser_readLevel kA F n) F x1 x2 σ
theorem zc_Parser_readLevel {l : Launch} {D : va_G} {cA : Nat → ClassId} {ad : Nat → Nat} {A : Nat → Prop} {F : Nat} {kA : Int32 → zs_S → Option (zs_S)} {fA lA : Nat} (hA : ∀ {x1 : Int32} {σ : zs_S} {q : zs_S}, kA x1 σ = some q → Met l y_Parser_readAtom (.code y_Parser_readAtom prog_6_method_27_code 3 none :: zd_ww) { frames := fA, cells := 0, slots := 0, locals := lA } (va_Pc [.ref (ad 7), .int x1] (zs_U 0 D cA ad A σ)) (zs_Qv 0 D cA ad A q) 0 0 A) (hJ : zs_J ad) : ∀ (n : Nat) {x1 : Int32} {x2 : Int32} {σ : zs_S} {q : zs_S}, zf_Parser_readLevel kA F n x1 x2 σ = some q → Met l y_Parser_readLevel (.code y_Parser_readLevel prog_6_method_26_code 6 none :: zd_ww) { frames := fA + n * 1, cells := 0, slots := 0, locals := lA + n * 25 } (va_Pc [.ref (ad 7), .int x1, .int x2] (zs_U 0 D cA ad A σ)) (zs_Qv 0 D cA ad A q) 0 0 A := by
  intro n
  induction n with
  | zero => intro x1 x2 σ q hf; exact nomatch (show (none : Option (zs_S)) = some q from hf)
  | succ n ih =>
    intro x1 x2 σ q hf
    have h := zc_Parser_readLevel_b hA (kL := zf_Parser_readLevel kA F n) (fL := fA + n * 1) (lL := lA + n * 25) (fun h => ih h) (by omega) (by omega) hJ hf
    have e1 : fA + (n + 1) * 1 = fA + n * 1 + 1 := by omega
    have e2 : lA + (n + 1) * 25 = lA + n * 25 + 25 := by omega
    rw [e1, e2]
    exact h
/-! ScheduleCheck$Parser.readAtom -/
def zf_Parser_readAtom_b_127 (kA : Int32 → zs_S → Option (zs_S)) (F : Nat)   (σ : zs_S) : Option (zs_S) :=
  some σ
def zf_Parser_readAtom_b_116 (kA : Int32 → zs_S → Option (zs_S)) (F : Nat)  (t0 : Nat) (t1 : Nat) (σ : zs_S) : Option (zs_S) :=
  zq_g (zq_k 0 t1 17) <|
  zq_d (zf_Code_add F t1 t0 0 σ) fun σ73 =>
  zf_Parser_readAtom_b_127 kA F σ73
def zf_Parser_readAtom_b_82 (kA : Int32 → zs_S → Option (zs_S)) (F : Nat)  (x1 : Int32) (x2 : Nat) (σ : zs_S) : Option (zs_S) :=
  zq_d (zf_Parser_advance F σ) fun σ63 =>
  zq_d (kA (x1 + 1) σ63) fun σ66 =>
  zq_q (zs_r σ66 7 7) fun q69 =>
  zq_g (zq_k 0 q69 15) <|
  zq_q (zd_rf 0 q69 8) fun q71 =>
  zq_g (decide (x2 < 1200)) <|
  if x2 = 1025 then (
    zf_Parser_readAtom_b_116 kA F 1025 q71 σ66
  ) else (
    zf_Parser_readAtom_b_116 kA F 1004 q71 σ66
  )
def zf_Parser_readAtom_b_19 (kA : Int32 → zs_S → Option (zs_S)) (F : Nat)   (σ : zs_S) : Option (zs_S) :=
  zq_d (zf_Parser_readOperand F σ) fun σ60 =>
  zf_Parser_readAtom_b_127 kA F σ60
def zf_Parser_readAtom_b (kA : Int32 → zs_S → Option (zs_S)) (F : Nat) (x1 : Int32) (σ : zs_S) : Option (zs_S) :=
  zq_q (zs_r σ 7 6) fun q39 =>
  zq_g (decide (q39 < 1200)) <|
  if q39 = 1003 then (
    zf_Parser_readAtom_b_19 kA F σ
  ) else (
    zq_g (decide (q39 < 1200)) <|
    if q39 = 1002 then (
      zf_Parser_readAtom_b_19 kA F σ
    ) else (
      if x1 = 8 then (
        zq_d (zf_Parser_fail F σ) fun σ57 =>
        zf_Parser_readAtom_b_127 kA F σ57
      ) else (
        zq_g (decide (q39 < 1200)) <|
        if q39 = 1021 then (
          zq_d (zf_Parser_advance F σ) fun σ48 =>
          zq_d (zf_Parser_readLevel kA F 7 0 (x1 + 1) σ48) fun σ51 =>
          zq_d (zf_Parser_expect F 1022 σ51) fun σ54 =>
          zf_Parser_readAtom_b_127 kA F σ54
        ) else (
          zq_g (decide (q39 < 1200)) <|
          if q39 = 1035 then (
            zf_Parser_readAtom_b_82 kA F x1 q39 σ
          ) else (
            zq_g (decide (q39 < 1200)) <|
            if q39 = 1025 then (
              zf_Parser_readAtom_b_82 kA F x1 q39 σ
            ) else (
              zq_d (zf_Parser_fail F σ) fun σ45 =>
              zf_Parser_readAtom_b_127 kA F σ45
            )
          )
        )
      )
    )
  )
set_option maxHeartbeats 4000000 in
set_option maxRecDepth 100000 in
theorem zc_Parser_readAtom_b {l : Launch} {D : va_G} {cA : Nat → ClassId} {ad : Nat → Nat} {A : Nat → Prop} {F : Nat} {x1 : Int32} {σ : zs_S} {q : zs_S} {kA : Int32 → zs_S → Option (zs_S)} {fA lA : Nat} (hA : ∀ {x1 : Int32} {σ : zs_S} {q : zs_S}, kA x1 σ = some q → Met l y_Parser_readAtom (.code y_Parser_readAtom prog_6_method_27_code 3 none :: zd_ww) { frames := fA, cells := 0, slots := 0, locals := lA } (va_Pc [.ref (ad 7), .int x1] (zs_U 0 D cA ad A σ)) (zs_Qv 0 D cA ad A q) 0 0 A) (hJ : zs_J ad) (hf : zf_Parser_readAtom_b kA F x1 σ = some q) : Met l y_Parser_readAtom (.code y_Parser_readAtom prog_6_method_27_code 3 none :: zd_ww) { frames := fA + 8, cells := 0, slots := 0, locals := lA + 200 } (va_Pc [.ref (ad 7), .int x1] (zs_U 0 D cA ad A σ)) (zs_Qv 0 D cA ad A q) 0 0 A := by
  refine Met.ofW (cc := prog_6_method_27_code) (maxL := 3) (ret := none) (by decide) rfl ?_
  intro p e s m args below meth c s₁ B hml hv
  obtain ⟨hargs, hP, hK, hD, hZ⟩ := hv
  have G : zs_G 0 p s m args c prog_6_method_27_code 3 "ScheduleCheck$Parser" D cA ad A := ⟨⟨B.exec, B.bytes, hml, findClass_of_methodNamed B.named, fun w h => atoms_spec B.pre w (List.mem_cons_of_mem _ h)⟩, hK, hJ, hZ⟩
  have hw : zs_I 0 D cA ad A s σ s.heap [] := ⟨hP, hD, va_S.rf⟩
  have hx := G.1.1
  have hb := G.1.2.1
  have hown := G.1.2.2.2.1
  have hts := G.1.2.2.2.2
  have hr := B.returns
  have hlocks := B.notSynchronized
  have he : entryFrame m args 3 = F0 m 0 ((lg_sl [.ref (ad 7), .int x1] ++ List.replicate (3 - (lg_sl [.ref (ad 7), .int x1]).length) Slot.unset).toArray) [] := by rw [hargs]; exact lg_entry_eq m _ 3
  have hl := lv_entry [.ref (ad 7), .int x1] (n := 3) (Nat.le_of_ble_eq_true rfl)
  rw [he]
  generalize (lg_sl [.ref (ad 7), .int x1] ++ List.replicate (3 - (lg_sl [.ref (ad 7), .int x1]).length) Slot.unset).toArray = ls at hl
  have hl : lv_has ls 3 [(0, .ref (ad 7)), (1, .int x1)] := hl
  obtain ⟨RR, hR⟩ : ∃ z, z = (headSpec (.code y_Parser_readAtom prog_6_method_27_code 3 none :: zd_ww) { frames := fA + 8, cells := 0, slots := 0, locals := lA + 200 }).room := ⟨_, rfl⟩
  rw [← hR]
  obtain ⟨QQ, hQ⟩ : ∃ z, z = MQ below (zs_Qv 0 D cA ad A q) args s 0 0 A := ⟨_, rfl⟩
  rw [← hQ]
  have hR1 : fA + 8 ≤ RR.frames := by rw [hR]; exact Nat.le_refl _
  have hR2 : lA + 200 ≤ RR.locals := by rw [hR]; exact Nat.le_refl _
  generalize s.heap = H at hw ⊢
  generalize ([] : List Loc) = locs at hw ⊢
  have K127 : ∀ (σ : zs_S) (H : Heap) (locs : List Loc) (ls : Array Slot), zf_Parser_readAtom_b_127 kA F σ = some q → zs_I 0 D cA ad A s σ H locs → lv_has ls 3 [] → W p l e RR s m args below meth c H locs 0 0 QQ (F0 m 127 ls []) := by
    intro   σ H locs ls hf hw hl
    unfold zf_Parser_readAtom_b_127 at hf
    exact zr_vret G hw hr hlocks hf hQ d_Parser_readAtom_127
  have K116 : ∀ (t0 : Nat) (t1 : Nat) (σ : zs_S) (H : Heap) (locs : List Loc) (ls : Array Slot), zf_Parser_readAtom_b_116 kA F t0 t1 σ = some q → zs_I 0 D cA ad A s σ H locs → lv_has ls 3 [] → W p l e RR s m args below meth c H locs 0 0 QQ (F0 m 116 ls [.ref (ad t0), .ref (ad t1)]) := by
    intro  t0 t1 σ H locs ls hf hw hl
    unfold zf_Parser_readAtom_b_116 at hf
    refine lv_iconst (v := 0) hx hb d_Parser_readAtom_116 (by decide) ?_
    obtain ⟨hs76, hf⟩ := zq_gs hf
    have hs76 := zq_ks hs76
    obtain ⟨σ73, hc75, hf⟩ := zq_ds hf
    refine zr_cv hw (zr_runV (rest := []) (ci := 7) (o := t1) G hw [.ref (ad t0), .int 0] (zc_Code_add hJ hc75) (cwV 2 hts (zs_gV zm_327 zm_328 zm_329 zm_132 zm_326) rfl rfl rfl (by decide +kernel) ⟨Nat.le_trans (show 0 + 1 ≤ fA + 8 by omega) hR1, Nat.le_trans (show 8 + (3 + 11) + (0) ≤ lA + 200 by omega) hR2⟩) hs76 rfl rfl hl.1 (Nat.le_of_ble_eq_true rfl) d_Parser_readAtom_117 ⟨Nat.zero_le _, Nat.zero_le _⟩) (fun H locs hw => ?_)
    refine lv_goto hx hb d_Parser_readAtom_120 (tgt := 127) rfl ?_
    exact K127 σ73 H locs ls hf hw (lv_sub hl [] rfl)
  have K82 : ∀ (x1 : Int32) (x2 : Nat) (σ : zs_S) (H : Heap) (locs : List Loc) (ls : Array Slot), zf_Parser_readAtom_b_82 kA F x1 x2 σ = some q → zs_I 0 D cA ad A s σ H locs → lv_has ls 3 [(0, .ref (ad 7)), (1, .int x1), (2, .ref (ad x2))] → W p l e RR s m args below meth c H locs 0 0 QQ (F0 m 82 ls []) := by
    intro  x1 x2 σ H locs ls hf hw hl
    unfold zf_Parser_readAtom_b_82 at hf
    refine lv_aload_n hx hb d_Parser_readAtom_82 rfl (lv_at hl 0 rfl) ?_
    obtain ⟨σ63, hc65, hf⟩ := zq_ds hf
    refine zr_cv hw (zr_runV (rest := []) (ci := 2) (o := 7) G hw [] (zc_Parser_advance hJ hc65) (cwV 0 hts (zs_gV zm_271 zm_272 zm_273 zm_269 zm_270) rfl rfl rfl (by decide +kernel) ⟨Nat.le_trans (show 0 + 1 ≤ fA + 8 by omega) hR1, Nat.le_trans (show 8 + (1 + 11) + (0) ≤ lA + 200 by omega) hR2⟩) rfl rfl rfl hl.1 (Nat.le_of_ble_eq_true rfl) d_Parser_readAtom_83 ⟨Nat.zero_le _, Nat.zero_le _⟩) (fun H locs hw => ?_)
    refine lv_aload_n hx hb d_Parser_readAtom_86 rfl (lv_at hl 0 rfl) ?_
    refine lv_iload_n hx hb d_Parser_readAtom_87 rfl (lv_at hl 1 rfl) ?_
    refine lv_iconst (v := 1) hx hb d_Parser_readAtom_88 (by decide) ?_
    refine lv_iadd hx hb d_Parser_readAtom_89 ?_
    obtain ⟨σ66, hc68, hf⟩ := zq_ds hf
    refine zr_cv hw (zr_runV (rest := []) (ci := 2) (o := 7) G hw [.int (x1 + 1)] (hA hc68) (cwV 1 hts (zs_gV zm_345 zm_346 zm_347 zm_269 zm_344) rfl rfl rfl (by decide +kernel) ⟨Nat.le_trans (show fA + 1 ≤ fA + 8 by omega) hR1, Nat.le_trans (show 8 + (3 + 11) + (lA) ≤ lA + 200 by omega) hR2⟩) rfl rfl rfl hl.1 (Nat.le_of_ble_eq_true rfl) d_Parser_readAtom_90 ⟨Nat.zero_le _, Nat.zero_le _⟩) (fun H locs hw => ?_)
    refine lv_aload_n hx hb d_Parser_readAtom_93 rfl (lv_at hl 0 rfl) ?_
    obtain ⟨q69, e_q69, h_q69, hf⟩ := zq_qs hf
    refine zr_get (ci := 2) G hw 7 7 zi_2 rfl rfl rfl (by decide) zm_290 (fun _ h => h) (v := .ref (ad q69)) (zs_fr rfl e_q69 h_q69) d_Parser_readAtom_94 ?_
    obtain ⟨hs70, hf⟩ := zq_gs hf
    have hs70 := zq_ks hs70
    obtain ⟨q71, e_q71, h_q71, hf⟩ := zq_qs hf
    refine zr_get (ci := 5) G hw q69 8 zi_5 hs70 rfl rfl (by decide) zm_325 (fun _ h => h) (v := .ref (ad q71)) (zs_fs rfl e_q71 h_q71) d_Parser_readAtom_97 ?_
    refine lv_aload_n hx hb d_Parser_readAtom_100 rfl (lv_at hl 2 rfl) ?_
    refine va_gets (C := "ScheduleCheck$Token") (n := "NOT") (d := "LScheduleCheck$Token;") (v := .ref (ad 1025)) hx hb ((G.2.2.2.1 rfl).1.1 25 (by decide)).1 hw.2.2 hown (hts _ zm_350) (fun _ h => h) d_Parser_readAtom_101 ?_
    obtain ⟨hm72, hf⟩ := zq_gs hf
    refine zr_ane G (of_decide_eq_true hm72) (by decide) d_Parser_readAtom_104 (tgt := 113) rfl (fun hc => ?_) (fun hc => ?_)
    · have hf := (if_neg hc).symm.trans hf
      refine va_gets (C := "ScheduleCheck$Token") (n := "NEGATE") (d := "LScheduleCheck$Token;") (v := .ref (ad 1004)) hx hb ((G.2.2.2.1 rfl).1.1 4 (by decide)).1 hw.2.2 hown (hts _ zm_356) (fun _ h => h) d_Parser_readAtom_113 ?_
      exact K116 1004 q71 σ66 H locs ls hf hw (lv_sub hl [] rfl)
    · have hf := (if_pos hc).symm.trans hf
      refine va_gets (C := "ScheduleCheck$Token") (n := "NOT") (d := "LScheduleCheck$Token;") (v := .ref (ad 1025)) hx hb ((G.2.2.2.1 rfl).1.1 25 (by decide)).1 hw.2.2 hown (hts _ zm_350) (fun _ h => h) d_Parser_readAtom_107 ?_
      refine lv_goto hx hb d_Parser_readAtom_110 (tgt := 116) rfl ?_
      exact K116 1025 q71 σ66 H locs ls hf hw (lv_sub hl [] rfl)
  have K19 : ∀ (σ : zs_S) (H : Heap) (locs : List Loc) (ls : Array Slot), zf_Parser_readAtom_b_19 kA F σ = some q → zs_I 0 D cA ad A s σ H locs → lv_has ls 3 [(0, .ref (ad 7))] → W p l e RR s m args below meth c H locs 0 0 QQ (F0 m 19 ls []) := by
    intro   σ H locs ls hf hw hl
    unfold zf_Parser_readAtom_b_19 at hf
    refine lv_aload_n hx hb d_Parser_readAtom_19 rfl (lv_at hl 0 rfl) ?_
    obtain ⟨σ60, hc62, hf⟩ := zq_ds hf
    refine zr_cv hw (zr_runV (rest := []) (ci := 2) (o := 7) G hw [] (zc_Parser_readOperand hJ hc62) (cwV 0 hts (zs_gV zm_353 zm_354 zm_355 zm_269 zm_352) rfl rfl rfl (by decide +kernel) ⟨Nat.le_trans (show 1 + 1 ≤ fA + 8 by omega) hR1, Nat.le_trans (show 8 + (4 + 11) + (22) ≤ lA + 200 by omega) hR2⟩) rfl rfl rfl hl.1 (Nat.le_of_ble_eq_true rfl) d_Parser_readAtom_20 ⟨Nat.zero_le _, Nat.zero_le _⟩) (fun H locs hw => ?_)
    refine lv_goto hx hb d_Parser_readAtom_23 (tgt := 127) rfl ?_
    exact K127 σ60 H locs ls hf hw (lv_sub hl [] rfl)
  unfold zf_Parser_readAtom_b at hf
  refine lv_aload_n hx hb d_Parser_readAtom_0 rfl (lv_at hl 0 rfl) ?_
  obtain ⟨q39, e_q39, h_q39, hf⟩ := zq_qs hf
  refine zr_get (ci := 2) G hw 7 6 zi_2 rfl rfl rfl (by decide) zm_263 (fun _ h => h) (v := .ref (ad q39)) (zs_fr rfl e_q39 h_q39) d_Parser_readAtom_1 ?_
  refine lv_astore_n hx hb d_Parser_readAtom_4 rfl hl (by decide) rfl (fun ls hl => ?_)
  have hl : lv_has ls 3 [(2, .ref (ad q39)), (0, .ref (ad 7)), (1, .int x1)] := hl
  refine lv_aload_n hx hb d_Parser_readAtom_5 rfl (lv_at hl 0 rfl) ?_
  refine va_gets (C := "ScheduleCheck$Token") (n := "NUMBER") (d := "LScheduleCheck$Token;") (v := .ref (ad 1003)) hx hb ((G.2.2.2.1 rfl).1.1 3 (by decide)).1 hw.2.2 hown (hts _ zm_285) (fun _ h => h) d_Parser_readAtom_6 ?_
  obtain ⟨hm40, hf⟩ := zq_gs hf
  refine zr_aeq G (of_decide_eq_true hm40) (by decide) d_Parser_readAtom_9 (tgt := 19) rfl (fun hc => ?_) (fun hc => ?_)
  · have hf := (if_pos hc).symm.trans hf
    exact K19 σ H locs ls hf hw (lv_sub hl [1] rfl)
  · have hf := (if_neg hc).symm.trans hf
    refine lv_aload_n hx hb d_Parser_readAtom_12 rfl (lv_at hl 0 rfl) ?_
    refine va_gets (C := "ScheduleCheck$Token") (n := "NAME") (d := "LScheduleCheck$Token;") (v := .ref (ad 1002)) hx hb ((G.2.2.2.1 rfl).1.1 2 (by decide)).1 hw.2.2 hown (hts _ zm_275) (fun _ h => h) d_Parser_readAtom_13 ?_
    obtain ⟨hm41, hf⟩ := zq_gs hf
    refine zr_ane G (of_decide_eq_true hm41) (by decide) d_Parser_readAtom_16 (tgt := 26) rfl (fun hc => ?_) (fun hc => ?_)
    · have hf := (if_neg hc).symm.trans hf
      refine lv_iload_n hx hb d_Parser_readAtom_26 rfl (lv_at hl 2 rfl) ?_
      refine lv_bipush (v := 8) hx hb d_Parser_readAtom_27 (by decide) ?_
      refine lv_icmp_ne hx hb d_Parser_readAtom_29 (tgt := 39) rfl (fun hc => ?_) (fun hc => ?_)
      · have hf := (if_neg hc).symm.trans hf
        refine lv_aload_n hx hb d_Parser_readAtom_39 rfl (lv_at hl 0 rfl) ?_
        refine va_gets (C := "ScheduleCheck$Token") (n := "LEFT") (d := "LScheduleCheck$Token;") (v := .ref (ad 1021)) hx hb ((G.2.2.2.1 rfl).1.1 21 (by decide)).1 hw.2.2 hown (hts _ zm_349) (fun _ h => h) d_Parser_readAtom_40 ?_
        obtain ⟨hm42, hf⟩ := zq_gs hf
        refine zr_ane G (of_decide_eq_true hm42) (by decide) d_Parser_readAtom_43 (tgt := 68) rfl (fun hc => ?_) (fun hc => ?_)
        · have hf := (if_neg hc).symm.trans hf
          refine lv_aload_n hx hb d_Parser_readAtom_68 rfl (lv_at hl 0 rfl) ?_
          refine va_gets (C := "ScheduleCheck$Token") (n := "MINUS") (d := "LScheduleCheck$Token;") (v := .ref (ad 1035)) hx hb ((G.2.2.2.1 rfl).1.1 35 (by decide)).1 hw.2.2 hown (hts _ zm_284) (fun _ h => h) d_Parser_readAtom_69 ?_
          obtain ⟨hm43, hf⟩ := zq_gs hf
          refine zr_aeq G (of_decide_eq_true hm43) (by decide) d_Parser_readAtom_72 (tgt := 82) rfl (fun hc => ?_) (fun hc => ?_)
          · have hf := (if_pos hc).symm.trans hf
            exact K82 x1 q39 σ H locs ls hf hw (lv_sub hl [1, 2, 0] rfl)
          · have hf := (if_neg hc).symm.trans hf
            refine lv_aload_n hx hb d_Parser_readAtom_75 rfl (lv_at hl 0 rfl) ?_
            refine va_gets (C := "ScheduleCheck$Token") (n := "NOT") (d := "LScheduleCheck$Token;") (v := .ref (ad 1025)) hx hb ((G.2.2.2.1 rfl).1.1 25 (by decide)).1 hw.2.2 hown (hts _ zm_350) (fun _ h => h) d_Parser_readAtom_76 ?_
            obtain ⟨hm44, hf⟩ := zq_gs hf
            refine zr_ane G (of_decide_eq_true hm44) (by decide) d_Parser_readAtom_79 (tgt := 123) rfl (fun hc => ?_) (fun hc => ?_)
            · have hf := (if_neg hc).symm.trans hf
              refine lv_aload_n hx hb d_Parser_readAtom_123 rfl (lv_at hl 1 rfl) ?_
              obtain ⟨σ45, hc47, hf⟩ := zq_ds hf
              refine zr_cv hw (zr_runV (rest := []) (ci := 2) (o := 7) G hw [] (zc_Parser_fail hJ hc47) (cwV 0 hts (zs_gV zm_266 zm_267 zm_268 zm_269 zm_265) rfl rfl rfl (by decide +kernel) ⟨Nat.le_trans (show 0 + 1 ≤ fA + 8 by omega) hR1, Nat.le_trans (show 8 + (1 + 11) + (0) ≤ lA + 200 by omega) hR2⟩) rfl rfl rfl hl.1 (Nat.le_of_ble_eq_true rfl) d_Parser_readAtom_124 ⟨Nat.zero_le _, Nat.zero_le _⟩) (fun H locs hw => ?_)
              exact K127 σ45 H locs ls hf hw (lv_sub hl [] rfl)
            · have hf := (if_pos hc).symm.trans hf
              exact K82 x1 q39 σ H locs ls hf hw (lv_sub hl [1, 2, 0] rfl)
        · have hf := (if_pos hc).symm.trans hf
          refine lv_aload_n hx hb d_Parser_readAtom_46 rfl (lv_at hl 1 rfl) ?_
          obtain ⟨σ48, hc50, hf⟩ := zq_ds hf
          refine zr_cv hw (zr_runV (rest := []) (ci := 2) (o := 7) G hw [] (zc_Parser_advance hJ hc50) (cwV 0 hts (zs_gV zm_271 zm_272 zm_273 zm_269 zm_270) rfl rfl rfl (by decide +kernel) ⟨Nat.le_trans (show 0 + 1 ≤ fA + 8 by omega) hR1, Nat.le_trans (show 8 + (1 + 11) + (0) ≤ lA + 200 by omega) hR2⟩) rfl rfl rfl hl.1 (Nat.le_of_ble_eq_true rfl) d_Parser_readAtom_47 ⟨Nat.zero_le _, Nat.zero_le _⟩) (fun H locs hw => ?_)
          refine lv_aload_n hx hb d_Parser_readAtom_50 rfl (lv_at hl 1 rfl) ?_
          refine lv_iconst (v := 0) hx hb d_Parser_readAtom_51 (by decide) ?_
          refine lv_iload_n hx hb d_Parser_readAtom_52 rfl (lv_at hl 2 rfl) ?_
          refine lv_iconst (v := 1) hx hb d_Parser_readAtom_53 (by decide) ?_
          refine lv_iadd hx hb d_Parser_readAtom_54 ?_
          obtain ⟨σ51, hc53, hf⟩ := zq_ds hf
          refine zr_cv hw (zr_runV (rest := []) (ci := 2) (o := 7) G hw [.int 0, .int (x1 + 1)] (zc_Parser_readLevel hA hJ 7 hc53) (cwV 2 hts (zs_gV zm_341 zm_342 zm_343 zm_269 zm_340) rfl rfl rfl (by decide +kernel) ⟨Nat.le_trans (show fA + 7 * 1 + 1 ≤ fA + 8 by omega) hR1, Nat.le_trans (show 8 + (6 + 11) + (lA + 7 * 25) ≤ lA + 200 by omega) hR2⟩) rfl rfl rfl hl.1 (Nat.le_of_ble_eq_true rfl) d_Parser_readAtom_55 ⟨Nat.zero_le _, Nat.zero_le _⟩) (fun H locs hw => ?_)
          refine lv_aload_n hx hb d_Parser_readAtom_58 rfl (lv_at hl 1 rfl) ?_
          refine va_gets (C := "ScheduleCheck$Token") (n := "RIGHT") (d := "LScheduleCheck$Token;") (v := .ref (ad 1022)) hx hb ((G.2.2.2.1 rfl).1.1 22 (by decide)).1 hw.2.2 hown (hts _ zm_351) (fun _ h => h) d_Parser_readAtom_59 ?_
          obtain ⟨σ54, hc56, hf⟩ := zq_ds hf
          refine zr_cv hw (zr_runV (rest := []) (ci := 2) (o := 7) G hw [.ref (ad 1022)] (zc_Parser_expect hJ hc56) (cwV 1 hts (zs_gV zm_287 zm_288 zm_289 zm_269 zm_286) rfl rfl rfl (by decide +kernel) ⟨Nat.le_trans (show 1 + 1 ≤ fA + 8 by omega) hR1, Nat.le_trans (show 8 + (2 + 11) + (20) ≤ lA + 200 by omega) hR2⟩) rfl rfl rfl hl.1 (Nat.le_of_ble_eq_true rfl) d_Parser_readAtom_62 ⟨Nat.zero_le _, Nat.zero_le _⟩) (fun H locs hw => ?_)
          refine lv_goto hx hb d_Parser_readAtom_65 (tgt := 127) rfl ?_
          exact K127 σ54 H locs ls hf hw (lv_sub hl [] rfl)
      · have hf := (if_pos hc).symm.trans hf
        refine lv_aload_n hx hb d_Parser_readAtom_32 rfl (lv_at hl 1 rfl) ?_
        obtain ⟨σ57, hc59, hf⟩ := zq_ds hf
        refine zr_cv hw (zr_runV (rest := []) (ci := 2) (o := 7) G hw [] (zc_Parser_fail hJ hc59) (cwV 0 hts (zs_gV zm_266 zm_267 zm_268 zm_269 zm_265) rfl rfl rfl (by decide +kernel) ⟨Nat.le_trans (show 0 + 1 ≤ fA + 8 by omega) hR1, Nat.le_trans (show 8 + (1 + 11) + (0) ≤ lA + 200 by omega) hR2⟩) rfl rfl rfl hl.1 (Nat.le_of_ble_eq_true rfl) d_Parser_readAtom_33 ⟨Nat.zero_le _, Nat.zero_le _⟩) (fun H locs hw => ?_)
        refine lv_goto hx hb d_Parser_readAtom_36 (tgt := 127) rfl ?_
        exact K127 σ57 H locs ls hf hw (lv_sub hl [] rfl)
    · have hf := (if_pos hc).symm.trans hf
      exact K19 σ H locs ls hf hw (lv_sub hl [1] rfl)
def zf_Parser_readAtom (F : Nat) : Nat → Int32 → zs_S → Option (zs_S)
  | 0, _, _ => none
  | n + 1, x1, σ => zf_Parser_readAtom_b (zf_Parser_readAtom F n) F x1 σ
theorem zc_Parser_readAtom {l : Launch} {D : va_G} {cA : Nat → ClassId} {ad : Nat → Nat} {A : Nat → Prop} {F : Nat} (hJ : zs_J ad) : ∀ (n : Nat) {x1 : Int32} {σ : zs_S} {q : zs_S}, zf_Parser_readAtom F n x1 σ = some q → Met l y_Parser_readAtom (.code y_Parser_readAtom prog_6_method_27_code 3 none :: zd_ww) { frames := n * 8, cells := 0, slots := 0, locals := n * 200 } (va_Pc [.ref (ad 7), .int x1] (zs_U 0 D cA ad A σ)) (zs_Qv 0 D cA ad A q) 0 0 A := by
  intro n
  induction n with
  | zero => intro x1 σ q hf; exact nomatch (show (none : Option (zs_S)) = some q from hf)
  | succ n ih =>
    intro x1 σ q hf
    have h := zc_Parser_readAtom_b  (kA := zf_Parser_readAtom F n) (fA := n * 8) (lA := n * 200) (fun h => ih h) hJ hf
    have e1 : (n + 1) * 8 = n * 8 + 8 := by omega
    have e2 : (n + 1) * 200 = n * 200 + 200 := by omega
    rw [e1, e2]
    exact h
/-! ScheduleCheck$Parser.readExpression -/
def y_Parser_readExpression : MethodName := ⟨"ScheduleCheck$Parser","readExpression","(LScheduleCheck$Statement;)V"⟩
theorem d_Parser_readExpression_0 : decode prog_6_method_25_code 0 = .ok (.aload_n 0, 1) := by decide +kernel
theorem d_Parser_readExpression_1 : decode prog_6_method_25_code 1 = .ok (.iconst 0, 1) := by decide +kernel
theorem d_Parser_readExpression_2 : decode prog_6_method_25_code 2 = .ok (.putfield 292, 3) := by decide +kernel
theorem d_Parser_readExpression_5 : decode prog_6_method_25_code 5 = .ok (.aload_n 1, 1) := by decide +kernel
theorem d_Parser_readExpression_6 : decode prog_6_method_25_code 6 = .ok (.aload_n 0, 1) := by decide +kernel
theorem d_Parser_readExpression_7 : decode prog_6_method_25_code 7 = .ok (.getfield 37, 3) := by decide +kernel
theorem d_Parser_readExpression_10 : decode prog_6_method_25_code 10 = .ok (.getfield 293, 3) := by decide +kernel
theorem d_Parser_readExpression_13 : decode prog_6_method_25_code 13 = .ok (.getfield 297, 3) := by decide +kernel
theorem d_Parser_readExpression_16 : decode prog_6_method_25_code 16 = .ok (.putfield 300, 3) := by decide +kernel
theorem d_Parser_readExpression_19 : decode prog_6_method_25_code 19 = .ok (.aload_n 0, 1) := by decide +kernel
theorem d_Parser_readExpression_20 : decode prog_6_method_25_code 20 = .ok (.iconst 0, 1) := by decide +kernel
theorem d_Parser_readExpression_21 : decode prog_6_method_25_code 21 = .ok (.iconst 0, 1) := by decide +kernel
theorem d_Parser_readExpression_22 : decode prog_6_method_25_code 22 = .ok (.invokevirtual 303, 3) := by decide +kernel
theorem d_Parser_readExpression_25 : decode prog_6_method_25_code 25 = .ok (.aload_n 1, 1) := by decide +kernel
theorem d_Parser_readExpression_26 : decode prog_6_method_25_code 26 = .ok (.aload_n 0, 1) := by decide +kernel
theorem d_Parser_readExpression_27 : decode prog_6_method_25_code 27 = .ok (.getfield 37, 3) := by decide +kernel
theorem d_Parser_readExpression_30 : decode prog_6_method_25_code 30 = .ok (.getfield 293, 3) := by decide +kernel
theorem d_Parser_readExpression_33 : decode prog_6_method_25_code 33 = .ok (.getfield 297, 3) := by decide +kernel
theorem d_Parser_readExpression_36 : decode prog_6_method_25_code 36 = .ok (.putfield 306, 3) := by decide +kernel
theorem d_Parser_readExpression_39 : decode prog_6_method_25_code 39 = .ok (.aload_n 1, 1) := by decide +kernel
theorem d_Parser_readExpression_40 : decode prog_6_method_25_code 40 = .ok (.aload_n 0, 1) := by decide +kernel
theorem d_Parser_readExpression_41 : decode prog_6_method_25_code 41 = .ok (.getfield 292, 3) := by decide +kernel
theorem d_Parser_readExpression_44 : decode prog_6_method_25_code 44 = .ok (.putfield 256, 3) := by decide +kernel
theorem d_Parser_readExpression_47 : decode prog_6_method_25_code 47 = .ok (.return_, 1) := by decide +kernel
def zf_Parser_readExpression (F : Nat) (x1 : Nat) (σ : zs_S) : Option (zs_S) :=
  zq_v (zs_wi σ 7 10 0) fun σ1 =>
  zq_q (zs_r σ1 7 7) fun q2 =>
  zq_g (zq_k 0 q2 15) <|
  zq_q (zd_rf 0 q2 8) fun q4 =>
  zq_g (zq_k 0 q4 17) <|
  zq_g (zq_k 0 x1 16) <|
  zq_v (zs_wi σ1 x1 3 (zs_i σ1 q4 3)) fun σ7 =>
  zq_d (zf_Parser_readLevel (zf_Parser_readAtom F 10) F 7 0 0 σ7) fun σ8 =>
  zq_q (zs_r σ8 7 7) fun q11 =>
  zq_g (zq_k 0 q11 15) <|
  zq_q (zd_rf 0 q11 8) fun q13 =>
  zq_g (zq_k 0 q13 17) <|
  zq_v (zs_wi σ8 x1 4 (zs_i σ8 q13 3)) fun σ15 =>
  zq_v (zs_wi σ15 x1 8 (zs_i σ15 7 10)) fun σ16 =>
  some σ16
set_option maxHeartbeats 4000000 in
set_option maxRecDepth 100000 in
theorem zc_Parser_readExpression {l : Launch} {D : va_G} {cA : Nat → ClassId} {ad : Nat → Nat} {A : Nat → Prop} {F : Nat} {x1 : Nat} {σ : zs_S} {q : zs_S} (hJ : zs_J ad) (hf : zf_Parser_readExpression F x1 σ = some q) : Met l y_Parser_readExpression (.code y_Parser_readExpression prog_6_method_25_code 2 none :: zd_ww) { frames := 88, cells := 0, slots := 0, locals := 2200 } (va_Pc [.ref (ad 7), .ref (ad x1)] (zs_U 0 D cA ad A σ)) (zs_Qv 0 D cA ad A q) 0 0 A := by
  refine Met.ofW (cc := prog_6_method_25_code) (maxL := 2) (ret := none) (by decide) rfl ?_
  intro p e s m args below meth c s₁ B hml hv
  obtain ⟨hargs, hP, hK, hD, hZ⟩ := hv
  have G : zs_G 0 p s m args c prog_6_method_25_code 2 "ScheduleCheck$Parser" D cA ad A := ⟨⟨B.exec, B.bytes, hml, findClass_of_methodNamed B.named, fun w h => atoms_spec B.pre w (List.mem_cons_of_mem _ h)⟩, hK, hJ, hZ⟩
  have hw : zs_I 0 D cA ad A s σ s.heap [] := ⟨hP, hD, va_S.rf⟩
  have hx := G.1.1
  have hb := G.1.2.1
  have hown := G.1.2.2.2.1
  have hts := G.1.2.2.2.2
  have hr := B.returns
  have hlocks := B.notSynchronized
  have he : entryFrame m args 2 = F0 m 0 ((lg_sl [.ref (ad 7), .ref (ad x1)] ++ List.replicate (2 - (lg_sl [.ref (ad 7), .ref (ad x1)]).length) Slot.unset).toArray) [] := by rw [hargs]; exact lg_entry_eq m _ 2
  have hl := lv_entry [.ref (ad 7), .ref (ad x1)] (n := 2) (Nat.le_of_ble_eq_true rfl)
  rw [he]
  generalize (lg_sl [.ref (ad 7), .ref (ad x1)] ++ List.replicate (2 - (lg_sl [.ref (ad 7), .ref (ad x1)]).length) Slot.unset).toArray = ls at hl
  have hl : lv_has ls 2 [(0, .ref (ad 7)), (1, .ref (ad x1))] := hl
  obtain ⟨RR, hR⟩ : ∃ z, z = (headSpec (.code y_Parser_readExpression prog_6_method_25_code 2 none :: zd_ww) { frames := 88, cells := 0, slots := 0, locals := 2200 }).room := ⟨_, rfl⟩
  rw [← hR]
  obtain ⟨QQ, hQ⟩ : ∃ z, z = MQ below (zs_Qv 0 D cA ad A q) args s 0 0 A := ⟨_, rfl⟩
  rw [← hQ]
  have hR1 : 88 ≤ RR.frames := by rw [hR]; exact Nat.le_refl _
  have hR2 : 2200 ≤ RR.locals := by rw [hR]; exact Nat.le_refl _
  generalize s.heap = H at hw ⊢
  generalize ([] : List Loc) = locs at hw ⊢
  unfold zf_Parser_readExpression at hf
  refine lv_aload_n hx hb d_Parser_readExpression_0 rfl (lv_at hl 0 rfl) ?_
  refine lv_iconst (v := 0) hx hb d_Parser_readExpression_1 (by decide) ?_
  obtain ⟨σ1, e_σ1, hf⟩ := zq_ss hf
  refine zr_puti (ci := 2) G hw 7 10 zi_2 t_zd2 t_zd2_ok n_zd2 rfl rfl rfl (by decide) rfl zm_330 (fun _ h => h) rfl (x := 0) (t_zd2_ok 10 (by decide)) rfl rfl d_Parser_readExpression_2 (fun H locs hw => ?_)
  rw [← e_σ1] at hw
  refine lv_aload_n hx hb d_Parser_readExpression_5 rfl (lv_at hl 1 rfl) ?_
  refine lv_aload_n hx hb d_Parser_readExpression_6 rfl (lv_at hl 0 rfl) ?_
  obtain ⟨q2, e_q2, h_q2, hf⟩ := zq_qs hf
  refine zr_get (ci := 2) G hw 7 7 zi_2 rfl rfl rfl (by decide) zm_290 (fun _ h => h) (v := .ref (ad q2)) (zs_fr rfl e_q2 h_q2) d_Parser_readExpression_7 ?_
  obtain ⟨hs3, hf⟩ := zq_gs hf
  have hs3 := zq_ks hs3
  obtain ⟨q4, e_q4, h_q4, hf⟩ := zq_qs hf
  refine zr_get (ci := 5) G hw q2 8 zi_5 hs3 rfl rfl (by decide) zm_325 (fun _ h => h) (v := .ref (ad q4)) (zs_fs rfl e_q4 h_q4) d_Parser_readExpression_10 ?_
  obtain ⟨hs5, hf⟩ := zq_gs hf
  have hs5 := zq_ks hs5
  refine zr_get (ci := 7) G hw q4 3 zi_7 hs5 rfl rfl (by decide) zm_357 (fun _ h => h) (v := .int (zs_i σ1 q4 3)) rfl d_Parser_readExpression_13 ?_
  obtain ⟨hs6, hf⟩ := zq_gs hf
  have hs6 := zq_ks hs6
  obtain ⟨σ7, e_σ7, hf⟩ := zq_ss hf
  refine zr_puti (ci := 6) G hw x1 3 zi_6 t_zd6 t_zd6_ok n_zd6 hs6 rfl rfl (by decide) rfl zm_358 (fun _ h => h) rfl (x := (zs_i σ1 q4 3)) (t_zd6_ok 3 (by decide)) rfl rfl d_Parser_readExpression_16 (fun H locs hw => ?_)
  rw [← e_σ7] at hw
  refine lv_aload_n hx hb d_Parser_readExpression_19 rfl (lv_at hl 0 rfl) ?_
  refine lv_iconst (v := 0) hx hb d_Parser_readExpression_20 (by decide) ?_
  refine lv_iconst (v := 0) hx hb d_Parser_readExpression_21 (by decide) ?_
  obtain ⟨σ8, hc10, hf⟩ := zq_ds hf
  refine zr_cv hw (zr_runV (rest := []) (ci := 2) (o := 7) G hw [.int 0, .int 0] (zc_Parser_readLevel (kA := zf_Parser_readAtom F 10) (fA := 10 * 8) (lA := 10 * 200) (fun h => zc_Parser_readAtom hJ 10 h) hJ 7 hc10) (cwV 2 hts (zs_gV zm_341 zm_342 zm_343 zm_269 zm_340) rfl rfl rfl (by decide +kernel) ⟨Nat.le_trans (by decide) hR1, Nat.le_trans (by decide) hR2⟩) rfl rfl rfl hl.1 (Nat.le_of_ble_eq_true rfl) d_Parser_readExpression_22 ⟨Nat.zero_le _, Nat.zero_le _⟩) (fun H locs hw => ?_)
  refine lv_aload_n hx hb d_Parser_readExpression_25 rfl (lv_at hl 1 rfl) ?_
  refine lv_aload_n hx hb d_Parser_readExpression_26 rfl (lv_at hl 0 rfl) ?_
  obtain ⟨q11, e_q11, h_q11, hf⟩ := zq_qs hf
  refine zr_get (ci := 2) G hw 7 7 zi_2 rfl rfl rfl (by decide) zm_290 (fun _ h => h) (v := .ref (ad q11)) (zs_fr rfl e_q11 h_q11) d_Parser_readExpression_27 ?_
  obtain ⟨hs12, hf⟩ := zq_gs hf
  have hs12 := zq_ks hs12
  obtain ⟨q13, e_q13, h_q13, hf⟩ := zq_qs hf
  refine zr_get (ci := 5) G hw q11 8 zi_5 hs12 rfl rfl (by decide) zm_325 (fun _ h => h) (v := .ref (ad q13)) (zs_fs rfl e_q13 h_q13) d_Parser_readExpression_30 ?_
  obtain ⟨hs14, hf⟩ := zq_gs hf
  have hs14 := zq_ks hs14
  refine zr_get (ci := 7) G hw q13 3 zi_7 hs14 rfl rfl (by decide) zm_357 (fun _ h => h) (v := .int (zs_i σ8 q13 3)) rfl d_Parser_readExpression_33 ?_
  obtain ⟨σ15, e_σ15, hf⟩ := zq_ss hf
  refine zr_puti (ci := 6) G hw x1 4 zi_6 t_zd6 t_zd6_ok n_zd6 hs6 rfl rfl (by decide) rfl zm_359 (fun _ h => h) rfl (x := (zs_i σ8 q13 3)) (t_zd6_ok 4 (by decide)) rfl rfl d_Parser_readExpression_36 (fun H locs hw => ?_)
  rw [← e_σ15] at hw
  refine lv_aload_n hx hb d_Parser_readExpression_39 rfl (lv_at hl 1 rfl) ?_
  refine lv_aload_n hx hb d_Parser_readExpression_40 rfl (lv_at hl 0 rfl) ?_
  refine zr_get (ci := 2) G hw 7 10 zi_2 rfl rfl rfl (by decide) zm_330 (fun _ h => h) (v := .int (zs_i σ15 7 10)) rfl d_Parser_readExpression_41 ?_
  obtain ⟨σ16, e_σ16, hf⟩ := zq_ss hf
  refine zr_puti (ci := 6) G hw x1 8 zi_6 t_zd6 t_zd6_ok n_zd6 hs6 rfl rfl (by decide) rfl zm_360 (fun _ h => h) rfl (x := (zs_i σ15 7 10)) (t_zd6_ok 8 (by decide)) rfl rfl d_Parser_readExpression_44 (fun H locs hw => ?_)
  rw [← e_σ16] at hw
  exact zr_vret G hw hr hlocks hf hQ d_Parser_readExpression_47
/-! ScheduleCheck$Parser.readAssignment -/
def y_Parser_readAssignment : MethodName := ⟨"ScheduleCheck$Parser","readAssignment","(LScheduleCheck$Statement;)V"⟩
theorem d_Parser_readAssignment_0 : decode prog_6_method_19_code 0 = .ok (.aload_n 0, 1) := by decide +kernel
theorem d_Parser_readAssignment_1 : decode prog_6_method_19_code 1 = .ok (.iconst 0, 1) := by decide +kernel
theorem d_Parser_readAssignment_2 : decode prog_6_method_19_code 2 = .ok (.invokevirtual 138, 3) := by decide +kernel
theorem d_Parser_readAssignment_5 : decode prog_6_method_19_code 5 = .ok (.istore_n 2, 1) := by decide +kernel
theorem d_Parser_readAssignment_6 : decode prog_6_method_19_code 6 = .ok (.iload_n 2, 1) := by decide +kernel
theorem d_Parser_readAssignment_7 : decode prog_6_method_19_code 7 = .ok (.invokestatic 237, 3) := by decide +kernel
theorem d_Parser_readAssignment_10 : decode prog_6_method_19_code 10 = .ok (.ifCond .ne 15, 3) := by decide +kernel
theorem d_Parser_readAssignment_13 : decode prog_6_method_19_code 13 = .ok (.iload_n 2, 1) := by decide +kernel
theorem d_Parser_readAssignment_14 : decode prog_6_method_19_code 14 = .ok (.invokestatic 241, 3) := by decide +kernel
theorem d_Parser_readAssignment_17 : decode prog_6_method_19_code 17 = .ok (.ifCond .ne 8, 3) := by decide +kernel
theorem d_Parser_readAssignment_20 : decode prog_6_method_19_code 20 = .ok (.aload_n 0, 1) := by decide +kernel
theorem d_Parser_readAssignment_21 : decode prog_6_method_19_code 21 = .ok (.invokevirtual 66, 3) := by decide +kernel
theorem d_Parser_readAssignment_24 : decode prog_6_method_19_code 24 = .ok (.return_, 1) := by decide +kernel
theorem d_Parser_readAssignment_25 : decode prog_6_method_19_code 25 = .ok (.aload_n 1, 1) := by decide +kernel
theorem d_Parser_readAssignment_26 : decode prog_6_method_19_code 26 = .ok (.getstatic 244, 3) := by decide +kernel
theorem d_Parser_readAssignment_29 : decode prog_6_method_19_code 29 = .ok (.putfield 247, 3) := by decide +kernel
theorem d_Parser_readAssignment_32 : decode prog_6_method_19_code 32 = .ok (.aload_n 1, 1) := by decide +kernel
theorem d_Parser_readAssignment_33 : decode prog_6_method_19_code 33 = .ok (.iload_n 2, 1) := by decide +kernel
theorem d_Parser_readAssignment_34 : decode prog_6_method_19_code 34 = .ok (.putfield 250, 3) := by decide +kernel
theorem d_Parser_readAssignment_37 : decode prog_6_method_19_code 37 = .ok (.aload_n 0, 1) := by decide +kernel
theorem d_Parser_readAssignment_38 : decode prog_6_method_19_code 38 = .ok (.invokevirtual 78, 3) := by decide +kernel
theorem d_Parser_readAssignment_41 : decode prog_6_method_19_code 41 = .ok (.aload_n 0, 1) := by decide +kernel
theorem d_Parser_readAssignment_42 : decode prog_6_method_19_code 42 = .ok (.getstatic 120, 3) := by decide +kernel
theorem d_Parser_readAssignment_45 : decode prog_6_method_19_code 45 = .ok (.invokevirtual 116, 3) := by decide +kernel
theorem d_Parser_readAssignment_48 : decode prog_6_method_19_code 48 = .ok (.aload_n 0, 1) := by decide +kernel
theorem d_Parser_readAssignment_49 : decode prog_6_method_19_code 49 = .ok (.aload_n 1, 1) := by decide +kernel
theorem d_Parser_readAssignment_50 : decode prog_6_method_19_code 50 = .ok (.invokevirtual 253, 3) := by decide +kernel
theorem d_Parser_readAssignment_53 : decode prog_6_method_19_code 53 = .ok (.iload_n 2, 1) := by decide +kernel
theorem d_Parser_readAssignment_54 : decode prog_6_method_19_code 54 = .ok (.invokestatic 237, 3) := by decide +kernel
theorem d_Parser_readAssignment_57 : decode prog_6_method_19_code 57 = .ok (.ifCond .eq 15, 3) := by decide +kernel
theorem d_Parser_readAssignment_60 : decode prog_6_method_19_code 60 = .ok (.aload_n 1, 1) := by decide +kernel
theorem d_Parser_readAssignment_61 : decode prog_6_method_19_code 61 = .ok (.dup, 1) := by decide +kernel
theorem d_Parser_readAssignment_62 : decode prog_6_method_19_code 62 = .ok (.getfield 256, 3) := by decide +kernel
theorem d_Parser_readAssignment_65 : decode prog_6_method_19_code 65 = .ok (.iconst 1, 1) := by decide +kernel
theorem d_Parser_readAssignment_66 : decode prog_6_method_19_code 66 = .ok (.iload_n 2, 1) := by decide +kernel
theorem d_Parser_readAssignment_67 : decode prog_6_method_19_code 67 = .ok (.ishl, 1) := by decide +kernel
theorem d_Parser_readAssignment_68 : decode prog_6_method_19_code 68 = .ok (.ior, 1) := by decide +kernel
theorem d_Parser_readAssignment_69 : decode prog_6_method_19_code 69 = .ok (.putfield 256, 3) := by decide +kernel
theorem d_Parser_readAssignment_72 : decode prog_6_method_19_code 72 = .ok (.aload_n 0, 1) := by decide +kernel
theorem d_Parser_readAssignment_73 : decode prog_6_method_19_code 73 = .ok (.getstatic 113, 3) := by decide +kernel
theorem d_Parser_readAssignment_76 : decode prog_6_method_19_code 76 = .ok (.invokevirtual 116, 3) := by decide +kernel
theorem d_Parser_readAssignment_79 : decode prog_6_method_19_code 79 = .ok (.return_, 1) := by decide +kernel
def zf_Parser_readAssignment_72 (F : Nat)   (σ : zs_S) : Option (zs_S) :=
  zq_d (zf_Parser_expect F 1023 σ) fun σ29 =>
  some σ29
def zf_Parser_readAssignment_25 (F : Nat)  (x1 : Nat) (x2 : Int32) (σ : zs_S) : Option (zs_S) :=
  zq_g (zq_k 0 x1 16) <|
  zq_v (zs_wr σ x1 0 1100) fun σ14 =>
  zq_v (zs_wi σ14 x1 2 x2) fun σ15 =>
  zq_d (zf_Parser_advance F σ15) fun σ16 =>
  zq_d (zf_Parser_expect F 1024 σ16) fun σ19 =>
  zq_d (zf_Parser_readExpression F x1 σ19) fun σ22 =>
  zq_c (zf_Parser_isVariable F x2 σ22) fun r26 σ25 =>
  if r26 = 0 then (
    zf_Parser_readAssignment_72 F σ25
  ) else (
    zq_v (zs_wi σ25 x1 8 ((zs_i σ25 x1 8) ||| (1 <<< (x2 &&& 31)))) fun σ28 =>
    zf_Parser_readAssignment_72 F σ28
  )
def zf_Parser_readAssignment (F : Nat) (x1 : Nat) (σ : zs_S) : Option (zs_S) :=
  zq_c (zf_Parser_find F 0 σ) fun r2 σ1 =>
  zq_c (zf_Parser_isVariable F r2 σ1) fun r5 σ4 =>
  if r5 = 0 then (
    zq_c (zf_Parser_isLocal F r2 σ4) fun r8 σ7 =>
    if r8 = 0 then (
      zq_d (zf_Parser_fail F σ7) fun σ10 =>
      some σ10
    ) else (
      zf_Parser_readAssignment_25 F x1 r2 σ7
    )
  ) else (
    zf_Parser_readAssignment_25 F x1 r2 σ4
  )
set_option maxHeartbeats 4000000 in
set_option maxRecDepth 100000 in
theorem zc_Parser_readAssignment {l : Launch} {D : va_G} {cA : Nat → ClassId} {ad : Nat → Nat} {A : Nat → Prop} {F : Nat} {x1 : Nat} {σ : zs_S} {q : zs_S} (hJ : zs_J ad) (hf : zf_Parser_readAssignment F x1 σ = some q) : Met l y_Parser_readAssignment (.code y_Parser_readAssignment prog_6_method_19_code 3 none :: zd_ww) { frames := 89, cells := 0, slots := 0, locals := 2221 } (va_Pc [.ref (ad 7), .ref (ad x1)] (zs_U 0 D cA ad A σ)) (zs_Qv 0 D cA ad A q) 0 0 A := by
  refine Met.ofW (cc := prog_6_method_19_code) (maxL := 3) (ret := none) (by decide) rfl ?_
  intro p e s m args below meth c s₁ B hml hv
  obtain ⟨hargs, hP, hK, hD, hZ⟩ := hv
  have G : zs_G 0 p s m args c prog_6_method_19_code 3 "ScheduleCheck$Parser" D cA ad A := ⟨⟨B.exec, B.bytes, hml, findClass_of_methodNamed B.named, fun w h => atoms_spec B.pre w (List.mem_cons_of_mem _ h)⟩, hK, hJ, hZ⟩
  have hw : zs_I 0 D cA ad A s σ s.heap [] := ⟨hP, hD, va_S.rf⟩
  have hx := G.1.1
  have hb := G.1.2.1
  have hown := G.1.2.2.2.1
  have hts := G.1.2.2.2.2
  have hr := B.returns
  have hlocks := B.notSynchronized
  have he : entryFrame m args 3 = F0 m 0 ((lg_sl [.ref (ad 7), .ref (ad x1)] ++ List.replicate (3 - (lg_sl [.ref (ad 7), .ref (ad x1)]).length) Slot.unset).toArray) [] := by rw [hargs]; exact lg_entry_eq m _ 3
  have hl := lv_entry [.ref (ad 7), .ref (ad x1)] (n := 3) (Nat.le_of_ble_eq_true rfl)
  rw [he]
  generalize (lg_sl [.ref (ad 7), .ref (ad x1)] ++ List.replicate (3 - (lg_sl [.ref (ad 7), .ref (ad x1)]).length) Slot.unset).toArray = ls at hl
  have hl : lv_has ls 3 [(0, .ref (ad 7)), (1, .ref (ad x1))] := hl
  obtain ⟨RR, hR⟩ : ∃ z, z = (headSpec (.code y_Parser_readAssignment prog_6_method_19_code 3 none :: zd_ww) { frames := 89, cells := 0, slots := 0, locals := 2221 }).room := ⟨_, rfl⟩
  rw [← hR]
  obtain ⟨QQ, hQ⟩ : ∃ z, z = MQ below (zs_Qv 0 D cA ad A q) args s 0 0 A := ⟨_, rfl⟩
  rw [← hQ]
  have hR1 : 89 ≤ RR.frames := by rw [hR]; exact Nat.le_refl _
  have hR2 : 2221 ≤ RR.locals := by rw [hR]; exact Nat.le_refl _
  generalize s.heap = H at hw ⊢
  generalize ([] : List Loc) = locs at hw ⊢
  have K72 : ∀ (σ : zs_S) (H : Heap) (locs : List Loc) (ls : Array Slot), zf_Parser_readAssignment_72 F σ = some q → zs_I 0 D cA ad A s σ H locs → lv_has ls 3 [(0, .ref (ad 7))] → W p l e RR s m args below meth c H locs 0 0 QQ (F0 m 72 ls []) := by
    intro   σ H locs ls hf hw hl
    unfold zf_Parser_readAssignment_72 at hf
    refine lv_aload_n hx hb d_Parser_readAssignment_72 rfl (lv_at hl 0 rfl) ?_
    refine va_gets (C := "ScheduleCheck$Token") (n := "SEMICOLON") (d := "LScheduleCheck$Token;") (v := .ref (ad 1023)) hx hb ((G.2.2.2.1 rfl).1.1 23 (by decide)).1 hw.2.2 hown (hts _ zm_301) (fun _ h => h) d_Parser_readAssignment_73 ?_
    obtain ⟨σ29, hc31, hf⟩ := zq_ds hf
    refine zr_cv hw (zr_runV (rest := []) (ci := 2) (o := 7) G hw [.ref (ad 1023)] (zc_Parser_expect hJ hc31) (cwV 1 hts (zs_gV zm_287 zm_288 zm_289 zm_269 zm_286) rfl rfl rfl (by decide +kernel) ⟨Nat.le_trans (by decide) hR1, Nat.le_trans (by decide) hR2⟩) rfl rfl rfl hl.1 (Nat.le_of_ble_eq_true rfl) d_Parser_readAssignment_76 ⟨Nat.zero_le _, Nat.zero_le _⟩) (fun H locs hw => ?_)
    exact zr_vret G hw hr hlocks hf hQ d_Parser_readAssignment_79
  have K25 : ∀ (x1 : Nat) (x2 : Int32) (σ : zs_S) (H : Heap) (locs : List Loc) (ls : Array Slot), zf_Parser_readAssignment_25 F x1 x2 σ = some q → zs_I 0 D cA ad A s σ H locs → lv_has ls 3 [(0, .ref (ad 7)), (1, .ref (ad x1)), (2, .int x2)] → W p l e RR s m args below meth c H locs 0 0 QQ (F0 m 25 ls []) := by
    intro  x1 x2 σ H locs ls hf hw hl
    unfold zf_Parser_readAssignment_25 at hf
    refine lv_aload_n hx hb d_Parser_readAssignment_25 rfl (lv_at hl 1 rfl) ?_
    refine va_gets (C := "ScheduleCheck$Kind") (n := "ASSIGN") (d := "LScheduleCheck$Kind;") (v := .ref (ad 1100)) hx hb ((G.2.2.2.1 rfl).2.2.1.1 0 (by decide)).1 hw.2.2 hown (hts _ zm_361) (fun _ h => h) d_Parser_readAssignment_26 ?_
    obtain ⟨hs13, hf⟩ := zq_gs hf
    have hs13 := zq_ks hs13
    obtain ⟨σ14, e_σ14, hf⟩ := zq_ss hf
    refine zr_putr (ci := 6) G hw x1 0 zi_6 t_zd6 t_zd6_ok n_zd6 hs13 rfl rfl (by decide) rfl zm_332 (fun _ h => h) rfl (x := 1100) (by decide) (t_zd6_ok 0 (by decide)) rfl rfl d_Parser_readAssignment_29 (fun H locs hw => ?_)
    rw [← e_σ14] at hw
    refine lv_aload_n hx hb d_Parser_readAssignment_32 rfl (lv_at hl 1 rfl) ?_
    refine lv_iload_n hx hb d_Parser_readAssignment_33 rfl (lv_at hl 2 rfl) ?_
    obtain ⟨σ15, e_σ15, hf⟩ := zq_ss hf
    refine zr_puti (ci := 6) G hw x1 2 zi_6 t_zd6 t_zd6_ok n_zd6 hs13 rfl rfl (by decide) rfl zm_336 (fun _ h => h) rfl (x := x2) (t_zd6_ok 2 (by decide)) rfl rfl d_Parser_readAssignment_34 (fun H locs hw => ?_)
    rw [← e_σ15] at hw
    refine lv_aload_n hx hb d_Parser_readAssignment_37 rfl (lv_at hl 0 rfl) ?_
    obtain ⟨σ16, hc18, hf⟩ := zq_ds hf
    refine zr_cv hw (zr_runV (rest := []) (ci := 2) (o := 7) G hw [] (zc_Parser_advance hJ hc18) (cwV 0 hts (zs_gV zm_271 zm_272 zm_273 zm_269 zm_270) rfl rfl rfl (by decide +kernel) ⟨Nat.le_trans (by decide) hR1, Nat.le_trans (by decide) hR2⟩) rfl rfl rfl hl.1 (Nat.le_of_ble_eq_true rfl) d_Parser_readAssignment_38 ⟨Nat.zero_le _, Nat.zero_le _⟩) (fun H locs hw => ?_)
    refine lv_aload_n hx hb d_Parser_readAssignment_41 rfl (lv_at hl 0 rfl) ?_
    refine va_gets (C := "ScheduleCheck$Token") (n := "GETS") (d := "LScheduleCheck$Token;") (v := .ref (ad 1024)) hx hb ((G.2.2.2.1 rfl).1.1 24 (by decide)).1 hw.2.2 hown (hts _ zm_283) (fun _ h => h) d_Parser_readAssignment_42 ?_
    obtain ⟨σ19, hc21, hf⟩ := zq_ds hf
    refine zr_cv hw (zr_runV (rest := []) (ci := 2) (o := 7) G hw [.ref (ad 1024)] (zc_Parser_expect hJ hc21) (cwV 1 hts (zs_gV zm_287 zm_288 zm_289 zm_269 zm_286) rfl rfl rfl (by decide +kernel) ⟨Nat.le_trans (by decide) hR1, Nat.le_trans (by decide) hR2⟩) rfl rfl rfl hl.1 (Nat.le_of_ble_eq_true rfl) d_Parser_readAssignment_45 ⟨Nat.zero_le _, Nat.zero_le _⟩) (fun H locs hw => ?_)
    refine lv_aload_n hx hb d_Parser_readAssignment_48 rfl (lv_at hl 0 rfl) ?_
    refine lv_aload_n hx hb d_Parser_readAssignment_49 rfl (lv_at hl 1 rfl) ?_
    obtain ⟨σ22, hc24, hf⟩ := zq_ds hf
    refine zr_cv hw (zr_runV (rest := []) (ci := 2) (o := 7) G hw [.ref (ad x1)] (zc_Parser_readExpression hJ hc24) (cwV 1 hts (zs_gV zm_363 zm_364 zm_365 zm_269 zm_362) rfl rfl rfl (by decide +kernel) ⟨Nat.le_trans (by decide) hR1, Nat.le_trans (by decide) hR2⟩) rfl rfl rfl hl.1 (Nat.le_of_ble_eq_true rfl) d_Parser_readAssignment_50 ⟨Nat.zero_le _, Nat.zero_le _⟩) (fun H locs hw => ?_)
    refine lv_iload_n hx hb d_Parser_readAssignment_53 rfl (lv_at hl 2 rfl) ?_
    obtain ⟨r26, σ25, hc27, hf⟩ := zq_cs hf
    refine zr_ci hw (zr_runS (rest := []) G hw [.int x2] (zc_Parser_isVariable hJ hc27) (va_cwS 1 hts (zs_gS zm_319 zm_320 zm_269 zm_318) rfl rfl rfl (by decide +kernel) ⟨Nat.le_trans (by decide) hR1, Nat.le_trans (by decide) hR2⟩) rfl hl.1 (Nat.le_of_ble_eq_true rfl) d_Parser_readAssignment_54 ⟨Nat.zero_le _, Nat.zero_le _⟩) (fun H locs hw => ?_)
    refine lv_if_eq hx hb d_Parser_readAssignment_57 (tgt := 72) rfl (fun hc => ?_) (fun hc => ?_)
    · have hf := (if_pos hc).symm.trans hf
      exact K72 σ25 H locs ls hf hw (lv_sub hl [0] rfl)
    · have hf := (if_neg hc).symm.trans hf
      refine lv_aload_n hx hb d_Parser_readAssignment_60 rfl (lv_at hl 1 rfl) ?_
      refine lv_dup hx hb d_Parser_readAssignment_61 rfl ?_
      refine zr_get (ci := 6) G hw x1 8 zi_6 hs13 rfl rfl (by decide) zm_360 (fun _ h => h) (v := .int (zs_i σ25 x1 8)) rfl d_Parser_readAssignment_62 ?_
      refine lv_iconst (v := 1) hx hb d_Parser_readAssignment_65 (by decide) ?_
      refine lv_iload_n hx hb d_Parser_readAssignment_66 rfl (lv_at hl 2 rfl) ?_
      refine lv_ishl hx hb d_Parser_readAssignment_67 ?_
      refine lv_ior hx hb d_Parser_readAssignment_68 ?_
      obtain ⟨σ28, e_σ28, hf⟩ := zq_ss hf
      refine zr_puti (ci := 6) G hw x1 8 zi_6 t_zd6 t_zd6_ok n_zd6 hs13 rfl rfl (by decide) rfl zm_360 (fun _ h => h) rfl (x := ((zs_i σ25 x1 8) ||| (1 <<< (x2 &&& 31)))) (t_zd6_ok 8 (by decide)) rfl rfl d_Parser_readAssignment_69 (fun H locs hw => ?_)
      rw [← e_σ28] at hw
      exact K72 σ28 H locs ls hf hw (lv_sub hl [0] rfl)
  unfold zf_Parser_readAssignment at hf
  refine lv_aload_n hx hb d_Parser_readAssignment_0 rfl (lv_at hl 0 rfl) ?_
  refine lv_iconst (v := 0) hx hb d_Parser_readAssignment_1 (by decide) ?_
  obtain ⟨r2, σ1, hc3, hf⟩ := zq_cs hf
  refine zr_ci hw (zr_runV (rest := []) (ci := 2) (o := 7) G hw [.int 0] (zc_Parser_find hJ hc3) (cwV 1 hts (zs_gV zm_280 zm_281 zm_282 zm_269 zm_279) rfl rfl rfl (by decide +kernel) ⟨Nat.le_trans (by decide) hR1, Nat.le_trans (by decide) hR2⟩) rfl rfl rfl hl.1 (Nat.le_of_ble_eq_true rfl) d_Parser_readAssignment_2 ⟨Nat.zero_le _, Nat.zero_le _⟩) (fun H locs hw => ?_)
  refine lv_istore_n hx hb d_Parser_readAssignment_5 rfl hl (by decide) rfl (fun ls hl => ?_)
  have hl : lv_has ls 3 [(2, .int r2), (0, .ref (ad 7)), (1, .ref (ad x1))] := hl
  refine lv_iload_n hx hb d_Parser_readAssignment_6 rfl (lv_at hl 0 rfl) ?_
  obtain ⟨r5, σ4, hc6, hf⟩ := zq_cs hf
  refine zr_ci hw (zr_runS (rest := []) G hw [.int r2] (zc_Parser_isVariable hJ hc6) (va_cwS 1 hts (zs_gS zm_319 zm_320 zm_269 zm_318) rfl rfl rfl (by decide +kernel) ⟨Nat.le_trans (by decide) hR1, Nat.le_trans (by decide) hR2⟩) rfl hl.1 (Nat.le_of_ble_eq_true rfl) d_Parser_readAssignment_7 ⟨Nat.zero_le _, Nat.zero_le _⟩) (fun H locs hw => ?_)
  refine lv_if_ne hx hb d_Parser_readAssignment_10 (tgt := 25) rfl (fun hc => ?_) (fun hc => ?_)
  · have hf := (if_neg hc).symm.trans hf
    exact K25 x1 r2 σ4 H locs ls hf hw (lv_sub hl [1, 2, 0] rfl)
  · have hf := (if_pos hc).symm.trans hf
    refine lv_iload_n hx hb d_Parser_readAssignment_13 rfl (lv_at hl 0 rfl) ?_
    obtain ⟨r8, σ7, hc9, hf⟩ := zq_cs hf
    refine zr_ci hw (zr_runS (rest := []) G hw [.int r2] (zc_Parser_isLocal hJ hc9) (va_cwS 1 hts (zs_gS zm_322 zm_323 zm_269 zm_321) rfl rfl rfl (by decide +kernel) ⟨Nat.le_trans (by decide) hR1, Nat.le_trans (by decide) hR2⟩) rfl hl.1 (Nat.le_of_ble_eq_true rfl) d_Parser_readAssignment_14 ⟨Nat.zero_le _, Nat.zero_le _⟩) (fun H locs hw => ?_)
    refine lv_if_ne hx hb d_Parser_readAssignment_17 (tgt := 25) rfl (fun hc => ?_) (fun hc => ?_)
    · have hf := (if_neg hc).symm.trans hf
      exact K25 x1 r2 σ7 H locs ls hf hw (lv_sub hl [1, 2, 0] rfl)
    · have hf := (if_pos hc).symm.trans hf
      refine lv_aload_n hx hb d_Parser_readAssignment_20 rfl (lv_at hl 1 rfl) ?_
      obtain ⟨σ10, hc12, hf⟩ := zq_ds hf
      refine zr_cv hw (zr_runV (rest := []) (ci := 2) (o := 7) G hw [] (zc_Parser_fail hJ hc12) (cwV 0 hts (zs_gV zm_266 zm_267 zm_268 zm_269 zm_265) rfl rfl rfl (by decide +kernel) ⟨Nat.le_trans (by decide) hR1, Nat.le_trans (by decide) hR2⟩) rfl rfl rfl hl.1 (Nat.le_of_ble_eq_true rfl) d_Parser_readAssignment_21 ⟨Nat.zero_le _, Nat.zero_le _⟩) (fun H locs hw => ?_)
      exact zr_vret G hw hr hlocks hf hQ d_Parser_readAssignment_24
/-! ScheduleCheck$Parser.readAssert -/
def y_Parser_readAssert : MethodName := ⟨"ScheduleCheck$Parser","readAssert","(LScheduleCheck$Statement;)V"⟩
theorem d_Parser_readAssert_0 : decode prog_6_method_21_code 0 = .ok (.aload_n 1, 1) := by decide +kernel
theorem d_Parser_readAssert_1 : decode prog_6_method_21_code 1 = .ok (.getstatic 268, 3) := by decide +kernel
theorem d_Parser_readAssert_4 : decode prog_6_method_21_code 4 = .ok (.putfield 247, 3) := by decide +kernel
theorem d_Parser_readAssert_7 : decode prog_6_method_21_code 7 = .ok (.aload_n 0, 1) := by decide +kernel
theorem d_Parser_readAssert_8 : decode prog_6_method_21_code 8 = .ok (.invokevirtual 78, 3) := by decide +kernel
theorem d_Parser_readAssert_11 : decode prog_6_method_21_code 11 = .ok (.aload_n 0, 1) := by decide +kernel
theorem d_Parser_readAssert_12 : decode prog_6_method_21_code 12 = .ok (.aload_n 1, 1) := by decide +kernel
theorem d_Parser_readAssert_13 : decode prog_6_method_21_code 13 = .ok (.invokevirtual 253, 3) := by decide +kernel
theorem d_Parser_readAssert_16 : decode prog_6_method_21_code 16 = .ok (.aload_n 0, 1) := by decide +kernel
theorem d_Parser_readAssert_17 : decode prog_6_method_21_code 17 = .ok (.getstatic 113, 3) := by decide +kernel
theorem d_Parser_readAssert_20 : decode prog_6_method_21_code 20 = .ok (.invokevirtual 116, 3) := by decide +kernel
theorem d_Parser_readAssert_23 : decode prog_6_method_21_code 23 = .ok (.return_, 1) := by decide +kernel
def zf_Parser_readAssert (F : Nat) (x1 : Nat) (σ : zs_S) : Option (zs_S) :=
  zq_g (zq_k 0 x1 16) <|
  zq_v (zs_wr σ x1 0 1106) fun σ2 =>
  zq_d (zf_Parser_advance F σ2) fun σ3 =>
  zq_d (zf_Parser_readExpression F x1 σ3) fun σ6 =>
  zq_d (zf_Parser_expect F 1023 σ6) fun σ9 =>
  some σ9
set_option maxHeartbeats 4000000 in
set_option maxRecDepth 100000 in
theorem zc_Parser_readAssert {l : Launch} {D : va_G} {cA : Nat → ClassId} {ad : Nat → Nat} {A : Nat → Prop} {F : Nat} {x1 : Nat} {σ : zs_S} {q : zs_S} (hJ : zs_J ad) (hf : zf_Parser_readAssert F x1 σ = some q) : Met l y_Parser_readAssert (.code y_Parser_readAssert prog_6_method_21_code 2 none :: zd_ww) { frames := 89, cells := 0, slots := 0, locals := 2221 } (va_Pc [.ref (ad 7), .ref (ad x1)] (zs_U 0 D cA ad A σ)) (zs_Qv 0 D cA ad A q) 0 0 A := by
  refine Met.ofW (cc := prog_6_method_21_code) (maxL := 2) (ret := none) (by decide) rfl ?_
  intro p e s m args below meth c s₁ B hml hv
  obtain ⟨hargs, hP, hK, hD, hZ⟩ := hv
  have G : zs_G 0 p s m args c prog_6_method_21_code 2 "ScheduleCheck$Parser" D cA ad A := ⟨⟨B.exec, B.bytes, hml, findClass_of_methodNamed B.named, fun w h => atoms_spec B.pre w (List.mem_cons_of_mem _ h)⟩, hK, hJ, hZ⟩
  have hw : zs_I 0 D cA ad A s σ s.heap [] := ⟨hP, hD, va_S.rf⟩
  have hx := G.1.1
  have hb := G.1.2.1
  have hown := G.1.2.2.2.1
  have hts := G.1.2.2.2.2
  have hr := B.returns
  have hlocks := B.notSynchronized
  have he : entryFrame m args 2 = F0 m 0 ((lg_sl [.ref (ad 7), .ref (ad x1)] ++ List.replicate (2 - (lg_sl [.ref (ad 7), .ref (ad x1)]).length) Slot.unset).toArray) [] := by rw [hargs]; exact lg_entry_eq m _ 2
  have hl := lv_entry [.ref (ad 7), .ref (ad x1)] (n := 2) (Nat.le_of_ble_eq_true rfl)
  rw [he]
  generalize (lg_sl [.ref (ad 7), .ref (ad x1)] ++ List.replicate (2 - (lg_sl [.ref (ad 7), .ref (ad x1)]).length) Slot.unset).toArray = ls at hl
  have hl : lv_has ls 2 [(0, .ref (ad 7)), (1, .ref (ad x1))] := hl
  obtain ⟨RR, hR⟩ : ∃ z, z = (headSpec (.code y_Parser_readAssert prog_6_method_21_code 2 none :: zd_ww) { frames := 89, cells := 0, slots := 0, locals := 2221 }).room := ⟨_, rfl⟩
  rw [← hR]
  obtain ⟨QQ, hQ⟩ : ∃ z, z = MQ below (zs_Qv 0 D cA ad A q) args s 0 0 A := ⟨_, rfl⟩
  rw [← hQ]
  have hR1 : 89 ≤ RR.frames := by rw [hR]; exact Nat.le_refl _
  have hR2 : 2221 ≤ RR.locals := by rw [hR]; exact Nat.le_refl _
  generalize s.heap = H at hw ⊢
  generalize ([] : List Loc) = locs at hw ⊢
  unfold zf_Parser_readAssert at hf
  refine lv_aload_n hx hb d_Parser_readAssert_0 rfl (lv_at hl 1 rfl) ?_
  refine va_gets (C := "ScheduleCheck$Kind") (n := "ASSERT") (d := "LScheduleCheck$Kind;") (v := .ref (ad 1106)) hx hb ((G.2.2.2.1 rfl).2.2.1.1 6 (by decide)).1 hw.2.2 hown (hts _ zm_366) (fun _ h => h) d_Parser_readAssert_1 ?_
  obtain ⟨hs1, hf⟩ := zq_gs hf
  have hs1 := zq_ks hs1
  obtain ⟨σ2, e_σ2, hf⟩ := zq_ss hf
  refine zr_putr (ci := 6) G hw x1 0 zi_6 t_zd6 t_zd6_ok n_zd6 hs1 rfl rfl (by decide) rfl zm_332 (fun _ h => h) rfl (x := 1106) (by decide) (t_zd6_ok 0 (by decide)) rfl rfl d_Parser_readAssert_4 (fun H locs hw => ?_)
  rw [← e_σ2] at hw
  refine lv_aload_n hx hb d_Parser_readAssert_7 rfl (lv_at hl 0 rfl) ?_
  obtain ⟨σ3, hc5, hf⟩ := zq_ds hf
  refine zr_cv hw (zr_runV (rest := []) (ci := 2) (o := 7) G hw [] (zc_Parser_advance hJ hc5) (cwV 0 hts (zs_gV zm_271 zm_272 zm_273 zm_269 zm_270) rfl rfl rfl (by decide +kernel) ⟨Nat.le_trans (by decide) hR1, Nat.le_trans (by decide) hR2⟩) rfl rfl rfl hl.1 (Nat.le_of_ble_eq_true rfl) d_Parser_readAssert_8 ⟨Nat.zero_le _, Nat.zero_le _⟩) (fun H locs hw => ?_)
  refine lv_aload_n hx hb d_Parser_readAssert_11 rfl (lv_at hl 0 rfl) ?_
  refine lv_aload_n hx hb d_Parser_readAssert_12 rfl (lv_at hl 1 rfl) ?_
  obtain ⟨σ6, hc8, hf⟩ := zq_ds hf
  refine zr_cv hw (zr_runV (rest := []) (ci := 2) (o := 7) G hw [.ref (ad x1)] (zc_Parser_readExpression hJ hc8) (cwV 1 hts (zs_gV zm_363 zm_364 zm_365 zm_269 zm_362) rfl rfl rfl (by decide +kernel) ⟨Nat.le_trans (by decide) hR1, Nat.le_trans (by decide) hR2⟩) rfl rfl rfl hl.1 (Nat.le_of_ble_eq_true rfl) d_Parser_readAssert_13 ⟨Nat.zero_le _, Nat.zero_le _⟩) (fun H locs hw => ?_)
  refine lv_aload_n hx hb d_Parser_readAssert_16 rfl (lv_at hl 0 rfl) ?_
  refine va_gets (C := "ScheduleCheck$Token") (n := "SEMICOLON") (d := "LScheduleCheck$Token;") (v := .ref (ad 1023)) hx hb ((G.2.2.2.1 rfl).1.1 23 (by decide)).1 hw.2.2 hown (hts _ zm_301) (fun _ h => h) d_Parser_readAssert_17 ?_
  obtain ⟨σ9, hc11, hf⟩ := zq_ds hf
  refine zr_cv hw (zr_runV (rest := []) (ci := 2) (o := 7) G hw [.ref (ad 1023)] (zc_Parser_expect hJ hc11) (cwV 1 hts (zs_gV zm_287 zm_288 zm_289 zm_269 zm_286) rfl rfl rfl (by decide +kernel) ⟨Nat.le_trans (by decide) hR1, Nat.le_trans (by decide) hR2⟩) rfl rfl rfl hl.1 (Nat.le_of_ble_eq_true rfl) d_Parser_readAssert_20 ⟨Nat.zero_le _, Nat.zero_le _⟩) (fun H locs hw => ?_)
  exact zr_vret G hw hr hlocks hf hQ d_Parser_readAssert_23
def y_Parser_readStatements : MethodName := ⟨"ScheduleCheck$Parser","readStatements","(II)V"⟩
theorem d_Parser_readStatements_0 : decode prog_6_method_17_code 0 = .ok (.iconst 0, 1) := by decide +kernel
theorem d_Parser_readStatements_1 : decode prog_6_method_17_code 1 = .ok (.istore_n 3, 1) := by decide +kernel
theorem d_Parser_readStatements_2 : decode prog_6_method_17_code 2 = .ok (.iload_n 3, 1) := by decide +kernel
theorem d_Parser_readStatements_3 : decode prog_6_method_17_code 3 = .ok (.bipush 50, 2) := by decide +kernel
theorem d_Parser_readStatements_5 : decode prog_6_method_17_code 5 = .ok (.if_icmp .gt 35, 3) := by decide +kernel
theorem d_Parser_readStatements_8 : decode prog_6_method_17_code 8 = .ok (.aload_n 0, 1) := by decide +kernel
theorem d_Parser_readStatements_9 : decode prog_6_method_17_code 9 = .ok (.getfield 46, 3) := by decide +kernel
theorem d_Parser_readStatements_12 : decode prog_6_method_17_code 12 = .ok (.bipush (-2), 2) := by decide +kernel
theorem d_Parser_readStatements_14 : decode prog_6_method_17_code 14 = .ok (.if_icmp .ne 13, 3) := by decide +kernel
theorem d_Parser_readStatements_17 : decode prog_6_method_17_code 17 = .ok (.aload_n 0, 1) := by decide +kernel
theorem d_Parser_readStatements_18 : decode prog_6_method_17_code 18 = .ok (.getfield 33, 3) := by decide +kernel
theorem d_Parser_readStatements_21 : decode prog_6_method_17_code 21 = .ok (.getstatic 168, 3) := by decide +kernel
theorem d_Parser_readStatements_24 : decode prog_6_method_17_code 24 = .ok (.if_acmp .ne 4, 3) := by decide +kernel
theorem d_Parser_readStatements_27 : decode prog_6_method_17_code 27 = .ok (.return_, 1) := by decide +kernel
theorem d_Parser_readStatements_28 : decode prog_6_method_17_code 28 = .ok (.aload_n 0, 1) := by decide +kernel
theorem d_Parser_readStatements_29 : decode prog_6_method_17_code 29 = .ok (.iload_n 1, 1) := by decide +kernel
theorem d_Parser_readStatements_30 : decode prog_6_method_17_code 30 = .ok (.iload_n 2, 1) := by decide +kernel
theorem d_Parser_readStatements_31 : decode prog_6_method_17_code 31 = .ok (.invokevirtual 175, 3) := by decide +kernel
theorem d_Parser_readStatements_34 : decode prog_6_method_17_code 34 = .ok (.iinc 3 1, 3) := by decide +kernel
theorem d_Parser_readStatements_37 : decode prog_6_method_17_code 37 = .ok (.goto (-35), 3) := by decide +kernel
theorem d_Parser_readStatements_40 : decode prog_6_method_17_code 40 = .ok (.return_, 1) := by decide +kernel
/-! ScheduleCheck$Parser.readBlock -/
def y_Parser_readBlock : MethodName := ⟨"ScheduleCheck$Parser","readBlock","(II)I"⟩
theorem d_Parser_readBlock_0 : decode prog_6_method_24_code 0 = .ok (.iload_n 2, 1) := by decide +kernel
theorem d_Parser_readBlock_1 : decode prog_6_method_24_code 1 = .ok (.bipush 6, 2) := by decide +kernel
theorem d_Parser_readBlock_3 : decode prog_6_method_24_code 3 = .ok (.if_icmp .ne 10, 3) := by decide +kernel
theorem d_Parser_readBlock_6 : decode prog_6_method_24_code 6 = .ok (.aload_n 0, 1) := by decide +kernel
theorem d_Parser_readBlock_7 : decode prog_6_method_24_code 7 = .ok (.invokevirtual 66, 3) := by decide +kernel
theorem d_Parser_readBlock_10 : decode prog_6_method_24_code 10 = .ok (.bipush (-2), 2) := by decide +kernel
theorem d_Parser_readBlock_12 : decode prog_6_method_24_code 12 = .ok (.ireturn, 1) := by decide +kernel
theorem d_Parser_readBlock_13 : decode prog_6_method_24_code 13 = .ok (.aload_n 0, 1) := by decide +kernel
theorem d_Parser_readBlock_14 : decode prog_6_method_24_code 14 = .ok (.getstatic 148, 3) := by decide +kernel
theorem d_Parser_readBlock_17 : decode prog_6_method_24_code 17 = .ok (.invokevirtual 116, 3) := by decide +kernel
theorem d_Parser_readBlock_20 : decode prog_6_method_24_code 20 = .ok (.aload_n 0, 1) := by decide +kernel
theorem d_Parser_readBlock_21 : decode prog_6_method_24_code 21 = .ok (.getfield 37, 3) := by decide +kernel
theorem d_Parser_readBlock_24 : decode prog_6_method_24_code 24 = .ok (.getfield 158, 3) := by decide +kernel
theorem d_Parser_readBlock_27 : decode prog_6_method_24_code 27 = .ok (.istore_n 3, 1) := by decide +kernel
theorem d_Parser_readBlock_28 : decode prog_6_method_24_code 28 = .ok (.aload_n 0, 1) := by decide +kernel
theorem d_Parser_readBlock_29 : decode prog_6_method_24_code 29 = .ok (.iload_n 1, 1) := by decide +kernel
theorem d_Parser_readBlock_30 : decode prog_6_method_24_code 30 = .ok (.iload_n 2, 1) := by decide +kernel
theorem d_Parser_readBlock_31 : decode prog_6_method_24_code 31 = .ok (.iconst 1, 1) := by decide +kernel
theorem d_Parser_readBlock_32 : decode prog_6_method_24_code 32 = .ok (.iadd, 1) := by decide +kernel
theorem d_Parser_readBlock_33 : decode prog_6_method_24_code 33 = .ok (.invokevirtual 161, 3) := by decide +kernel
theorem d_Parser_readBlock_36 : decode prog_6_method_24_code 36 = .ok (.aload_n 0, 1) := by decide +kernel
theorem d_Parser_readBlock_37 : decode prog_6_method_24_code 37 = .ok (.getstatic 168, 3) := by decide +kernel
theorem d_Parser_readBlock_40 : decode prog_6_method_24_code 40 = .ok (.invokevirtual 116, 3) := by decide +kernel
theorem d_Parser_readBlock_43 : decode prog_6_method_24_code 43 = .ok (.aload_n 0, 1) := by decide +kernel
theorem d_Parser_readBlock_44 : decode prog_6_method_24_code 44 = .ok (.getfield 37, 3) := by decide +kernel
theorem d_Parser_readBlock_47 : decode prog_6_method_24_code 47 = .ok (.getfield 158, 3) := by decide +kernel
theorem d_Parser_readBlock_50 : decode prog_6_method_24_code 50 = .ok (.iload_n 3, 1) := by decide +kernel
theorem d_Parser_readBlock_51 : decode prog_6_method_24_code 51 = .ok (.if_icmp .le 7, 3) := by decide +kernel
theorem d_Parser_readBlock_54 : decode prog_6_method_24_code 54 = .ok (.iload_n 3, 1) := by decide +kernel
theorem d_Parser_readBlock_55 : decode prog_6_method_24_code 55 = .ok (.goto 5, 3) := by decide +kernel
theorem d_Parser_readBlock_58 : decode prog_6_method_24_code 58 = .ok (.bipush (-2), 2) := by decide +kernel
theorem d_Parser_readBlock_60 : decode prog_6_method_24_code 60 = .ok (.ireturn, 1) := by decide +kernel
def zf_Parser_readBlock_60 (kS : Int32 → Int32 → zs_S → Option (zs_S)) (F : Nat)  (t0 : Int32) (σ : zs_S) : Option (Int32 × zs_S) :=
  some (t0, σ)
def zf_Parser_readBlock (kS : Int32 → Int32 → zs_S → Option (zs_S)) (F : Nat) (x1 : Int32) (x2 : Int32) (σ : zs_S) : Option (Int32 × zs_S) :=
  if x2 = 6 then (
    zq_d (zf_Parser_fail F σ) fun σ15 =>
    some ((-2), σ15)
  ) else (
    zq_d (zf_Parser_expect F 1019 σ) fun σ1 =>
    zq_q (zs_r σ1 7 7) fun q4 =>
    zq_g (zq_k 0 q4 15) <|
    zq_v (zs_i σ1 q4 3) fun v6 =>
    zq_d (kS x1 (x2 + 1) σ1) fun σ7 =>
    zq_d (zf_Parser_expect F 1020 σ7) fun σ10 =>
    zq_q (zs_r σ10 7 7) fun q13 =>
    zq_g (zq_k 0 q13 15) <|
    if (zs_i σ10 q13 3) ≤ v6 then (
      zf_Parser_readBlock_60 kS F ((-2)) σ10
    ) else (
      zf_Parser_readBlock_60 kS F v6 σ10
    )
  )
set_option maxHeartbeats 4000000 in
set_option maxRecDepth 100000 in
theorem zc_Parser_readBlock {l : Launch} {D : va_G} {cA : Nat → ClassId} {ad : Nat → Nat} {A : Nat → Prop} {F : Nat} {x1 : Int32} {x2 : Int32} {σ : zs_S} {q : Int32 × zs_S} {kS : Int32 → Int32 → zs_S → Option (zs_S)} {fS lS : Nat} (hS : ∀ {x1 : Int32} {x2 : Int32} {σ : zs_S} {q : zs_S}, kS x1 x2 σ = some q → Met l y_Parser_readStatements (.code y_Parser_readStatements prog_6_method_17_code 4 none :: zd_ww) { frames := fS, cells := 0, slots := 0, locals := lS } (va_Pc [.ref (ad 7), .int x1, .int x2] (zs_U 0 D cA ad A σ)) (zs_Qv 0 D cA ad A q) 0 0 A) (hJ : zs_J ad) (hf : zf_Parser_readBlock kS F x1 x2 σ = some q) : Met l y_Parser_readBlock (.code y_Parser_readBlock prog_6_method_24_code 4 (some .int) :: zd_ww) { frames := fS + 2, cells := 0, slots := 0, locals := lS + 41 } (va_Pc [.ref (ad 7), .int x1, .int x2] (zs_U 0 D cA ad A σ)) (zs_Qi 0 D cA ad A q) 0 0 A := by
  refine Met.ofW (cc := prog_6_method_24_code) (maxL := 4) (ret := (some .int)) (by decide) rfl ?_
  intro p e s m args below meth c s₁ B hml hv
  obtain ⟨hargs, hP, hK, hD, hZ⟩ := hv
  have G : zs_G 0 p s m args c prog_6_method_24_code 4 "ScheduleCheck$Parser" D cA ad A := ⟨⟨B.exec, B.bytes, hml, findClass_of_methodNamed B.named, fun w h => atoms_spec B.pre w (List.mem_cons_of_mem _ h)⟩, hK, hJ, hZ⟩
  have hw : zs_I 0 D cA ad A s σ s.heap [] := ⟨hP, hD, va_S.rf⟩
  have hx := G.1.1
  have hb := G.1.2.1
  have hown := G.1.2.2.2.1
  have hts := G.1.2.2.2.2
  have hr := B.returns
  have hlocks := B.notSynchronized
  have he : entryFrame m args 4 = F0 m 0 ((lg_sl [.ref (ad 7), .int x1, .int x2] ++ List.replicate (4 - (lg_sl [.ref (ad 7), .int x1, .int x2]).length) Slot.unset).toArray) [] := by rw [hargs]; exact lg_entry_eq m _ 4
  have hl := lv_entry [.ref (ad 7), .int x1, .int x2] (n := 4) (Nat.le_of_ble_eq_true rfl)
  rw [he]
  generalize (lg_sl [.ref (ad 7), .int x1, .int x2] ++ List.replicate (4 - (lg_sl [.ref (ad 7), .int x1, .int x2]).length) Slot.unset).toArray = ls at hl
  have hl : lv_has ls 4 [(0, .ref (ad 7)), (1, .int x1), (2, .int x2)] := hl
  obtain ⟨RR, hR⟩ : ∃ z, z = (headSpec (.code y_Parser_readBlock prog_6_method_24_code 4 (some .int) :: zd_ww) { frames := fS + 2, cells := 0, slots := 0, locals := lS + 41 }).room := ⟨_, rfl⟩
  rw [← hR]
  obtain ⟨QQ, hQ⟩ : ∃ z, z = MQ below (zs_Qi 0 D cA ad A q) args s 0 0 A := ⟨_, rfl⟩
  rw [← hQ]
  have hR1 : fS + 2 ≤ RR.frames := by rw [hR]; exact Nat.le_refl _
  have hR2 : lS + 41 ≤ RR.locals := by rw [hR]; exact Nat.le_refl _
  generalize s.heap = H at hw ⊢
  generalize ([] : List Loc) = locs at hw ⊢
  have K60 : ∀ (t0 : Int32) (σ : zs_S) (H : Heap) (locs : List Loc) (ls : Array Slot), zf_Parser_readBlock_60 kS F t0 σ = some q → zs_I 0 D cA ad A s σ H locs → lv_has ls 4 [] → W p l e RR s m args below meth c H locs 0 0 QQ (F0 m 60 ls [.int t0]) := by
    intro  t0 σ H locs ls hf hw hl
    unfold zf_Parser_readBlock_60 at hf
    exact zr_iret G hw hr hlocks hf hQ d_Parser_readBlock_60
  unfold zf_Parser_readBlock at hf
  refine lv_iload_n hx hb d_Parser_readBlock_0 rfl (lv_at hl 2 rfl) ?_
  refine lv_bipush (v := 6) hx hb d_Parser_readBlock_1 (by decide) ?_
  refine lv_icmp_ne hx hb d_Parser_readBlock_3 (tgt := 13) rfl (fun hc => ?_) (fun hc => ?_)
  · have hf := (if_neg hc).symm.trans hf
    refine lv_aload_n hx hb d_Parser_readBlock_13 rfl (lv_at hl 0 rfl) ?_
    refine va_gets (C := "ScheduleCheck$Token") (n := "OPEN") (d := "LScheduleCheck$Token;") (v := .ref (ad 1019)) hx hb ((G.2.2.2.1 rfl).1.1 19 (by decide)).1 hw.2.2 hown (hts _ zm_367) (fun _ h => h) d_Parser_readBlock_14 ?_
    obtain ⟨σ1, hc3, hf⟩ := zq_ds hf
    refine zr_cv hw (zr_runV (rest := []) (ci := 2) (o := 7) G hw [.ref (ad 1019)] (zc_Parser_expect hJ hc3) (cwV 1 hts (zs_gV zm_287 zm_288 zm_289 zm_269 zm_286) rfl rfl rfl (by decide +kernel) ⟨Nat.le_trans (show 1 + 1 ≤ fS + 2 by omega) hR1, Nat.le_trans (show 8 + (2 + 11) + (20) ≤ lS + 41 by omega) hR2⟩) rfl rfl rfl hl.1 (Nat.le_of_ble_eq_true rfl) d_Parser_readBlock_17 ⟨Nat.zero_le _, Nat.zero_le _⟩) (fun H locs hw => ?_)
    refine lv_aload_n hx hb d_Parser_readBlock_20 rfl (lv_at hl 0 rfl) ?_
    obtain ⟨q4, e_q4, h_q4, hf⟩ := zq_qs hf
    refine zr_get (ci := 2) G hw 7 7 zi_2 rfl rfl rfl (by decide) zm_290 (fun _ h => h) (v := .ref (ad q4)) (zs_fr rfl e_q4 h_q4) d_Parser_readBlock_21 ?_
    obtain ⟨hs5, hf⟩ := zq_gs hf
    have hs5 := zq_ks hs5
    refine zr_get (ci := 5) G hw q4 3 zi_5 hs5 rfl rfl (by decide) zm_368 (fun _ h => h) (v := .int (zs_i σ1 q4 3)) rfl d_Parser_readBlock_24 ?_
    refine lv_topi (fun v6 e_v6 => ?_)
    have hf := zq_vs e_v6 hf
    refine lv_istore_n hx hb d_Parser_readBlock_27 rfl hl (by decide) rfl (fun ls hl => ?_)
    have hl : lv_has ls 4 [(3, .int v6), (0, .ref (ad 7)), (1, .int x1), (2, .int x2)] := hl
    refine lv_aload_n hx hb d_Parser_readBlock_28 rfl (lv_at hl 1 rfl) ?_
    refine lv_iload_n hx hb d_Parser_readBlock_29 rfl (lv_at hl 2 rfl) ?_
    refine lv_iload_n hx hb d_Parser_readBlock_30 rfl (lv_at hl 3 rfl) ?_
    refine lv_iconst (v := 1) hx hb d_Parser_readBlock_31 (by decide) ?_
    refine lv_iadd hx hb d_Parser_readBlock_32 ?_
    obtain ⟨σ7, hc9, hf⟩ := zq_ds hf
    refine zr_cv hw (zr_runV (rest := []) (ci := 2) (o := 7) G hw [.int x1, .int (x2 + 1)] (hS hc9) (cwV 2 hts (zs_gV zm_370 zm_371 zm_372 zm_269 zm_369) rfl rfl rfl (by decide +kernel) ⟨Nat.le_trans (show fS + 1 ≤ fS + 2 by omega) hR1, Nat.le_trans (show 8 + (4 + 11) + (lS) ≤ lS + 41 by omega) hR2⟩) rfl rfl rfl hl.1 (Nat.le_of_ble_eq_true rfl) d_Parser_readBlock_33 ⟨Nat.zero_le _, Nat.zero_le _⟩) (fun H locs hw => ?_)
    refine lv_aload_n hx hb d_Parser_readBlock_36 rfl (lv_at hl 1 rfl) ?_
    refine va_gets (C := "ScheduleCheck$Token") (n := "CLOSE") (d := "LScheduleCheck$Token;") (v := .ref (ad 1020)) hx hb ((G.2.2.2.1 rfl).1.1 20 (by decide)).1 hw.2.2 hown (hts _ zm_373) (fun _ h => h) d_Parser_readBlock_37 ?_
    obtain ⟨σ10, hc12, hf⟩ := zq_ds hf
    refine zr_cv hw (zr_runV (rest := []) (ci := 2) (o := 7) G hw [.ref (ad 1020)] (zc_Parser_expect hJ hc12) (cwV 1 hts (zs_gV zm_287 zm_288 zm_289 zm_269 zm_286) rfl rfl rfl (by decide +kernel) ⟨Nat.le_trans (show 1 + 1 ≤ fS + 2 by omega) hR1, Nat.le_trans (show 8 + (2 + 11) + (20) ≤ lS + 41 by omega) hR2⟩) rfl rfl rfl hl.1 (Nat.le_of_ble_eq_true rfl) d_Parser_readBlock_40 ⟨Nat.zero_le _, Nat.zero_le _⟩) (fun H locs hw => ?_)
    refine lv_aload_n hx hb d_Parser_readBlock_43 rfl (lv_at hl 1 rfl) ?_
    obtain ⟨q13, e_q13, h_q13, hf⟩ := zq_qs hf
    refine zr_get (ci := 2) G hw 7 7 zi_2 rfl rfl rfl (by decide) zm_290 (fun _ h => h) (v := .ref (ad q13)) (zs_fr rfl e_q13 h_q13) d_Parser_readBlock_44 ?_
    obtain ⟨hs14, hf⟩ := zq_gs hf
    have hs14 := zq_ks hs14
    refine zr_get (ci := 5) G hw q13 3 zi_5 hs14 rfl rfl (by decide) zm_368 (fun _ h => h) (v := .int (zs_i σ10 q13 3)) rfl d_Parser_readBlock_47 ?_
    refine lv_iload_n hx hb d_Parser_readBlock_50 rfl (lv_at hl 0 rfl) ?_
    refine lv_icmp_le hx hb d_Parser_readBlock_51 (tgt := 58) rfl (fun hc => ?_) (fun hc => ?_)
    · have hf := (if_pos hc).symm.trans hf
      refine lv_bipush (v := (-2)) hx hb d_Parser_readBlock_58 (by decide) ?_
      exact K60 ((-2)) σ10 H locs ls hf hw (lv_sub hl [] rfl)
    · have hf := (if_neg hc).symm.trans hf
      refine lv_iload_n hx hb d_Parser_readBlock_54 rfl (lv_at hl 0 rfl) ?_
      refine lv_goto hx hb d_Parser_readBlock_55 (tgt := 60) rfl ?_
      exact K60 v6 σ10 H locs ls hf hw (lv_sub hl [] rfl)
  · have hf := (if_pos hc).symm.trans hf
    refine lv_aload_n hx hb d_Parser_readBlock_6 rfl (lv_at hl 0 rfl) ?_
    obtain ⟨σ15, hc17, hf⟩ := zq_ds hf
    refine zr_cv hw (zr_runV (rest := []) (ci := 2) (o := 7) G hw [] (zc_Parser_fail hJ hc17) (cwV 0 hts (zs_gV zm_266 zm_267 zm_268 zm_269 zm_265) rfl rfl rfl (by decide +kernel) ⟨Nat.le_trans (show 0 + 1 ≤ fS + 2 by omega) hR1, Nat.le_trans (show 8 + (1 + 11) + (0) ≤ lS + 41 by omega) hR2⟩) rfl rfl rfl hl.1 (Nat.le_of_ble_eq_true rfl) d_Parser_readBlock_7 ⟨Nat.zero_le _, Nat.zero_le _⟩) (fun H locs hw => ?_)
    refine lv_bipush (v := (-2)) hx hb d_Parser_readBlock_10 (by decide) ?_
    exact zr_iret G hw hr hlocks hf hQ d_Parser_readBlock_12
/-! ScheduleCheck$Parser.readCondition -/
def y_Parser_readCondition : MethodName := ⟨"ScheduleCheck$Parser","readCondition","(LScheduleCheck$Statement;LScheduleCheck$Kind;I)V"⟩
theorem d_Parser_readCondition_0 : decode prog_6_method_23_code 0 = .ok (.aload_n 0, 1) := by decide +kernel
theorem d_Parser_readCondition_1 : decode prog_6_method_23_code 1 = .ok (.getfield 37, 3) := by decide +kernel
theorem d_Parser_readCondition_4 : decode prog_6_method_23_code 4 = .ok (.getfield 158, 3) := by decide +kernel
theorem d_Parser_readCondition_7 : decode prog_6_method_23_code 7 = .ok (.iconst 1, 1) := by decide +kernel
theorem d_Parser_readCondition_8 : decode prog_6_method_23_code 8 = .ok (.isub, 1) := by decide +kernel
theorem d_Parser_readCondition_9 : decode prog_6_method_23_code 9 = .ok (.istore 4, 2) := by decide +kernel
theorem d_Parser_readCondition_11 : decode prog_6_method_23_code 11 = .ok (.aload_n 1, 1) := by decide +kernel
theorem d_Parser_readCondition_12 : decode prog_6_method_23_code 12 = .ok (.aload_n 2, 1) := by decide +kernel
theorem d_Parser_readCondition_13 : decode prog_6_method_23_code 13 = .ok (.putfield 247, 3) := by decide +kernel
theorem d_Parser_readCondition_16 : decode prog_6_method_23_code 16 = .ok (.aload_n 0, 1) := by decide +kernel
theorem d_Parser_readCondition_17 : decode prog_6_method_23_code 17 = .ok (.invokevirtual 78, 3) := by decide +kernel
theorem d_Parser_readCondition_20 : decode prog_6_method_23_code 20 = .ok (.aload_n 0, 1) := by decide +kernel
theorem d_Parser_readCondition_21 : decode prog_6_method_23_code 21 = .ok (.getstatic 274, 3) := by decide +kernel
theorem d_Parser_readCondition_24 : decode prog_6_method_23_code 24 = .ok (.invokevirtual 116, 3) := by decide +kernel
theorem d_Parser_readCondition_27 : decode prog_6_method_23_code 27 = .ok (.aload_n 0, 1) := by decide +kernel
theorem d_Parser_readCondition_28 : decode prog_6_method_23_code 28 = .ok (.aload_n 1, 1) := by decide +kernel
theorem d_Parser_readCondition_29 : decode prog_6_method_23_code 29 = .ok (.invokevirtual 253, 3) := by decide +kernel
theorem d_Parser_readCondition_32 : decode prog_6_method_23_code 32 = .ok (.aload_n 0, 1) := by decide +kernel
theorem d_Parser_readCondition_33 : decode prog_6_method_23_code 33 = .ok (.getstatic 277, 3) := by decide +kernel
theorem d_Parser_readCondition_36 : decode prog_6_method_23_code 36 = .ok (.invokevirtual 116, 3) := by decide +kernel
theorem d_Parser_readCondition_39 : decode prog_6_method_23_code 39 = .ok (.aload_n 1, 1) := by decide +kernel
theorem d_Parser_readCondition_40 : decode prog_6_method_23_code 40 = .ok (.aload_n 0, 1) := by decide +kernel
theorem d_Parser_readCondition_41 : decode prog_6_method_23_code 41 = .ok (.iload 4, 2) := by decide +kernel
theorem d_Parser_readCondition_43 : decode prog_6_method_23_code 43 = .ok (.iload_n 3, 1) := by decide +kernel
theorem d_Parser_readCondition_44 : decode prog_6_method_23_code 44 = .ok (.invokevirtual 280, 3) := by decide +kernel
theorem d_Parser_readCondition_47 : decode prog_6_method_23_code 47 = .ok (.putfield 283, 3) := by decide +kernel
theorem d_Parser_readCondition_50 : decode prog_6_method_23_code 50 = .ok (.aload_n 2, 1) := by decide +kernel
theorem d_Parser_readCondition_51 : decode prog_6_method_23_code 51 = .ok (.getstatic 224, 3) := by decide +kernel
theorem d_Parser_readCondition_54 : decode prog_6_method_23_code 54 = .ok (.if_acmp .ne 28, 3) := by decide +kernel
theorem d_Parser_readCondition_57 : decode prog_6_method_23_code 57 = .ok (.aload_n 0, 1) := by decide +kernel
theorem d_Parser_readCondition_58 : decode prog_6_method_23_code 58 = .ok (.getfield 33, 3) := by decide +kernel
theorem d_Parser_readCondition_61 : decode prog_6_method_23_code 61 = .ok (.getstatic 286, 3) := by decide +kernel
theorem d_Parser_readCondition_64 : decode prog_6_method_23_code 64 = .ok (.if_acmp .ne 18, 3) := by decide +kernel
theorem d_Parser_readCondition_67 : decode prog_6_method_23_code 67 = .ok (.aload_n 0, 1) := by decide +kernel
theorem d_Parser_readCondition_68 : decode prog_6_method_23_code 68 = .ok (.invokevirtual 78, 3) := by decide +kernel
theorem d_Parser_readCondition_71 : decode prog_6_method_23_code 71 = .ok (.aload_n 1, 1) := by decide +kernel
theorem d_Parser_readCondition_72 : decode prog_6_method_23_code 72 = .ok (.aload_n 0, 1) := by decide +kernel
theorem d_Parser_readCondition_73 : decode prog_6_method_23_code 73 = .ok (.iload 4, 2) := by decide +kernel
theorem d_Parser_readCondition_75 : decode prog_6_method_23_code 75 = .ok (.iload_n 3, 1) := by decide +kernel
theorem d_Parser_readCondition_76 : decode prog_6_method_23_code 76 = .ok (.invokevirtual 280, 3) := by decide +kernel
theorem d_Parser_readCondition_79 : decode prog_6_method_23_code 79 = .ok (.putfield 289, 3) := by decide +kernel
theorem d_Parser_readCondition_82 : decode prog_6_method_23_code 82 = .ok (.return_, 1) := by decide +kernel
def zf_Parser_readCondition_82 (kS : Int32 → Int32 → zs_S → Option (zs_S)) (F : Nat)   (σ : zs_S) : Option (zs_S) :=
  some σ
def zf_Parser_readCondition (kS : Int32 → Int32 → zs_S → Option (zs_S)) (F : Nat) (x1 : Nat) (x2 : Nat) (x3 : Int32) (σ : zs_S) : Option (zs_S) :=
  zq_q (zs_r σ 7 7) fun q1 =>
  zq_g (zq_k 0 q1 15) <|
  zq_v ((zs_i σ q1 3) - 1) fun v3 =>
  zq_g (zq_k 0 x1 16) <|
  zq_g (zq_n x2) <|
  zq_v (zs_wr σ x1 0 x2) fun σ5 =>
  zq_d (zf_Parser_advance F σ5) fun σ7 =>
  zq_d (zf_Parser_expect F 1021 σ7) fun σ10 =>
  zq_d (zf_Parser_readExpression F x1 σ10) fun σ13 =>
  zq_d (zf_Parser_expect F 1022 σ13) fun σ16 =>
  zq_c (zf_Parser_readBlock kS F v3 x3 σ16) fun r20 σ19 =>
  zq_v (zs_wi σ19 x1 5 r20) fun σ22 =>
  zq_g (decide (x2 < 1200)) <|
  if x2 = 1107 then (
    zq_q (zs_r σ22 7 6) fun q24 =>
    zq_g (decide (q24 < 1200)) <|
    if q24 = 1016 then (
      zq_d (zf_Parser_advance F σ22) fun σ26 =>
      zq_c (zf_Parser_readBlock kS F v3 x3 σ26) fun r30 σ29 =>
      zq_v (zs_wi σ29 x1 6 r30) fun σ32 =>
      zf_Parser_readCondition_82 kS F σ32
    ) else (
      zf_Parser_readCondition_82 kS F σ22
    )
  ) else (
    zf_Parser_readCondition_82 kS F σ22
  )
set_option maxHeartbeats 4000000 in
set_option maxRecDepth 100000 in
theorem zc_Parser_readCondition {l : Launch} {D : va_G} {cA : Nat → ClassId} {ad : Nat → Nat} {A : Nat → Prop} {F : Nat} {x1 : Nat} {x2 : Nat} {x3 : Int32} {σ : zs_S} {q : zs_S} {kS : Int32 → Int32 → zs_S → Option (zs_S)} {fS lS : Nat} (hS : ∀ {x1 : Int32} {x2 : Int32} {σ : zs_S} {q : zs_S}, kS x1 x2 σ = some q → Met l y_Parser_readStatements (.code y_Parser_readStatements prog_6_method_17_code 4 none :: zd_ww) { frames := fS, cells := 0, slots := 0, locals := lS } (va_Pc [.ref (ad 7), .int x1, .int x2] (zs_U 0 D cA ad A σ)) (zs_Qv 0 D cA ad A q) 0 0 A) (hJ : zs_J ad) (hf : zf_Parser_readCondition kS F x1 x2 x3 σ = some q) : Met l y_Parser_readCondition (.code y_Parser_readCondition prog_6_method_23_code 5 none :: zd_ww) { frames := fS + 89, cells := 0, slots := 0, locals := lS + 2221 } (va_Pc [.ref (ad 7), .ref (ad x1), .ref (ad x2), .int x3] (zs_U 0 D cA ad A σ)) (zs_Qv 0 D cA ad A q) 0 0 A := by
  refine Met.ofW (cc := prog_6_method_23_code) (maxL := 5) (ret := none) (by decide) rfl ?_
  intro p e s m args below meth c s₁ B hml hv
  obtain ⟨hargs, hP, hK, hD, hZ⟩ := hv
  have G : zs_G 0 p s m args c prog_6_method_23_code 5 "ScheduleCheck$Parser" D cA ad A := ⟨⟨B.exec, B.bytes, hml, findClass_of_methodNamed B.named, fun w h => atoms_spec B.pre w (List.mem_cons_of_mem _ h)⟩, hK, hJ, hZ⟩
  have hw : zs_I 0 D cA ad A s σ s.heap [] := ⟨hP, hD, va_S.rf⟩
  have hx := G.1.1
  have hb := G.1.2.1
  have hown := G.1.2.2.2.1
  have hts := G.1.2.2.2.2
  have hr := B.returns
  have hlocks := B.notSynchronized
  have he : entryFrame m args 5 = F0 m 0 ((lg_sl [.ref (ad 7), .ref (ad x1), .ref (ad x2), .int x3] ++ List.replicate (5 - (lg_sl [.ref (ad 7), .ref (ad x1), .ref (ad x2), .int x3]).length) Slot.unset).toArray) [] := by rw [hargs]; exact lg_entry_eq m _ 5
  have hl := lv_entry [.ref (ad 7), .ref (ad x1), .ref (ad x2), .int x3] (n := 5) (Nat.le_of_ble_eq_true rfl)
  rw [he]
  generalize (lg_sl [.ref (ad 7), .ref (ad x1), .ref (ad x2), .int x3] ++ List.replicate (5 - (lg_sl [.ref (ad 7), .ref (ad x1), .ref (ad x2), .int x3]).length) Slot.unset).toArray = ls at hl
  have hl : lv_has ls 5 [(0, .ref (ad 7)), (1, .ref (ad x1)), (2, .ref (ad x2)), (3, .int x3)] := hl
  obtain ⟨RR, hR⟩ : ∃ z, z = (headSpec (.code y_Parser_readCondition prog_6_method_23_code 5 none :: zd_ww) { frames := fS + 89, cells := 0, slots := 0, locals := lS + 2221 }).room := ⟨_, rfl⟩
  rw [← hR]
  obtain ⟨QQ, hQ⟩ : ∃ z, z = MQ below (zs_Qv 0 D cA ad A q) args s 0 0 A := ⟨_, rfl⟩
  rw [← hQ]
  have hR1 : fS + 89 ≤ RR.frames := by rw [hR]; exact Nat.le_refl _
  have hR2 : lS + 2221 ≤ RR.locals := by rw [hR]; exact Nat.le_refl _
  generalize s.heap = H at hw ⊢
  generalize ([] : List Loc) = locs at hw ⊢
  have K82 : ∀ (σ : zs_S) (H : Heap) (locs : List Loc) (ls : Array Slot), zf_Parser_readCondition_82 kS F σ = some q → zs_I 0 D cA ad A s σ H locs → lv_has ls 5 [] → W p l e RR s m args below meth c H locs 0 0 QQ (F0 m 82 ls []) := by
    intro   σ H locs ls hf hw hl
    unfold zf_Parser_readCondition_82 at hf
    exact zr_vret G hw hr hlocks hf hQ d_Parser_readCondition_82
  unfold zf_Parser_readCondition at hf
  refine lv_aload_n hx hb d_Parser_readCondition_0 rfl (lv_at hl 0 rfl) ?_
  obtain ⟨q1, e_q1, h_q1, hf⟩ := zq_qs hf
  refine zr_get (ci := 2) G hw 7 7 zi_2 rfl rfl rfl (by decide) zm_290 (fun _ h => h) (v := .ref (ad q1)) (zs_fr rfl e_q1 h_q1) d_Parser_readCondition_1 ?_
  obtain ⟨hs2, hf⟩ := zq_gs hf
  have hs2 := zq_ks hs2
  refine zr_get (ci := 5) G hw q1 3 zi_5 hs2 rfl rfl (by decide) zm_368 (fun _ h => h) (v := .int (zs_i σ q1 3)) rfl d_Parser_readCondition_4 ?_
  refine lv_iconst (v := 1) hx hb d_Parser_readCondition_7 (by decide) ?_
  refine lv_isub hx hb d_Parser_readCondition_8 ?_
  refine lv_topi (fun v3 e_v3 => ?_)
  have hf := zq_vs e_v3 hf
  refine lv_istore hx hb d_Parser_readCondition_9 hl (by decide) rfl (fun ls hl => ?_)
  have hl : lv_has ls 5 [(4, .int v3), (0, .ref (ad 7)), (1, .ref (ad x1)), (2, .ref (ad x2)), (3, .int x3)] := hl
  refine lv_aload_n hx hb d_Parser_readCondition_11 rfl (lv_at hl 2 rfl) ?_
  refine lv_aload_n hx hb d_Parser_readCondition_12 rfl (lv_at hl 3 rfl) ?_
  obtain ⟨hs4, hf⟩ := zq_gs hf
  have hs4 := zq_ks hs4
  obtain ⟨hn6, hf⟩ := zq_gs hf
  have hn6 := zq_ns hn6
  obtain ⟨σ5, e_σ5, hf⟩ := zq_ss hf
  refine zr_putr (ci := 6) G hw x1 0 zi_6 t_zd6 t_zd6_ok n_zd6 hs4 rfl rfl (by decide) rfl zm_332 (fun _ h => h) rfl (x := x2) hn6 (t_zd6_ok 0 (by decide)) rfl rfl d_Parser_readCondition_13 (fun H locs hw => ?_)
  rw [← e_σ5] at hw
  refine lv_aload_n hx hb d_Parser_readCondition_16 rfl (lv_at hl 1 rfl) ?_
  obtain ⟨σ7, hc9, hf⟩ := zq_ds hf
  refine zr_cv hw (zr_runV (rest := []) (ci := 2) (o := 7) G hw [] (zc_Parser_advance hJ hc9) (cwV 0 hts (zs_gV zm_271 zm_272 zm_273 zm_269 zm_270) rfl rfl rfl (by decide +kernel) ⟨Nat.le_trans (show 0 + 1 ≤ fS + 89 by omega) hR1, Nat.le_trans (show 8 + (1 + 11) + (0) ≤ lS + 2221 by omega) hR2⟩) rfl rfl rfl hl.1 (Nat.le_of_ble_eq_true rfl) d_Parser_readCondition_17 ⟨Nat.zero_le _, Nat.zero_le _⟩) (fun H locs hw => ?_)
  refine lv_aload_n hx hb d_Parser_readCondition_20 rfl (lv_at hl 1 rfl) ?_
  refine va_gets (C := "ScheduleCheck$Token") (n := "LEFT") (d := "LScheduleCheck$Token;") (v := .ref (ad 1021)) hx hb ((G.2.2.2.1 rfl).1.1 21 (by decide)).1 hw.2.2 hown (hts _ zm_349) (fun _ h => h) d_Parser_readCondition_21 ?_
  obtain ⟨σ10, hc12, hf⟩ := zq_ds hf
  refine zr_cv hw (zr_runV (rest := []) (ci := 2) (o := 7) G hw [.ref (ad 1021)] (zc_Parser_expect hJ hc12) (cwV 1 hts (zs_gV zm_287 zm_288 zm_289 zm_269 zm_286) rfl rfl rfl (by decide +kernel) ⟨Nat.le_trans (show 1 + 1 ≤ fS + 89 by omega) hR1, Nat.le_trans (show 8 + (2 + 11) + (20) ≤ lS + 2221 by omega) hR2⟩) rfl rfl rfl hl.1 (Nat.le_of_ble_eq_true rfl) d_Parser_readCondition_24 ⟨Nat.zero_le _, Nat.zero_le _⟩) (fun H locs hw => ?_)
  refine lv_aload_n hx hb d_Parser_readCondition_27 rfl (lv_at hl 1 rfl) ?_
  refine lv_aload_n hx hb d_Parser_readCondition_28 rfl (lv_at hl 2 rfl) ?_
  obtain ⟨σ13, hc15, hf⟩ := zq_ds hf
  refine zr_cv hw (zr_runV (rest := []) (ci := 2) (o := 7) G hw [.ref (ad x1)] (zc_Parser_readExpression hJ hc15) (cwV 1 hts (zs_gV zm_363 zm_364 zm_365 zm_269 zm_362) rfl rfl rfl (by decide +kernel) ⟨Nat.le_trans (show 88 + 1 ≤ fS + 89 by omega) hR1, Nat.le_trans (show 8 + (2 + 11) + (2200) ≤ lS + 2221 by omega) hR2⟩) rfl rfl rfl hl.1 (Nat.le_of_ble_eq_true rfl) d_Parser_readCondition_29 ⟨Nat.zero_le _, Nat.zero_le _⟩) (fun H locs hw => ?_)
  refine lv_aload_n hx hb d_Parser_readCondition_32 rfl (lv_at hl 1 rfl) ?_
  refine va_gets (C := "ScheduleCheck$Token") (n := "RIGHT") (d := "LScheduleCheck$Token;") (v := .ref (ad 1022)) hx hb ((G.2.2.2.1 rfl).1.1 22 (by decide)).1 hw.2.2 hown (hts _ zm_351) (fun _ h => h) d_Parser_readCondition_33 ?_
  obtain ⟨σ16, hc18, hf⟩ := zq_ds hf
  refine zr_cv hw (zr_runV (rest := []) (ci := 2) (o := 7) G hw [.ref (ad 1022)] (zc_Parser_expect hJ hc18) (cwV 1 hts (zs_gV zm_287 zm_288 zm_289 zm_269 zm_286) rfl rfl rfl (by decide +kernel) ⟨Nat.le_trans (show 1 + 1 ≤ fS + 89 by omega) hR1, Nat.le_trans (show 8 + (2 + 11) + (20) ≤ lS + 2221 by omega) hR2⟩) rfl rfl rfl hl.1 (Nat.le_of_ble_eq_true rfl) d_Parser_readCondition_36 ⟨Nat.zero_le _, Nat.zero_le _⟩) (fun H locs hw => ?_)
  refine lv_aload_n hx hb d_Parser_readCondition_39 rfl (lv_at hl 2 rfl) ?_
  refine lv_aload_n hx hb d_Parser_readCondition_40 rfl (lv_at hl 1 rfl) ?_
  refine lv_iload hx hb d_Parser_readCondition_41 (lv_at hl 0 rfl) ?_
  refine lv_iload_n hx hb d_Parser_readCondition_43 rfl (lv_at hl 4 rfl) ?_
  obtain ⟨r20, σ19, hc21, hf⟩ := zq_cs hf
  refine zr_ci hw (zr_runV (rest := [.ref (ad x1)]) (ci := 2) (o := 7) G hw [.int v3, .int x3] (zc_Parser_readBlock hS hJ hc21) (cwV 2 hts (zs_gV zm_375 zm_376 zm_377 zm_269 zm_374) rfl rfl rfl (by decide +kernel) ⟨Nat.le_trans (show fS + 2 + 1 ≤ fS + 89 by omega) hR1, Nat.le_trans (show 8 + (4 + 11) + (lS + 41) ≤ lS + 2221 by omega) hR2⟩) rfl rfl rfl hl.1 (Nat.le_of_ble_eq_true rfl) d_Parser_readCondition_44 ⟨Nat.zero_le _, Nat.zero_le _⟩) (fun H locs hw => ?_)
  obtain ⟨σ22, e_σ22, hf⟩ := zq_ss hf
  refine zr_puti (ci := 6) G hw x1 5 zi_6 t_zd6 t_zd6_ok n_zd6 hs4 rfl rfl (by decide) rfl zm_378 (fun _ h => h) rfl (x := r20) (t_zd6_ok 5 (by decide)) rfl rfl d_Parser_readCondition_47 (fun H locs hw => ?_)
  rw [← e_σ22] at hw
  refine lv_aload_n hx hb d_Parser_readCondition_50 rfl (lv_at hl 3 rfl) ?_
  refine va_gets (C := "ScheduleCheck$Kind") (n := "IF") (d := "LScheduleCheck$Kind;") (v := .ref (ad 1107)) hx hb ((G.2.2.2.1 rfl).2.2.1.1 7 (by decide)).1 hw.2.2 hown (hts _ zm_379) (fun _ h => h) d_Parser_readCondition_51 ?_
  obtain ⟨hm23, hf⟩ := zq_gs hf
  refine zr_ane G (of_decide_eq_true hm23) (by decide) d_Parser_readCondition_54 (tgt := 82) rfl (fun hc => ?_) (fun hc => ?_)
  · have hf := (if_neg hc).symm.trans hf
    exact K82 σ22 H locs ls hf hw (lv_sub hl [] rfl)
  · have hf := (if_pos hc).symm.trans hf
    refine lv_aload_n hx hb d_Parser_readCondition_57 rfl (lv_at hl 1 rfl) ?_
    obtain ⟨q24, e_q24, h_q24, hf⟩ := zq_qs hf
    refine zr_get (ci := 2) G hw 7 6 zi_2 rfl rfl rfl (by decide) zm_263 (fun _ h => h) (v := .ref (ad q24)) (zs_fr rfl e_q24 h_q24) d_Parser_readCondition_58 ?_
    refine va_gets (C := "ScheduleCheck$Token") (n := "ELSE") (d := "LScheduleCheck$Token;") (v := .ref (ad 1016)) hx hb ((G.2.2.2.1 rfl).1.1 16 (by decide)).1 hw.2.2 hown (hts _ zm_380) (fun _ h => h) d_Parser_readCondition_61 ?_
    obtain ⟨hm25, hf⟩ := zq_gs hf
    refine zr_ane G (of_decide_eq_true hm25) (by decide) d_Parser_readCondition_64 (tgt := 82) rfl (fun hc => ?_) (fun hc => ?_)
    · have hf := (if_neg hc).symm.trans hf
      exact K82 σ22 H locs ls hf hw (lv_sub hl [] rfl)
    · have hf := (if_pos hc).symm.trans hf
      refine lv_aload_n hx hb d_Parser_readCondition_67 rfl (lv_at hl 1 rfl) ?_
      obtain ⟨σ26, hc28, hf⟩ := zq_ds hf
      refine zr_cv hw (zr_runV (rest := []) (ci := 2) (o := 7) G hw [] (zc_Parser_advance hJ hc28) (cwV 0 hts (zs_gV zm_271 zm_272 zm_273 zm_269 zm_270) rfl rfl rfl (by decide +kernel) ⟨Nat.le_trans (show 0 + 1 ≤ fS + 89 by omega) hR1, Nat.le_trans (show 8 + (1 + 11) + (0) ≤ lS + 2221 by omega) hR2⟩) rfl rfl rfl hl.1 (Nat.le_of_ble_eq_true rfl) d_Parser_readCondition_68 ⟨Nat.zero_le _, Nat.zero_le _⟩) (fun H locs hw => ?_)
      refine lv_aload_n hx hb d_Parser_readCondition_71 rfl (lv_at hl 2 rfl) ?_
      refine lv_aload_n hx hb d_Parser_readCondition_72 rfl (lv_at hl 1 rfl) ?_
      refine lv_iload hx hb d_Parser_readCondition_73 (lv_at hl 0 rfl) ?_
      refine lv_iload_n hx hb d_Parser_readCondition_75 rfl (lv_at hl 4 rfl) ?_
      obtain ⟨r30, σ29, hc31, hf⟩ := zq_cs hf
      refine zr_ci hw (zr_runV (rest := [.ref (ad x1)]) (ci := 2) (o := 7) G hw [.int v3, .int x3] (zc_Parser_readBlock hS hJ hc31) (cwV 2 hts (zs_gV zm_375 zm_376 zm_377 zm_269 zm_374) rfl rfl rfl (by decide +kernel) ⟨Nat.le_trans (show fS + 2 + 1 ≤ fS + 89 by omega) hR1, Nat.le_trans (show 8 + (4 + 11) + (lS + 41) ≤ lS + 2221 by omega) hR2⟩) rfl rfl rfl hl.1 (Nat.le_of_ble_eq_true rfl) d_Parser_readCondition_76 ⟨Nat.zero_le _, Nat.zero_le _⟩) (fun H locs hw => ?_)
      obtain ⟨σ32, e_σ32, hf⟩ := zq_ss hf
      refine zr_puti (ci := 6) G hw x1 6 zi_6 t_zd6 t_zd6_ok n_zd6 hs4 rfl rfl (by decide) rfl zm_381 (fun _ h => h) rfl (x := r30) (t_zd6_ok 6 (by decide)) rfl rfl d_Parser_readCondition_79 (fun H locs hw => ?_)
      rw [← e_σ32] at hw
      exact K82 σ32 H locs ls hf hw (lv_sub hl [] rfl)
/-! ScheduleCheck$Parser.readStatement -/
def y_Parser_readStatement : MethodName := ⟨"ScheduleCheck$Parser","readStatement","(II)V"⟩
theorem d_Parser_readStatement_0 : decode prog_6_method_18_code 0 = .ok (.aload_n 0, 1) := by decide +kernel
theorem d_Parser_readStatement_1 : decode prog_6_method_18_code 1 = .ok (.getfield 37, 3) := by decide +kernel
theorem d_Parser_readStatement_4 : decode prog_6_method_18_code 4 = .ok (.getfield 158, 3) := by decide +kernel
theorem d_Parser_readStatement_7 : decode prog_6_method_18_code 7 = .ok (.bipush 50, 2) := by decide +kernel
theorem d_Parser_readStatement_9 : decode prog_6_method_18_code 9 = .ok (.if_icmp .ne 8, 3) := by decide +kernel
theorem d_Parser_readStatement_12 : decode prog_6_method_18_code 12 = .ok (.aload_n 0, 1) := by decide +kernel
theorem d_Parser_readStatement_13 : decode prog_6_method_18_code 13 = .ok (.invokevirtual 66, 3) := by decide +kernel
theorem d_Parser_readStatement_16 : decode prog_6_method_18_code 16 = .ok (.return_, 1) := by decide +kernel
theorem d_Parser_readStatement_17 : decode prog_6_method_18_code 17 = .ok (.aload_n 0, 1) := by decide +kernel
theorem d_Parser_readStatement_18 : decode prog_6_method_18_code 18 = .ok (.getfield 37, 3) := by decide +kernel
theorem d_Parser_readStatement_21 : decode prog_6_method_18_code 21 = .ok (.getfield 178, 3) := by decide +kernel
theorem d_Parser_readStatement_24 : decode prog_6_method_18_code 24 = .ok (.aload_n 0, 1) := by decide +kernel
theorem d_Parser_readStatement_25 : decode prog_6_method_18_code 25 = .ok (.getfield 37, 3) := by decide +kernel
theorem d_Parser_readStatement_28 : decode prog_6_method_18_code 28 = .ok (.getfield 158, 3) := by decide +kernel
theorem d_Parser_readStatement_31 : decode prog_6_method_18_code 31 = .ok (.aaload, 1) := by decide +kernel
theorem d_Parser_readStatement_32 : decode prog_6_method_18_code 32 = .ok (.astore_n 3, 1) := by decide +kernel
theorem d_Parser_readStatement_33 : decode prog_6_method_18_code 33 = .ok (.aload_n 3, 1) := by decide +kernel
theorem d_Parser_readStatement_34 : decode prog_6_method_18_code 34 = .ok (.iload_n 1, 1) := by decide +kernel
theorem d_Parser_readStatement_35 : decode prog_6_method_18_code 35 = .ok (.invokevirtual 182, 3) := by decide +kernel
theorem d_Parser_readStatement_38 : decode prog_6_method_18_code 38 = .ok (.aload_n 0, 1) := by decide +kernel
theorem d_Parser_readStatement_39 : decode prog_6_method_18_code 39 = .ok (.getfield 37, 3) := by decide +kernel
theorem d_Parser_readStatement_42 : decode prog_6_method_18_code 42 = .ok (.dup, 1) := by decide +kernel
theorem d_Parser_readStatement_43 : decode prog_6_method_18_code 43 = .ok (.getfield 158, 3) := by decide +kernel
theorem d_Parser_readStatement_46 : decode prog_6_method_18_code 46 = .ok (.iconst 1, 1) := by decide +kernel
theorem d_Parser_readStatement_47 : decode prog_6_method_18_code 47 = .ok (.iadd, 1) := by decide +kernel
theorem d_Parser_readStatement_48 : decode prog_6_method_18_code 48 = .ok (.putfield 158, 3) := by decide +kernel
theorem d_Parser_readStatement_51 : decode prog_6_method_18_code 51 = .ok (.getstatic 187, 3) := by decide +kernel
theorem d_Parser_readStatement_54 : decode prog_6_method_18_code 54 = .ok (.aload_n 0, 1) := by decide +kernel
theorem d_Parser_readStatement_55 : decode prog_6_method_18_code 55 = .ok (.getfield 33, 3) := by decide +kernel
theorem d_Parser_readStatement_58 : decode prog_6_method_18_code 58 = .ok (.invokevirtual 192, 3) := by decide +kernel
theorem d_Parser_readStatement_61 : decode prog_6_method_18_code 61 = .ok (.iaload, 1) := by decide +kernel
theorem d_Parser_readStatement_62 : decode prog_6_method_18_code 62 = .ok (.tableswitch 142 11 19 #[50, 58, 69, 80, 91, 102, 110, 118, 130], 50) := by decide +kernel
theorem d_Parser_readStatement_112 : decode prog_6_method_18_code 112 = .ok (.aload_n 0, 1) := by decide +kernel
theorem d_Parser_readStatement_113 : decode prog_6_method_18_code 113 = .ok (.aload_n 3, 1) := by decide +kernel
theorem d_Parser_readStatement_114 : decode prog_6_method_18_code 114 = .ok (.invokevirtual 195, 3) := by decide +kernel
theorem d_Parser_readStatement_117 : decode prog_6_method_18_code 117 = .ok (.goto 91, 3) := by decide +kernel
theorem d_Parser_readStatement_120 : decode prog_6_method_18_code 120 = .ok (.aload_n 0, 1) := by decide +kernel
theorem d_Parser_readStatement_121 : decode prog_6_method_18_code 121 = .ok (.aload_n 3, 1) := by decide +kernel
theorem d_Parser_readStatement_122 : decode prog_6_method_18_code 122 = .ok (.getstatic 199, 3) := by decide +kernel
theorem d_Parser_readStatement_125 : decode prog_6_method_18_code 125 = .ok (.invokevirtual 205, 3) := by decide +kernel
theorem d_Parser_readStatement_128 : decode prog_6_method_18_code 128 = .ok (.goto 80, 3) := by decide +kernel
theorem d_Parser_readStatement_131 : decode prog_6_method_18_code 131 = .ok (.aload_n 0, 1) := by decide +kernel
theorem d_Parser_readStatement_132 : decode prog_6_method_18_code 132 = .ok (.aload_n 3, 1) := by decide +kernel
theorem d_Parser_readStatement_133 : decode prog_6_method_18_code 133 = .ok (.getstatic 209, 3) := by decide +kernel
theorem d_Parser_readStatement_136 : decode prog_6_method_18_code 136 = .ok (.invokevirtual 205, 3) := by decide +kernel
theorem d_Parser_readStatement_139 : decode prog_6_method_18_code 139 = .ok (.goto 69, 3) := by decide +kernel
theorem d_Parser_readStatement_142 : decode prog_6_method_18_code 142 = .ok (.aload_n 0, 1) := by decide +kernel
theorem d_Parser_readStatement_143 : decode prog_6_method_18_code 143 = .ok (.aload_n 3, 1) := by decide +kernel
theorem d_Parser_readStatement_144 : decode prog_6_method_18_code 144 = .ok (.getstatic 212, 3) := by decide +kernel
theorem d_Parser_readStatement_147 : decode prog_6_method_18_code 147 = .ok (.invokevirtual 205, 3) := by decide +kernel
theorem d_Parser_readStatement_150 : decode prog_6_method_18_code 150 = .ok (.goto 58, 3) := by decide +kernel
theorem d_Parser_readStatement_153 : decode prog_6_method_18_code 153 = .ok (.aload_n 0, 1) := by decide +kernel
theorem d_Parser_readStatement_154 : decode prog_6_method_18_code 154 = .ok (.aload_n 3, 1) := by decide +kernel
theorem d_Parser_readStatement_155 : decode prog_6_method_18_code 155 = .ok (.getstatic 215, 3) := by decide +kernel
theorem d_Parser_readStatement_158 : decode prog_6_method_18_code 158 = .ok (.invokevirtual 205, 3) := by decide +kernel
theorem d_Parser_readStatement_161 : decode prog_6_method_18_code 161 = .ok (.goto 47, 3) := by decide +kernel
theorem d_Parser_readStatement_164 : decode prog_6_method_18_code 164 = .ok (.aload_n 0, 1) := by decide +kernel
theorem d_Parser_readStatement_165 : decode prog_6_method_18_code 165 = .ok (.aload_n 3, 1) := by decide +kernel
theorem d_Parser_readStatement_166 : decode prog_6_method_18_code 166 = .ok (.invokevirtual 218, 3) := by decide +kernel
theorem d_Parser_readStatement_169 : decode prog_6_method_18_code 169 = .ok (.goto 39, 3) := by decide +kernel
theorem d_Parser_readStatement_172 : decode prog_6_method_18_code 172 = .ok (.aload_n 0, 1) := by decide +kernel
theorem d_Parser_readStatement_173 : decode prog_6_method_18_code 173 = .ok (.aload_n 3, 1) := by decide +kernel
theorem d_Parser_readStatement_174 : decode prog_6_method_18_code 174 = .ok (.invokevirtual 221, 3) := by decide +kernel
theorem d_Parser_readStatement_177 : decode prog_6_method_18_code 177 = .ok (.goto 31, 3) := by decide +kernel
theorem d_Parser_readStatement_180 : decode prog_6_method_18_code 180 = .ok (.aload_n 0, 1) := by decide +kernel
theorem d_Parser_readStatement_181 : decode prog_6_method_18_code 181 = .ok (.aload_n 3, 1) := by decide +kernel
theorem d_Parser_readStatement_182 : decode prog_6_method_18_code 182 = .ok (.getstatic 224, 3) := by decide +kernel
theorem d_Parser_readStatement_185 : decode prog_6_method_18_code 185 = .ok (.iload_n 2, 1) := by decide +kernel
theorem d_Parser_readStatement_186 : decode prog_6_method_18_code 186 = .ok (.invokevirtual 227, 3) := by decide +kernel
theorem d_Parser_readStatement_189 : decode prog_6_method_18_code 189 = .ok (.goto 19, 3) := by decide +kernel
theorem d_Parser_readStatement_192 : decode prog_6_method_18_code 192 = .ok (.aload_n 0, 1) := by decide +kernel
theorem d_Parser_readStatement_193 : decode prog_6_method_18_code 193 = .ok (.aload_n 3, 1) := by decide +kernel
theorem d_Parser_readStatement_194 : decode prog_6_method_18_code 194 = .ok (.getstatic 231, 3) := by decide +kernel
theorem d_Parser_readStatement_197 : decode prog_6_method_18_code 197 = .ok (.iload_n 2, 1) := by decide +kernel
theorem d_Parser_readStatement_198 : decode prog_6_method_18_code 198 = .ok (.invokevirtual 227, 3) := by decide +kernel
theorem d_Parser_readStatement_201 : decode prog_6_method_18_code 201 = .ok (.goto 7, 3) := by decide +kernel
theorem d_Parser_readStatement_204 : decode prog_6_method_18_code 204 = .ok (.aload_n 0, 1) := by decide +kernel
theorem d_Parser_readStatement_205 : decode prog_6_method_18_code 205 = .ok (.invokevirtual 66, 3) := by decide +kernel
theorem d_Parser_readStatement_208 : decode prog_6_method_18_code 208 = .ok (.aload_n 3, 1) := by decide +kernel
theorem d_Parser_readStatement_209 : decode prog_6_method_18_code 209 = .ok (.aload_n 0, 1) := by decide +kernel
theorem d_Parser_readStatement_210 : decode prog_6_method_18_code 210 = .ok (.getfield 33, 3) := by decide +kernel
theorem d_Parser_readStatement_213 : decode prog_6_method_18_code 213 = .ok (.getstatic 168, 3) := by decide +kernel
theorem d_Parser_readStatement_216 : decode prog_6_method_18_code 216 = .ok (.if_acmp .ne 8, 3) := by decide +kernel
theorem d_Parser_readStatement_219 : decode prog_6_method_18_code 219 = .ok (.bipush (-2), 2) := by decide +kernel
theorem d_Parser_readStatement_221 : decode prog_6_method_18_code 221 = .ok (.goto 10, 3) := by decide +kernel
theorem d_Parser_readStatement_224 : decode prog_6_method_18_code 224 = .ok (.aload_n 0, 1) := by decide +kernel
theorem d_Parser_readStatement_225 : decode prog_6_method_18_code 225 = .ok (.getfield 37, 3) := by decide +kernel
theorem d_Parser_readStatement_228 : decode prog_6_method_18_code 228 = .ok (.getfield 158, 3) := by decide +kernel
theorem d_Parser_readStatement_231 : decode prog_6_method_18_code 231 = .ok (.putfield 234, 3) := by decide +kernel
theorem d_Parser_readStatement_234 : decode prog_6_method_18_code 234 = .ok (.return_, 1) := by decide +kernel
def zf_Parser_readStatement_231 (kS : Int32 → Int32 → zs_S → Option (zs_S)) (F : Nat)  (t0 : Int32) (t1 : Nat) (σ : zs_S) : Option (zs_S) :=
  zq_g (zq_k 0 t1 16) <|
  zq_v (zs_wi σ t1 7 t0) fun σ63 =>
  some σ63
def zf_Parser_readStatement_208 (kS : Int32 → Int32 → zs_S → Option (zs_S)) (F : Nat)  (x3 : Nat) (σ : zs_S) : Option (zs_S) :=
  zq_q (zs_r σ 7 6) fun q58 =>
  zq_g (decide (q58 < 1200)) <|
  if q58 = 1020 then (
    zf_Parser_readStatement_231 kS F ((-2)) x3 σ
  ) else (
    zq_q (zs_r σ 7 7) fun q60 =>
    zq_g (zq_k 0 q60 15) <|
    zf_Parser_readStatement_231 kS F (zs_i σ q60 3) x3 σ
  )
def zf_Parser_readStatement (kS : Int32 → Int32 → zs_S → Option (zs_S)) (F : Nat) (x1 : Int32) (x2 : Int32) (σ : zs_S) : Option (zs_S) :=
  zq_q (zs_r σ 7 7) fun q1 =>
  zq_g (zq_k 0 q1 15) <|
  if (zs_i σ q1 3) = 50 then (
    zq_d (zf_Parser_fail F σ) fun σ55 =>
    some σ55
  ) else (
    zq_q (zs_r σ 7 7) fun q3 =>
    zq_g (zq_k 0 q3 15) <|
    zq_q (zd_rf 0 q3 7) fun q5 =>
    zq_q (zs_r σ 7 7) fun q6 =>
    zq_g (zq_k 0 q6 15) <|
    zq_g (zq_k 0 q5 5) <|
    zq_g (zq_b (zs_i σ q6 3) (zd_sh 0 q5).2) <|
    zq_q (zd_rf 0 q5 (zs_i σ q6 3).toNatClampNeg) fun q10 =>
    zq_g (zq_k 0 q10 16) <|
    zq_d (zf_Statement_begin F q10 x1 σ) fun σ11 =>
    zq_q (zs_r σ11 7 7) fun q15 =>
    zq_g (zq_k 0 q15 15) <|
    zq_v (zs_wi σ11 q15 3 ((zs_i σ11 q15 3) + 1)) fun σ17 =>
    zq_q (zs_r σ17 7 6) fun q18 =>
    zq_g (zq_t q18) <|
    zq_c (zf_Enum_ordinal0 F q18 σ17) fun r20 σ19 =>
    zq_g (zq_b r20 37) <|
    zq_v (zd_mt.getD (r20).toNatClampNeg 0) fun v24 =>
    if v24 = 11 then (
      zq_d (zf_Parser_readAssignment F q10 σ19) fun σ25 =>
      zf_Parser_readStatement_208 kS F q10 σ25
    ) else (
    if v24 = 12 then (
      zq_d (zf_Parser_readLockUse F q10 1101 σ19) fun σ28 =>
      zf_Parser_readStatement_208 kS F q10 σ28
    ) else (
    if v24 = 13 then (
      zq_d (zf_Parser_readLockUse F q10 1102 σ19) fun σ31 =>
      zf_Parser_readStatement_208 kS F q10 σ31
    ) else (
    if v24 = 14 then (
      zq_d (zf_Parser_readLockUse F q10 1103 σ19) fun σ34 =>
      zf_Parser_readStatement_208 kS F q10 σ34
    ) else (
    if v24 = 15 then (
      zq_d (zf_Parser_readLockUse F q10 1104 σ19) fun σ37 =>
      zf_Parser_readStatement_208 kS F q10 σ37
    ) else (
    if v24 = 16 then (
      zq_d (zf_Parser_readAssert F q10 σ19) fun σ40 =>
      zf_Parser_readStatement_208 kS F q10 σ40
    ) else (
    if v24 = 17 then (
      zq_d (zf_Parser_readStop F q10 σ19) fun σ43 =>
      zf_Parser_readStatement_208 kS F q10 σ43
    ) else (
    if v24 = 18 then (
      zq_d (zf_Parser_readCondition kS F q10 1107 x2 σ19) fun σ46 =>
      zf_Parser_readStatement_208 kS F q10 σ46
    ) else (
    if v24 = 19 then (
      zq_d (zf_Parser_readCondition kS F q10 1108 x2 σ19) fun σ49 =>
      zf_Parser_readStatement_208 kS F q10 σ49
    ) else (
      zq_d (zf_Parser_fail F σ19) fun σ52 =>
      zf_Parser_readStatement_208 kS F q10 σ52
    )))))))))
  )
set_option maxHeartbeats 4000000 in
set_option maxRecDepth 100000 in
theorem zc_Parser_readStatement {l : Launch} {D : va_G} {cA : Nat → ClassId} {ad : Nat → Nat} {A : Nat → Prop} {F : Nat} {x1 : Int32} {x2 : Int32} {σ : zs_S} {q : zs_S} {kS : Int32 → Int32 → zs_S → Option (zs_S)} {fS lS : Nat} (hS : ∀ {x1 : Int32} {x2 : Int32} {σ : zs_S} {q : zs_S}, kS x1 x2 σ = some q → Met l y_Parser_readStatements (.code y_Parser_readStatements prog_6_method_17_code 4 none :: zd_ww) { frames := fS, cells := 0, slots := 0, locals := lS } (va_Pc [.ref (ad 7), .int x1, .int x2] (zs_U 0 D cA ad A σ)) (zs_Qv 0 D cA ad A q) 0 0 A) (hJ : zs_J ad) (hf : zf_Parser_readStatement kS F x1 x2 σ = some q) : Met l y_Parser_readStatement (.code y_Parser_readStatement prog_6_method_18_code 4 none :: zd_ww) { frames := fS + 90, cells := 0, slots := 0, locals := lS + 2245 } (va_Pc [.ref (ad 7), .int x1, .int x2] (zs_U 0 D cA ad A σ)) (zs_Qv 0 D cA ad A q) 0 0 A := by
  refine Met.ofW (cc := prog_6_method_18_code) (maxL := 4) (ret := none) (by decide) rfl ?_
  intro p e s m args below meth c s₁ B hml hv
  obtain ⟨hargs, hP, hK, hD, hZ⟩ := hv
  have G : zs_G 0 p s m args c prog_6_method_18_code 4 "ScheduleCheck$Parser" D cA ad A := ⟨⟨B.exec, B.bytes, hml, findClass_of_methodNamed B.named, fun w h => atoms_spec B.pre w (List.mem_cons_of_mem _ h)⟩, hK, hJ, hZ⟩
  have hw : zs_I 0 D cA ad A s σ s.heap [] := ⟨hP, hD, va_S.rf⟩
  have hx := G.1.1
  have hb := G.1.2.1
  have hown := G.1.2.2.2.1
  have hts := G.1.2.2.2.2
  have hr := B.returns
  have hlocks := B.notSynchronized
  have he : entryFrame m args 4 = F0 m 0 ((lg_sl [.ref (ad 7), .int x1, .int x2] ++ List.replicate (4 - (lg_sl [.ref (ad 7), .int x1, .int x2]).length) Slot.unset).toArray) [] := by rw [hargs]; exact lg_entry_eq m _ 4
  have hl := lv_entry [.ref (ad 7), .int x1, .int x2] (n := 4) (Nat.le_of_ble_eq_true rfl)
  rw [he]
  generalize (lg_sl [.ref (ad 7), .int x1, .int x2] ++ List.replicate (4 - (lg_sl [.ref (ad 7), .int x1, .int x2]).length) Slot.unset).toArray = ls at hl
  have hl : lv_has ls 4 [(0, .ref (ad 7)), (1, .int x1), (2, .int x2)] := hl
  obtain ⟨RR, hR⟩ : ∃ z, z = (headSpec (.code y_Parser_readStatement prog_6_method_18_code 4 none :: zd_ww) { frames := fS + 90, cells := 0, slots := 0, locals := lS + 2245 }).room := ⟨_, rfl⟩
  rw [← hR]
  obtain ⟨QQ, hQ⟩ : ∃ z, z = MQ below (zs_Qv 0 D cA ad A q) args s 0 0 A := ⟨_, rfl⟩
  rw [← hQ]
  have hR1 : fS + 90 ≤ RR.frames := by rw [hR]; exact Nat.le_refl _
  have hR2 : lS + 2245 ≤ RR.locals := by rw [hR]; exact Nat.le_refl _
  generalize s.heap = H at hw ⊢
  generalize ([] : List Loc) = locs at hw ⊢
  have K231 : ∀ (t0 : Int32) (t1 : Nat) (σ : zs_S) (H : Heap) (locs : List Loc) (ls : Array Slot), zf_Parser_readStatement_231 kS F t0 t1 σ = some q → zs_I 0 D cA ad A s σ H locs → lv_has ls 4 [] → W p l e RR s m args below meth c H locs 0 0 QQ (F0 m 231 ls [.int t0, .ref (ad t1)]) := by
    intro  t0 t1 σ H locs ls hf hw hl
    unfold zf_Parser_readStatement_231 at hf
    obtain ⟨hs62, hf⟩ := zq_gs hf
    have hs62 := zq_ks hs62
    obtain ⟨σ63, e_σ63, hf⟩ := zq_ss hf
    refine zr_puti (ci := 6) G hw t1 7 zi_6 t_zd6 t_zd6_ok n_zd6 hs62 rfl rfl (by decide) rfl zm_413 (fun _ h => h) rfl (x := t0) (t_zd6_ok 7 (by decide)) rfl rfl d_Parser_readStatement_231 (fun H locs hw => ?_)
    rw [← e_σ63] at hw
    exact zr_vret G hw hr hlocks hf hQ d_Parser_readStatement_234
  have K208 : ∀ (x3 : Nat) (σ : zs_S) (H : Heap) (locs : List Loc) (ls : Array Slot), zf_Parser_readStatement_208 kS F x3 σ = some q → zs_I 0 D cA ad A s σ H locs → lv_has ls 4 [(0, .ref (ad 7)), (3, .ref (ad x3))] → W p l e RR s m args below meth c H locs 0 0 QQ (F0 m 208 ls []) := by
    intro  x3 σ H locs ls hf hw hl
    unfold zf_Parser_readStatement_208 at hf
    refine lv_aload_n hx hb d_Parser_readStatement_208 rfl (lv_at hl 1 rfl) ?_
    refine lv_aload_n hx hb d_Parser_readStatement_209 rfl (lv_at hl 0 rfl) ?_
    obtain ⟨q58, e_q58, h_q58, hf⟩ := zq_qs hf
    refine zr_get (ci := 2) G hw 7 6 zi_2 rfl rfl rfl (by decide) zm_263 (fun _ h => h) (v := .ref (ad q58)) (zs_fr rfl e_q58 h_q58) d_Parser_readStatement_210 ?_
    refine va_gets (C := "ScheduleCheck$Token") (n := "CLOSE") (d := "LScheduleCheck$Token;") (v := .ref (ad 1020)) hx hb ((G.2.2.2.1 rfl).1.1 20 (by decide)).1 hw.2.2 hown (hts _ zm_373) (fun _ h => h) d_Parser_readStatement_213 ?_
    obtain ⟨hm59, hf⟩ := zq_gs hf
    refine zr_ane G (of_decide_eq_true hm59) (by decide) d_Parser_readStatement_216 (tgt := 224) rfl (fun hc => ?_) (fun hc => ?_)
    · have hf := (if_neg hc).symm.trans hf
      refine lv_aload_n hx hb d_Parser_readStatement_224 rfl (lv_at hl 0 rfl) ?_
      obtain ⟨q60, e_q60, h_q60, hf⟩ := zq_qs hf
      refine zr_get (ci := 2) G hw 7 7 zi_2 rfl rfl rfl (by decide) zm_290 (fun _ h => h) (v := .ref (ad q60)) (zs_fr rfl e_q60 h_q60) d_Parser_readStatement_225 ?_
      obtain ⟨hs61, hf⟩ := zq_gs hf
      have hs61 := zq_ks hs61
      refine zr_get (ci := 5) G hw q60 3 zi_5 hs61 rfl rfl (by decide) zm_368 (fun _ h => h) (v := .int (zs_i σ q60 3)) rfl d_Parser_readStatement_228 ?_
      exact K231 (zs_i σ q60 3) x3 σ H locs ls hf hw (lv_sub hl [] rfl)
    · have hf := (if_pos hc).symm.trans hf
      refine lv_bipush (v := (-2)) hx hb d_Parser_readStatement_219 (by decide) ?_
      refine lv_goto hx hb d_Parser_readStatement_221 (tgt := 231) rfl ?_
      exact K231 ((-2)) x3 σ H locs ls hf hw (lv_sub hl [] rfl)
  unfold zf_Parser_readStatement at hf
  refine lv_aload_n hx hb d_Parser_readStatement_0 rfl (lv_at hl 0 rfl) ?_
  obtain ⟨q1, e_q1, h_q1, hf⟩ := zq_qs hf
  refine zr_get (ci := 2) G hw 7 7 zi_2 rfl rfl rfl (by decide) zm_290 (fun _ h => h) (v := .ref (ad q1)) (zs_fr rfl e_q1 h_q1) d_Parser_readStatement_1 ?_
  obtain ⟨hs2, hf⟩ := zq_gs hf
  have hs2 := zq_ks hs2
  refine zr_get (ci := 5) G hw q1 3 zi_5 hs2 rfl rfl (by decide) zm_368 (fun _ h => h) (v := .int (zs_i σ q1 3)) rfl d_Parser_readStatement_4 ?_
  refine lv_bipush (v := 50) hx hb d_Parser_readStatement_7 (by decide) ?_
  refine lv_icmp_ne hx hb d_Parser_readStatement_9 (tgt := 17) rfl (fun hc => ?_) (fun hc => ?_)
  · have hf := (if_neg hc).symm.trans hf
    refine lv_aload_n hx hb d_Parser_readStatement_17 rfl (lv_at hl 0 rfl) ?_
    obtain ⟨q3, e_q3, h_q3, hf⟩ := zq_qs hf
    refine zr_get (ci := 2) G hw 7 7 zi_2 rfl rfl rfl (by decide) zm_290 (fun _ h => h) (v := .ref (ad q3)) (zs_fr rfl e_q3 h_q3) d_Parser_readStatement_18 ?_
    obtain ⟨hs4, hf⟩ := zq_gs hf
    have hs4 := zq_ks hs4
    obtain ⟨q5, e_q5, h_q5, hf⟩ := zq_qs hf
    refine zr_get (ci := 5) G hw q3 7 zi_5 hs4 rfl rfl (by decide) zm_382 (fun _ h => h) (v := .ref (ad q5)) (zs_fs rfl e_q5 h_q5) d_Parser_readStatement_21 ?_
    refine lv_aload_n hx hb d_Parser_readStatement_24 rfl (lv_at hl 0 rfl) ?_
    obtain ⟨q6, e_q6, h_q6, hf⟩ := zq_qs hf
    refine zr_get (ci := 2) G hw 7 7 zi_2 rfl rfl rfl (by decide) zm_290 (fun _ h => h) (v := .ref (ad q6)) (zs_fr rfl e_q6 h_q6) d_Parser_readStatement_25 ?_
    obtain ⟨hs7, hf⟩ := zq_gs hf
    have hs7 := zq_ks hs7
    refine zr_get (ci := 5) G hw q6 3 zi_5 hs7 rfl rfl (by decide) zm_368 (fun _ h => h) (v := .int (zs_i σ q6 3)) rfl d_Parser_readStatement_28 ?_
    obtain ⟨hs8, hf⟩ := zq_gs hf
    have hs8 := zq_ks hs8
    obtain ⟨hi9, hf⟩ := zq_gs hf
    obtain ⟨q10, e_q10, h_q10, hf⟩ := zq_qs hf
    refine zr_aald5 G hw q5 hs8 rfl hi9 (by rw [← e_q10]; exact h_q10) d_Parser_readStatement_31 ?_
    rw [← e_q10]
    refine lv_astore_n hx hb d_Parser_readStatement_32 rfl hl (by decide) rfl (fun ls hl => ?_)
    have hl : lv_has ls 4 [(3, .ref (ad q10)), (0, .ref (ad 7)), (1, .int x1), (2, .int x2)] := hl
    refine lv_aload_n hx hb d_Parser_readStatement_33 rfl (lv_at hl 0 rfl) ?_
    refine lv_iload_n hx hb d_Parser_readStatement_34 rfl (lv_at hl 2 rfl) ?_
    obtain ⟨hs14, hf⟩ := zq_gs hf
    have hs14 := zq_ks hs14
    obtain ⟨σ11, hc13, hf⟩ := zq_ds hf
    refine zr_cv hw (zr_runV (rest := []) (ci := 6) (o := q10) G hw [.int x1] (zc_Statement_begin hJ hc13) (cwV 1 hts (zs_gV zm_384 zm_385 zm_386 zm_198 zm_383) rfl rfl rfl (by decide +kernel) ⟨Nat.le_trans (show 0 + 1 ≤ fS + 90 by omega) hR1, Nat.le_trans (show 8 + (2 + 11) + (0) ≤ lS + 2245 by omega) hR2⟩) hs14 rfl rfl hl.1 (Nat.le_of_ble_eq_true rfl) d_Parser_readStatement_35 ⟨Nat.zero_le _, Nat.zero_le _⟩) (fun H locs hw => ?_)
    refine lv_aload_n hx hb d_Parser_readStatement_38 rfl (lv_at hl 1 rfl) ?_
    obtain ⟨q15, e_q15, h_q15, hf⟩ := zq_qs hf
    refine zr_get (ci := 2) G hw 7 7 zi_2 rfl rfl rfl (by decide) zm_290 (fun _ h => h) (v := .ref (ad q15)) (zs_fr rfl e_q15 h_q15) d_Parser_readStatement_39 ?_
    refine lv_dup hx hb d_Parser_readStatement_42 rfl ?_
    obtain ⟨hs16, hf⟩ := zq_gs hf
    have hs16 := zq_ks hs16
    refine zr_get (ci := 5) G hw q15 3 zi_5 hs16 rfl rfl (by decide) zm_368 (fun _ h => h) (v := .int (zs_i σ11 q15 3)) rfl d_Parser_readStatement_43 ?_
    refine lv_iconst (v := 1) hx hb d_Parser_readStatement_46 (by decide) ?_
    refine lv_iadd hx hb d_Parser_readStatement_47 ?_
    obtain ⟨σ17, e_σ17, hf⟩ := zq_ss hf
    refine zr_puti (ci := 5) G hw q15 3 zi_5 t_zd5 t_zd5_ok n_zd5 hs16 rfl rfl (by decide) rfl zm_368 (fun _ h => h) rfl (x := ((zs_i σ11 q15 3) + 1)) (t_zd5_ok 3 (by decide)) rfl rfl d_Parser_readStatement_48 (fun H locs hw => ?_)
    rw [← e_σ17] at hw
    refine va_gets (C := "ScheduleCheck$1") (n := "$SwitchMap$ScheduleCheck$Token") (d := "[I") (v := .ref (ad 1201)) hx hb (G.2.2.2.1 rfl).2.2.2.2.2.1 hw.2.2 hown (hts _ zm_387) (fun _ h => h) d_Parser_readStatement_51 ?_
    refine lv_aload_n hx hb d_Parser_readStatement_54 rfl (lv_at hl 1 rfl) ?_
    obtain ⟨q18, e_q18, h_q18, hf⟩ := zq_qs hf
    refine zr_get (ci := 2) G hw 7 6 zi_2 rfl rfl rfl (by decide) zm_263 (fun _ h => h) (v := .ref (ad q18)) (zs_fr rfl e_q18 h_q18) d_Parser_readStatement_55 ?_
    obtain ⟨ht22, hf⟩ := zq_gs hf
    obtain ⟨r20, σ19, hc21, hf⟩ := zq_cs hf
    refine zr_ci hw (zr_runU (rest := [.ref (ad 1201)]) (C := "ScheduleCheck$Token") G hw [] (zc_Enum_ordinal0 hJ hc21) (va_cwU 0 hts (zs_gU zm_388 zm_125 zm_126 zm_127 zm_128 zm_123) rfl rfl rfl rfl (by decide +kernel) ⟨Nat.le_trans (show 0 + 1 ≤ fS + 90 by omega) hR1, Nat.le_trans (show 8 + (1 + 11) + (0) ≤ lS + 2245 by omega) hR2⟩) (zr_tok G hw ht22) rfl hl.1 (Nat.le_of_ble_eq_true rfl) d_Parser_readStatement_58 ⟨Nat.zero_le _, Nat.zero_le _⟩) (fun H locs hw => ?_)
    obtain ⟨hi23, hf⟩ := zq_gs hf
    refine va_ti (v := .int (zd_mt.getD (r20).toNatClampNeg 0)) hx hb (G.2.2.2.1 rfl).2.2.2.2.2.2.1 hw.2.2 (zq_bs hi23) rfl d_Parser_readStatement_61 ?_
    refine lv_topi (fun v24 e_v24 => ?_)
    have hf := zq_vs e_v24 hf
    by_cases hc11 : v24 = 11
    · have hf := (if_pos hc11).symm.trans hf
      refine lv_tableIn hx hb d_Parser_readStatement_62 (tgt := 112) (by rw [hc11]; decide) (by rw [hc11]; decide) (by rw [hc11]; rfl) rfl ?_
      refine lv_aload_n hx hb d_Parser_readStatement_112 rfl (lv_at hl 1 rfl) ?_
      refine lv_aload_n hx hb d_Parser_readStatement_113 rfl (lv_at hl 0 rfl) ?_
      obtain ⟨σ25, hc27, hf⟩ := zq_ds hf
      refine zr_cv hw (zr_runV (rest := []) (ci := 2) (o := 7) G hw [.ref (ad q10)] (zc_Parser_readAssignment hJ hc27) (cwV 1 hts (zs_gV zm_390 zm_391 zm_392 zm_269 zm_389) rfl rfl rfl (by decide +kernel) ⟨Nat.le_trans (show 89 + 1 ≤ fS + 90 by omega) hR1, Nat.le_trans (show 8 + (3 + 11) + (2221) ≤ lS + 2245 by omega) hR2⟩) rfl rfl rfl hl.1 (Nat.le_of_ble_eq_true rfl) d_Parser_readStatement_114 ⟨Nat.zero_le _, Nat.zero_le _⟩) (fun H locs hw => ?_)
      refine lv_goto hx hb d_Parser_readStatement_117 (tgt := 208) rfl ?_
      exact K208 q10 σ25 H locs ls hf hw (lv_sub hl [1, 0] rfl)
    have hf := (if_neg hc11).symm.trans hf
    by_cases hc12 : v24 = 12
    · have hf := (if_pos hc12).symm.trans hf
      refine lv_tableIn hx hb d_Parser_readStatement_62 (tgt := 120) (by rw [hc12]; decide) (by rw [hc12]; decide) (by rw [hc12]; rfl) rfl ?_
      refine lv_aload_n hx hb d_Parser_readStatement_120 rfl (lv_at hl 1 rfl) ?_
      refine lv_aload_n hx hb d_Parser_readStatement_121 rfl (lv_at hl 0 rfl) ?_
      refine va_gets (C := "ScheduleCheck$Kind") (n := "TAKE") (d := "LScheduleCheck$Kind;") (v := .ref (ad 1101)) hx hb ((G.2.2.2.1 rfl).2.2.1.1 1 (by decide)).1 hw.2.2 hown (hts _ zm_393) (fun _ h => h) d_Parser_readStatement_122 ?_
      obtain ⟨σ28, hc30, hf⟩ := zq_ds hf
      refine zr_cv hw (zr_runV (rest := []) (ci := 2) (o := 7) G hw [.ref (ad q10), .ref (ad 1101)] (zc_Parser_readLockUse hJ hc30) (cwV 2 hts (zs_gV zm_395 zm_396 zm_397 zm_269 zm_394) rfl rfl rfl (by decide +kernel) ⟨Nat.le_trans (show 2 + 1 ≤ fS + 90 by omega) hR1, Nat.le_trans (show 8 + (3 + 11) + (41) ≤ lS + 2245 by omega) hR2⟩) rfl rfl rfl hl.1 (Nat.le_of_ble_eq_true rfl) d_Parser_readStatement_125 ⟨Nat.zero_le _, Nat.zero_le _⟩) (fun H locs hw => ?_)
      refine lv_goto hx hb d_Parser_readStatement_128 (tgt := 208) rfl ?_
      exact K208 q10 σ28 H locs ls hf hw (lv_sub hl [1, 0] rfl)
    have hf := (if_neg hc12).symm.trans hf
    by_cases hc13 : v24 = 13
    · have hf := (if_pos hc13).symm.trans hf
      refine lv_tableIn hx hb d_Parser_readStatement_62 (tgt := 131) (by rw [hc13]; decide) (by rw [hc13]; decide) (by rw [hc13]; rfl) rfl ?_
      refine lv_aload_n hx hb d_Parser_readStatement_131 rfl (lv_at hl 1 rfl) ?_
      refine lv_aload_n hx hb d_Parser_readStatement_132 rfl (lv_at hl 0 rfl) ?_
      refine va_gets (C := "ScheduleCheck$Kind") (n := "GIVE") (d := "LScheduleCheck$Kind;") (v := .ref (ad 1102)) hx hb ((G.2.2.2.1 rfl).2.2.1.1 2 (by decide)).1 hw.2.2 hown (hts _ zm_398) (fun _ h => h) d_Parser_readStatement_133 ?_
      obtain ⟨σ31, hc33, hf⟩ := zq_ds hf
      refine zr_cv hw (zr_runV (rest := []) (ci := 2) (o := 7) G hw [.ref (ad q10), .ref (ad 1102)] (zc_Parser_readLockUse hJ hc33) (cwV 2 hts (zs_gV zm_395 zm_396 zm_397 zm_269 zm_394) rfl rfl rfl (by decide +kernel) ⟨Nat.le_trans (show 2 + 1 ≤ fS + 90 by omega) hR1, Nat.le_trans (show 8 + (3 + 11) + (41) ≤ lS + 2245 by omega) hR2⟩) rfl rfl rfl hl.1 (Nat.le_of_ble_eq_true rfl) d_Parser_readStatement_136 ⟨Nat.zero_le _, Nat.zero_le _⟩) (fun H locs hw => ?_)
      refine lv_goto hx hb d_Parser_readStatement_139 (tgt := 208) rfl ?_
      exact K208 q10 σ31 H locs ls hf hw (lv_sub hl [1, 0] rfl)
    have hf := (if_neg hc13).symm.trans hf
    by_cases hc14 : v24 = 14
    · have hf := (if_pos hc14).symm.trans hf
      refine lv_tableIn hx hb d_Parser_readStatement_62 (tgt := 142) (by rw [hc14]; decide) (by rw [hc14]; decide) (by rw [hc14]; rfl) rfl ?_
      refine lv_aload_n hx hb d_Parser_readStatement_142 rfl (lv_at hl 1 rfl) ?_
      refine lv_aload_n hx hb d_Parser_readStatement_143 rfl (lv_at hl 0 rfl) ?_
      refine va_gets (C := "ScheduleCheck$Kind") (n := "WAIT") (d := "LScheduleCheck$Kind;") (v := .ref (ad 1103)) hx hb ((G.2.2.2.1 rfl).2.2.1.1 3 (by decide)).1 hw.2.2 hown (hts _ zm_399) (fun _ h => h) d_Parser_readStatement_144 ?_
      obtain ⟨σ34, hc36, hf⟩ := zq_ds hf
      refine zr_cv hw (zr_runV (rest := []) (ci := 2) (o := 7) G hw [.ref (ad q10), .ref (ad 1103)] (zc_Parser_readLockUse hJ hc36) (cwV 2 hts (zs_gV zm_395 zm_396 zm_397 zm_269 zm_394) rfl rfl rfl (by decide +kernel) ⟨Nat.le_trans (show 2 + 1 ≤ fS + 90 by omega) hR1, Nat.le_trans (show 8 + (3 + 11) + (41) ≤ lS + 2245 by omega) hR2⟩) rfl rfl rfl hl.1 (Nat.le_of_ble_eq_true rfl) d_Parser_readStatement_147 ⟨Nat.zero_le _, Nat.zero_le _⟩) (fun H locs hw => ?_)
      refine lv_goto hx hb d_Parser_readStatement_150 (tgt := 208) rfl ?_
      exact K208 q10 σ34 H locs ls hf hw (lv_sub hl [1, 0] rfl)
    have hf := (if_neg hc14).symm.trans hf
    by_cases hc15 : v24 = 15
    · have hf := (if_pos hc15).symm.trans hf
      refine lv_tableIn hx hb d_Parser_readStatement_62 (tgt := 153) (by rw [hc15]; decide) (by rw [hc15]; decide) (by rw [hc15]; rfl) rfl ?_
      refine lv_aload_n hx hb d_Parser_readStatement_153 rfl (lv_at hl 1 rfl) ?_
      refine lv_aload_n hx hb d_Parser_readStatement_154 rfl (lv_at hl 0 rfl) ?_
      refine va_gets (C := "ScheduleCheck$Kind") (n := "WAKE") (d := "LScheduleCheck$Kind;") (v := .ref (ad 1104)) hx hb ((G.2.2.2.1 rfl).2.2.1.1 4 (by decide)).1 hw.2.2 hown (hts _ zm_333) (fun _ h => h) d_Parser_readStatement_155 ?_
      obtain ⟨σ37, hc39, hf⟩ := zq_ds hf
      refine zr_cv hw (zr_runV (rest := []) (ci := 2) (o := 7) G hw [.ref (ad q10), .ref (ad 1104)] (zc_Parser_readLockUse hJ hc39) (cwV 2 hts (zs_gV zm_395 zm_396 zm_397 zm_269 zm_394) rfl rfl rfl (by decide +kernel) ⟨Nat.le_trans (show 2 + 1 ≤ fS + 90 by omega) hR1, Nat.le_trans (show 8 + (3 + 11) + (41) ≤ lS + 2245 by omega) hR2⟩) rfl rfl rfl hl.1 (Nat.le_of_ble_eq_true rfl) d_Parser_readStatement_158 ⟨Nat.zero_le _, Nat.zero_le _⟩) (fun H locs hw => ?_)
      refine lv_goto hx hb d_Parser_readStatement_161 (tgt := 208) rfl ?_
      exact K208 q10 σ37 H locs ls hf hw (lv_sub hl [1, 0] rfl)
    have hf := (if_neg hc15).symm.trans hf
    by_cases hc16 : v24 = 16
    · have hf := (if_pos hc16).symm.trans hf
      refine lv_tableIn hx hb d_Parser_readStatement_62 (tgt := 164) (by rw [hc16]; decide) (by rw [hc16]; decide) (by rw [hc16]; rfl) rfl ?_
      refine lv_aload_n hx hb d_Parser_readStatement_164 rfl (lv_at hl 1 rfl) ?_
      refine lv_aload_n hx hb d_Parser_readStatement_165 rfl (lv_at hl 0 rfl) ?_
      obtain ⟨σ40, hc42, hf⟩ := zq_ds hf
      refine zr_cv hw (zr_runV (rest := []) (ci := 2) (o := 7) G hw [.ref (ad q10)] (zc_Parser_readAssert hJ hc42) (cwV 1 hts (zs_gV zm_401 zm_402 zm_403 zm_269 zm_400) rfl rfl rfl (by decide +kernel) ⟨Nat.le_trans (show 89 + 1 ≤ fS + 90 by omega) hR1, Nat.le_trans (show 8 + (2 + 11) + (2221) ≤ lS + 2245 by omega) hR2⟩) rfl rfl rfl hl.1 (Nat.le_of_ble_eq_true rfl) d_Parser_readStatement_166 ⟨Nat.zero_le _, Nat.zero_le _⟩) (fun H locs hw => ?_)
      refine lv_goto hx hb d_Parser_readStatement_169 (tgt := 208) rfl ?_
      exact K208 q10 σ40 H locs ls hf hw (lv_sub hl [1, 0] rfl)
    have hf := (if_neg hc16).symm.trans hf
    by_cases hc17 : v24 = 17
    · have hf := (if_pos hc17).symm.trans hf
      refine lv_tableIn hx hb d_Parser_readStatement_62 (tgt := 172) (by rw [hc17]; decide) (by rw [hc17]; decide) (by rw [hc17]; rfl) rfl ?_
      refine lv_aload_n hx hb d_Parser_readStatement_172 rfl (lv_at hl 1 rfl) ?_
      refine lv_aload_n hx hb d_Parser_readStatement_173 rfl (lv_at hl 0 rfl) ?_
      obtain ⟨σ43, hc45, hf⟩ := zq_ds hf
      refine zr_cv hw (zr_runV (rest := []) (ci := 2) (o := 7) G hw [.ref (ad q10)] (zc_Parser_readStop hJ hc45) (cwV 1 hts (zs_gV zm_405 zm_406 zm_407 zm_269 zm_404) rfl rfl rfl (by decide +kernel) ⟨Nat.le_trans (show 2 + 1 ≤ fS + 90 by omega) hR1, Nat.le_trans (show 8 + (2 + 11) + (41) ≤ lS + 2245 by omega) hR2⟩) rfl rfl rfl hl.1 (Nat.le_of_ble_eq_true rfl) d_Parser_readStatement_174 ⟨Nat.zero_le _, Nat.zero_le _⟩) (fun H locs hw => ?_)
      refine lv_goto hx hb d_Parser_readStatement_177 (tgt := 208) rfl ?_
      exact K208 q10 σ43 H locs ls hf hw (lv_sub hl [1, 0] rfl)
    have hf := (if_neg hc17).symm.trans hf
    by_cases hc18 : v24 = 18
    · have hf := (if_pos hc18).symm.trans hf
      refine lv_tableIn hx hb d_Parser_readStatement_62 (tgt := 180) (by rw [hc18]; decide) (by rw [hc18]; decide) (by rw [hc18]; rfl) rfl ?_
      refine lv_aload_n hx hb d_Parser_readStatement_180 rfl (lv_at hl 1 rfl) ?_
      refine lv_aload_n hx hb d_Parser_readStatement_181 rfl (lv_at hl 0 rfl) ?_
      refine va_gets (C := "ScheduleCheck$Kind") (n := "IF") (d := "LScheduleCheck$Kind;") (v := .ref (ad 1107)) hx hb ((G.2.2.2.1 rfl).2.2.1.1 7 (by decide)).1 hw.2.2 hown (hts _ zm_379) (fun _ h => h) d_Parser_readStatement_182 ?_
      refine lv_iload_n hx hb d_Parser_readStatement_185 rfl (lv_at hl 3 rfl) ?_
      obtain ⟨σ46, hc48, hf⟩ := zq_ds hf
      refine zr_cv hw (zr_runV (rest := []) (ci := 2) (o := 7) G hw [.ref (ad q10), .ref (ad 1107), .int x2] (zc_Parser_readCondition hS hJ hc48) (cwV 3 hts (zs_gV zm_409 zm_410 zm_411 zm_269 zm_408) rfl rfl rfl (by decide +kernel) ⟨Nat.le_trans (show fS + 89 + 1 ≤ fS + 90 by omega) hR1, Nat.le_trans (show 8 + (5 + 11) + (lS + 2221) ≤ lS + 2245 by omega) hR2⟩) rfl rfl rfl hl.1 (Nat.le_of_ble_eq_true rfl) d_Parser_readStatement_186 ⟨Nat.zero_le _, Nat.zero_le _⟩) (fun H locs hw => ?_)
      refine lv_goto hx hb d_Parser_readStatement_189 (tgt := 208) rfl ?_
      exact K208 q10 σ46 H locs ls hf hw (lv_sub hl [1, 0] rfl)
    have hf := (if_neg hc18).symm.trans hf
    by_cases hc19 : v24 = 19
    · have hf := (if_pos hc19).symm.trans hf
      refine lv_tableIn hx hb d_Parser_readStatement_62 (tgt := 192) (by rw [hc19]; decide) (by rw [hc19]; decide) (by rw [hc19]; rfl) rfl ?_
      refine lv_aload_n hx hb d_Parser_readStatement_192 rfl (lv_at hl 1 rfl) ?_
      refine lv_aload_n hx hb d_Parser_readStatement_193 rfl (lv_at hl 0 rfl) ?_
      refine va_gets (C := "ScheduleCheck$Kind") (n := "WHILE") (d := "LScheduleCheck$Kind;") (v := .ref (ad 1108)) hx hb ((G.2.2.2.1 rfl).2.2.1.1 8 (by decide)).1 hw.2.2 hown (hts _ zm_412) (fun _ h => h) d_Parser_readStatement_194 ?_
      refine lv_iload_n hx hb d_Parser_readStatement_197 rfl (lv_at hl 3 rfl) ?_
      obtain ⟨σ49, hc51, hf⟩ := zq_ds hf
      refine zr_cv hw (zr_runV (rest := []) (ci := 2) (o := 7) G hw [.ref (ad q10), .ref (ad 1108), .int x2] (zc_Parser_readCondition hS hJ hc51) (cwV 3 hts (zs_gV zm_409 zm_410 zm_411 zm_269 zm_408) rfl rfl rfl (by decide +kernel) ⟨Nat.le_trans (show fS + 89 + 1 ≤ fS + 90 by omega) hR1, Nat.le_trans (show 8 + (5 + 11) + (lS + 2221) ≤ lS + 2245 by omega) hR2⟩) rfl rfl rfl hl.1 (Nat.le_of_ble_eq_true rfl) d_Parser_readStatement_198 ⟨Nat.zero_le _, Nat.zero_le _⟩) (fun H locs hw => ?_)
      refine lv_goto hx hb d_Parser_readStatement_201 (tgt := 208) rfl ?_
      exact K208 q10 σ49 H locs ls hf hw (lv_sub hl [1, 0] rfl)
    have hf := (if_neg hc19).symm.trans hf
    refine lv_tableOut hx hb d_Parser_readStatement_62 (tgt := 204) (by have g11 := zq_o1 (lo := 11) (by decide) hc11; have g12 := zq_o1 (lo := 12) (by decide) hc12; have g13 := zq_o1 (lo := 13) (by decide) hc13; have g14 := zq_o1 (lo := 14) (by decide) hc14; have g15 := zq_o1 (lo := 15) (by decide) hc15; have g16 := zq_o1 (lo := 16) (by decide) hc16; have g17 := zq_o1 (lo := 17) (by decide) hc17; have g18 := zq_o1 (lo := 18) (by decide) hc18; have g19 := zq_o1 (lo := 19) (by decide) hc19; omega) rfl ?_
    refine lv_aload_n hx hb d_Parser_readStatement_204 rfl (lv_at hl 1 rfl) ?_
    obtain ⟨σ52, hc54, hf⟩ := zq_ds hf
    refine zr_cv hw (zr_runV (rest := []) (ci := 2) (o := 7) G hw [] (zc_Parser_fail hJ hc54) (cwV 0 hts (zs_gV zm_266 zm_267 zm_268 zm_269 zm_265) rfl rfl rfl (by decide +kernel) ⟨Nat.le_trans (show 0 + 1 ≤ fS + 90 by omega) hR1, Nat.le_trans (show 8 + (1 + 11) + (0) ≤ lS + 2245 by omega) hR2⟩) rfl rfl rfl hl.1 (Nat.le_of_ble_eq_true rfl) d_Parser_readStatement_205 ⟨Nat.zero_le _, Nat.zero_le _⟩) (fun H locs hw => ?_)
    exact K208 q10 σ52 H locs ls hf hw (lv_sub hl [1, 0] rfl)
  · have hf := (if_pos hc).symm.trans hf
    refine lv_aload_n hx hb d_Parser_readStatement_12 rfl (lv_at hl 0 rfl) ?_
    obtain ⟨σ55, hc57, hf⟩ := zq_ds hf
    refine zr_cv hw (zr_runV (rest := []) (ci := 2) (o := 7) G hw [] (zc_Parser_fail hJ hc57) (cwV 0 hts (zs_gV zm_266 zm_267 zm_268 zm_269 zm_265) rfl rfl rfl (by decide +kernel) ⟨Nat.le_trans (show 0 + 1 ≤ fS + 90 by omega) hR1, Nat.le_trans (show 8 + (1 + 11) + (0) ≤ lS + 2245 by omega) hR2⟩) rfl rfl rfl hl.1 (Nat.le_of_ble_eq_true rfl) d_Parser_readStatement_13 ⟨Nat.zero_le _, Nat.zero_le _⟩) (fun H locs hw => ?_)
    exact zr_vret G hw hr hlocks hf hQ d_Parser_readStatement_16
/-! ScheduleCheck$Parser.readStatements -/
def zf_Parser_readStatements_b_27 (kS : Int32 → Int32 → zs_S → Option (zs_S)) (F : Nat)   (σ : zs_S) : Option (zs_S) :=
  some σ
def zf_Parser_readStatements_b_2 (kS : Int32 → Int32 → zs_S → Option (zs_S)) (F : Nat)  : Nat → Int32 → Int32 → Int32 → zs_S → Option (zs_S)
  | 0, _, _, _, _ => none
  | n + 1, x1, x2, x3, σ =>
    if 50 < x3 then (
      some σ
    ) else (
      if (zs_i σ 7 8) = ((-2)) then (
        zq_q (zs_r σ 7 6) fun q1 =>
        zq_g (decide (q1 < 1200)) <|
        if q1 = 1020 then (
          zf_Parser_readStatements_b_27 kS F σ
        ) else (
          zq_d (zf_Parser_readStatement kS F x1 x2 σ) fun σ3 =>
          zq_v (x3 + 1) fun v6 =>
          (zf_Parser_readStatements_b_2 kS F n) x1 x2 v6 σ3
        )
      ) else (
        zf_Parser_readStatements_b_27 kS F σ
      )
    )
def zf_Parser_readStatements_b (kS : Int32 → Int32 → zs_S → Option (zs_S)) (F : Nat) (x1 : Int32) (x2 : Int32) (σ : zs_S) : Option (zs_S) :=
  zf_Parser_readStatements_b_2 kS F F x1 x2 0 σ
set_option maxHeartbeats 4000000 in
set_option maxRecDepth 100000 in
theorem zc_Parser_readStatements_b {l : Launch} {D : va_G} {cA : Nat → ClassId} {ad : Nat → Nat} {A : Nat → Prop} {F : Nat} {x1 : Int32} {x2 : Int32} {σ : zs_S} {q : zs_S} {kS : Int32 → Int32 → zs_S → Option (zs_S)} {fS lS : Nat} (hS : ∀ {x1 : Int32} {x2 : Int32} {σ : zs_S} {q : zs_S}, kS x1 x2 σ = some q → Met l y_Parser_readStatements (.code y_Parser_readStatements prog_6_method_17_code 4 none :: zd_ww) { frames := fS, cells := 0, slots := 0, locals := lS } (va_Pc [.ref (ad 7), .int x1, .int x2] (zs_U 0 D cA ad A σ)) (zs_Qv 0 D cA ad A q) 0 0 A) (hJ : zs_J ad) (hf : zf_Parser_readStatements_b kS F x1 x2 σ = some q) : Met l y_Parser_readStatements (.code y_Parser_readStatements prog_6_method_17_code 4 none :: zd_ww) { frames := fS + 91, cells := 0, slots := 0, locals := lS + 2268 } (va_Pc [.ref (ad 7), .int x1, .int x2] (zs_U 0 D cA ad A σ)) (zs_Qv 0 D cA ad A q) 0 0 A := by
  refine Met.ofW (cc := prog_6_method_17_code) (maxL := 4) (ret := none) (by decide) rfl ?_
  intro p e s m args below meth c s₁ B hml hv
  obtain ⟨hargs, hP, hK, hD, hZ⟩ := hv
  have G : zs_G 0 p s m args c prog_6_method_17_code 4 "ScheduleCheck$Parser" D cA ad A := ⟨⟨B.exec, B.bytes, hml, findClass_of_methodNamed B.named, fun w h => atoms_spec B.pre w (List.mem_cons_of_mem _ h)⟩, hK, hJ, hZ⟩
  have hw : zs_I 0 D cA ad A s σ s.heap [] := ⟨hP, hD, va_S.rf⟩
  have hx := G.1.1
  have hb := G.1.2.1
  have hown := G.1.2.2.2.1
  have hts := G.1.2.2.2.2
  have hr := B.returns
  have hlocks := B.notSynchronized
  have he : entryFrame m args 4 = F0 m 0 ((lg_sl [.ref (ad 7), .int x1, .int x2] ++ List.replicate (4 - (lg_sl [.ref (ad 7), .int x1, .int x2]).length) Slot.unset).toArray) [] := by rw [hargs]; exact lg_entry_eq m _ 4
  have hl := lv_entry [.ref (ad 7), .int x1, .int x2] (n := 4) (Nat.le_of_ble_eq_true rfl)
  rw [he]
  generalize (lg_sl [.ref (ad 7), .int x1, .int x2] ++ List.replicate (4 - (lg_sl [.ref (ad 7), .int x1, .int x2]).length) Slot.unset).toArray = ls at hl
  have hl : lv_has ls 4 [(0, .ref (ad 7)), (1, .int x1), (2, .int x2)] := hl
  obtain ⟨RR, hR⟩ : ∃ z, z = (headSpec (.code y_Parser_readStatements prog_6_method_17_code 4 none :: zd_ww) { frames := fS + 91, cells := 0, slots := 0, locals := lS + 2268 }).room := ⟨_, rfl⟩
  rw [← hR]
  obtain ⟨QQ, hQ⟩ : ∃ z, z = MQ below (zs_Qv 0 D cA ad A q) args s 0 0 A := ⟨_, rfl⟩
  rw [← hQ]
  have hR1 : fS + 91 ≤ RR.frames := by rw [hR]; exact Nat.le_refl _
  have hR2 : lS + 2268 ≤ RR.locals := by rw [hR]; exact Nat.le_refl _
  generalize s.heap = H at hw ⊢
  generalize ([] : List Loc) = locs at hw ⊢
  have K27 : ∀ (σ : zs_S) (H : Heap) (locs : List Loc) (ls : Array Slot), zf_Parser_readStatements_b_27 kS F σ = some q → zs_I 0 D cA ad A s σ H locs → lv_has ls 4 [] → W p l e RR s m args below meth c H locs 0 0 QQ (F0 m 27 ls []) := by
    intro   σ H locs ls hf hw hl
    unfold zf_Parser_readStatements_b_27 at hf
    exact zr_vret G hw hr hlocks hf hQ d_Parser_readStatements_27
  have K2 : ∀ (n : Nat) (x1 : Int32) (x2 : Int32) (x3 : Int32) (σ : zs_S) (H : Heap) (locs : List Loc) (ls : Array Slot), zf_Parser_readStatements_b_2 kS F n x1 x2 x3 σ = some q → zs_I 0 D cA ad A s σ H locs → lv_has ls 4 [(0, .ref (ad 7)), (1, .int x1), (2, .int x2), (3, .int x3)] → W p l e RR s m args below meth c H locs 0 0 QQ (F0 m 2 ls []) := by
    intro  n
    induction n with
    | zero => intro x1 x2 x3 σ H locs ls hf hw hl; exact nomatch (show (none : Option (zs_S)) = some q from hf)
    | succ n ih =>
      intro x1 x2 x3 σ H locs ls hf hw hl
      rw [zf_Parser_readStatements_b_2] at hf
      refine lv_iload_n hx hb d_Parser_readStatements_2 rfl (lv_at hl 3 rfl) ?_
      refine lv_bipush (v := 50) hx hb d_Parser_readStatements_3 (by decide) ?_
      refine lv_icmp_gt hx hb d_Parser_readStatements_5 (tgt := 40) rfl (fun hc => ?_) (fun hc => ?_)
      · have hf := (if_pos hc).symm.trans hf
        exact zr_vret G hw hr hlocks hf hQ d_Parser_readStatements_40
      · have hf := (if_neg hc).symm.trans hf
        refine lv_aload_n hx hb d_Parser_readStatements_8 rfl (lv_at hl 0 rfl) ?_
        refine zr_get (ci := 2) G hw 7 8 zi_2 rfl rfl rfl (by decide) zm_258 (fun _ h => h) (v := .int (zs_i σ 7 8)) rfl d_Parser_readStatements_9 ?_
        refine lv_bipush (v := (-2)) hx hb d_Parser_readStatements_12 (by decide) ?_
        refine lv_icmp_ne hx hb d_Parser_readStatements_14 (tgt := 27) rfl (fun hc => ?_) (fun hc => ?_)
        · have hf := (if_neg hc).symm.trans hf
          exact K27 σ H locs ls hf hw (lv_sub hl [] rfl)
        · have hf := (if_pos hc).symm.trans hf
          refine lv_aload_n hx hb d_Parser_readStatements_17 rfl (lv_at hl 0 rfl) ?_
          obtain ⟨q1, e_q1, h_q1, hf⟩ := zq_qs hf
          refine zr_get (ci := 2) G hw 7 6 zi_2 rfl rfl rfl (by decide) zm_263 (fun _ h => h) (v := .ref (ad q1)) (zs_fr rfl e_q1 h_q1) d_Parser_readStatements_18 ?_
          refine va_gets (C := "ScheduleCheck$Token") (n := "CLOSE") (d := "LScheduleCheck$Token;") (v := .ref (ad 1020)) hx hb ((G.2.2.2.1 rfl).1.1 20 (by decide)).1 hw.2.2 hown (hts _ zm_373) (fun _ h => h) d_Parser_readStatements_21 ?_
          obtain ⟨hm2, hf⟩ := zq_gs hf
          refine zr_ane G (of_decide_eq_true hm2) (by decide) d_Parser_readStatements_24 (tgt := 28) rfl (fun hc => ?_) (fun hc => ?_)
          · have hf := (if_neg hc).symm.trans hf
            refine lv_aload_n hx hb d_Parser_readStatements_28 rfl (lv_at hl 0 rfl) ?_
            refine lv_iload_n hx hb d_Parser_readStatements_29 rfl (lv_at hl 1 rfl) ?_
            refine lv_iload_n hx hb d_Parser_readStatements_30 rfl (lv_at hl 2 rfl) ?_
            obtain ⟨σ3, hc5, hf⟩ := zq_ds hf
            refine zr_cv hw (zr_runV (rest := []) (ci := 2) (o := 7) G hw [.int x1, .int x2] (zc_Parser_readStatement hS hJ hc5) (cwV 2 hts (zs_gV zm_415 zm_416 zm_417 zm_269 zm_414) rfl rfl rfl (by decide +kernel) ⟨Nat.le_trans (show fS + 90 + 1 ≤ fS + 91 by omega) hR1, Nat.le_trans (show 8 + (4 + 11) + (lS + 2245) ≤ lS + 2268 by omega) hR2⟩) rfl rfl rfl hl.1 (Nat.le_of_ble_eq_true rfl) d_Parser_readStatements_31 ⟨Nat.zero_le _, Nat.zero_le _⟩) (fun H locs hw => ?_)
            obtain ⟨v6, e_v6, hf⟩ := zq_ss hf
            refine lv_iinc (v := v6) hx hb d_Parser_readStatements_34 hl (k := 3) rfl (zq_inc (k := 1) (by decide) e_v6) (by decide) rfl (fun ls hl => ?_)
            have hl : lv_has ls 4 [(3, .int v6), (0, .ref (ad 7)), (1, .int x1), (2, .int x2)] := hl
            refine lv_goto hx hb d_Parser_readStatements_37 (tgt := 2) rfl ?_
            exact ih x1 x2 v6 σ3 H locs ls hf hw (lv_sub hl [1, 2, 3, 0] rfl)
          · have hf := (if_pos hc).symm.trans hf
            exact K27 σ H locs ls hf hw (lv_sub hl [] rfl)
  unfold zf_Parser_readStatements_b at hf
  refine lv_iconst (v := 0) hx hb d_Parser_readStatements_0 (by decide) ?_
  refine lv_istore_n hx hb d_Parser_readStatements_1 rfl hl (by decide) rfl (fun ls hl => ?_)
  have hl : lv_has ls 4 [(3, .int 0), (0, .ref (ad 7)), (1, .int x1), (2, .int x2)] := hl
  exact K2 F x1 x2 0 σ H locs ls hf hw (lv_sub hl [1, 2, 3, 0] rfl)
def zf_Parser_readStatements (F : Nat) : Nat → Int32 → Int32 → zs_S → Option (zs_S)
  | 0, _, _, _ => none
  | n + 1, x1, x2, σ => zf_Parser_readStatements_b (zf_Parser_readStatements F n) F x1 x2 σ
theorem zc_Parser_readStatements {l : Launch} {D : va_G} {cA : Nat → ClassId} {ad : Nat → Nat} {A : Nat → Prop} {F : Nat} (hJ : zs_J ad) : ∀ (n : Nat) {x1 : Int32} {x2 : Int32} {σ : zs_S} {q : zs_S}, zf_Parser_readStatements F n x1 x2 σ = some q → Met l y_Parser_readStatements (.code y_Parser_readStatements prog_6_method_17_code 4 none :: zd_ww) { frames := n * 91, cells := 0, slots := 0, locals := n * 2268 } (va_Pc [.ref (ad 7), .int x1, .int x2] (zs_U 0 D cA ad A σ)) (zs_Qv 0 D cA ad A q) 0 0 A := by
  intro n
  induction n with
  | zero => intro x1 x2 σ q hf; exact nomatch (show (none : Option (zs_S)) = some q from hf)
  | succ n ih =>
    intro x1 x2 σ q hf
    have h := zc_Parser_readStatements_b  (kS := zf_Parser_readStatements F n) (fS := n * 91) (lS := n * 2268) (fun h => ih h) hJ hf
    have e1 : (n + 1) * 91 = n * 91 + 91 := by omega
    have e2 : (n + 1) * 2268 = n * 2268 + 2268 := by omega
    rw [e1, e2]
    exact h
/-! ScheduleCheck$Parser.readThread -/
def y_Parser_readThread : MethodName := ⟨"ScheduleCheck$Parser","readThread","()V"⟩
theorem d_Parser_readThread_0 : decode prog_6_method_15_code 0 = .ok (.aload_n 0, 1) := by decide +kernel
theorem d_Parser_readThread_1 : decode prog_6_method_15_code 1 = .ok (.getfield 37, 3) := by decide +kernel
theorem d_Parser_readThread_4 : decode prog_6_method_15_code 4 = .ok (.getfield 142, 3) := by decide +kernel
theorem d_Parser_readThread_7 : decode prog_6_method_15_code 7 = .ok (.istore_n 1, 1) := by decide +kernel
theorem d_Parser_readThread_8 : decode prog_6_method_15_code 8 = .ok (.aload_n 0, 1) := by decide +kernel
theorem d_Parser_readThread_9 : decode prog_6_method_15_code 9 = .ok (.getfield 33, 3) := by decide +kernel
theorem d_Parser_readThread_12 : decode prog_6_method_15_code 12 = .ok (.getstatic 58, 3) := by decide +kernel
theorem d_Parser_readThread_15 : decode prog_6_method_15_code 15 = .ok (.if_acmp .ne 8, 3) := by decide +kernel
theorem d_Parser_readThread_18 : decode prog_6_method_15_code 18 = .ok (.iload_n 1, 1) := by decide +kernel
theorem d_Parser_readThread_19 : decode prog_6_method_15_code 19 = .ok (.iconst 4, 1) := by decide +kernel
theorem d_Parser_readThread_20 : decode prog_6_method_15_code 20 = .ok (.if_icmp .ne 8, 3) := by decide +kernel
theorem d_Parser_readThread_23 : decode prog_6_method_15_code 23 = .ok (.aload_n 0, 1) := by decide +kernel
theorem d_Parser_readThread_24 : decode prog_6_method_15_code 24 = .ok (.invokevirtual 66, 3) := by decide +kernel
theorem d_Parser_readThread_27 : decode prog_6_method_15_code 27 = .ok (.return_, 1) := by decide +kernel
theorem d_Parser_readThread_28 : decode prog_6_method_15_code 28 = .ok (.aload_n 0, 1) := by decide +kernel
theorem d_Parser_readThread_29 : decode prog_6_method_15_code 29 = .ok (.getfield 37, 3) := by decide +kernel
theorem d_Parser_readThread_32 : decode prog_6_method_15_code 32 = .ok (.dup, 1) := by decide +kernel
theorem d_Parser_readThread_33 : decode prog_6_method_15_code 33 = .ok (.getfield 142, 3) := by decide +kernel
theorem d_Parser_readThread_36 : decode prog_6_method_15_code 36 = .ok (.iconst 1, 1) := by decide +kernel
theorem d_Parser_readThread_37 : decode prog_6_method_15_code 37 = .ok (.iadd, 1) := by decide +kernel
theorem d_Parser_readThread_38 : decode prog_6_method_15_code 38 = .ok (.putfield 142, 3) := by decide +kernel
theorem d_Parser_readThread_41 : decode prog_6_method_15_code 41 = .ok (.aload_n 0, 1) := by decide +kernel
theorem d_Parser_readThread_42 : decode prog_6_method_15_code 42 = .ok (.getfield 37, 3) := by decide +kernel
theorem d_Parser_readThread_45 : decode prog_6_method_15_code 45 = .ok (.getfield 145, 3) := by decide +kernel
theorem d_Parser_readThread_48 : decode prog_6_method_15_code 48 = .ok (.iload_n 1, 1) := by decide +kernel
theorem d_Parser_readThread_49 : decode prog_6_method_15_code 49 = .ok (.iconst 0, 1) := by decide +kernel
theorem d_Parser_readThread_50 : decode prog_6_method_15_code 50 = .ok (.iastore, 1) := by decide +kernel
theorem d_Parser_readThread_51 : decode prog_6_method_15_code 51 = .ok (.aload_n 0, 1) := by decide +kernel
theorem d_Parser_readThread_52 : decode prog_6_method_15_code 52 = .ok (.aload_n 0, 1) := by decide +kernel
theorem d_Parser_readThread_53 : decode prog_6_method_15_code 53 = .ok (.getfield 96, 3) := by decide +kernel
theorem d_Parser_readThread_56 : decode prog_6_method_15_code 56 = .ok (.putfield 81, 3) := by decide +kernel
theorem d_Parser_readThread_59 : decode prog_6_method_15_code 59 = .ok (.aload_n 0, 1) := by decide +kernel
theorem d_Parser_readThread_60 : decode prog_6_method_15_code 60 = .ok (.invokevirtual 78, 3) := by decide +kernel
theorem d_Parser_readThread_63 : decode prog_6_method_15_code 63 = .ok (.aload_n 0, 1) := by decide +kernel
theorem d_Parser_readThread_64 : decode prog_6_method_15_code 64 = .ok (.getstatic 148, 3) := by decide +kernel
theorem d_Parser_readThread_67 : decode prog_6_method_15_code 67 = .ok (.invokevirtual 116, 3) := by decide +kernel
theorem d_Parser_readThread_70 : decode prog_6_method_15_code 70 = .ok (.iconst 0, 1) := by decide +kernel
theorem d_Parser_readThread_71 : decode prog_6_method_15_code 71 = .ok (.istore_n 2, 1) := by decide +kernel
theorem d_Parser_readThread_72 : decode prog_6_method_15_code 72 = .ok (.iload_n 2, 1) := by decide +kernel
theorem d_Parser_readThread_73 : decode prog_6_method_15_code 73 = .ok (.iconst 3, 1) := by decide +kernel
theorem d_Parser_readThread_74 : decode prog_6_method_15_code 74 = .ok (.if_icmp .gt 24, 3) := by decide +kernel
theorem d_Parser_readThread_77 : decode prog_6_method_15_code 77 = .ok (.aload_n 0, 1) := by decide +kernel
theorem d_Parser_readThread_78 : decode prog_6_method_15_code 78 = .ok (.getfield 33, 3) := by decide +kernel
theorem d_Parser_readThread_81 : decode prog_6_method_15_code 81 = .ok (.getstatic 151, 3) := by decide +kernel
theorem d_Parser_readThread_84 : decode prog_6_method_15_code 84 = .ok (.if_acmp .ne 14, 3) := by decide +kernel
theorem d_Parser_readThread_87 : decode prog_6_method_15_code 87 = .ok (.aload_n 0, 1) := by decide +kernel
theorem d_Parser_readThread_88 : decode prog_6_method_15_code 88 = .ok (.iload_n 1, 1) := by decide +kernel
theorem d_Parser_readThread_89 : decode prog_6_method_15_code 89 = .ok (.invokevirtual 154, 3) := by decide +kernel
theorem d_Parser_readThread_92 : decode prog_6_method_15_code 92 = .ok (.iinc 2 1, 3) := by decide +kernel
theorem d_Parser_readThread_95 : decode prog_6_method_15_code 95 = .ok (.goto (-23), 3) := by decide +kernel
theorem d_Parser_readThread_98 : decode prog_6_method_15_code 98 = .ok (.aload_n 0, 1) := by decide +kernel
theorem d_Parser_readThread_99 : decode prog_6_method_15_code 99 = .ok (.getfield 37, 3) := by decide +kernel
theorem d_Parser_readThread_102 : decode prog_6_method_15_code 102 = .ok (.getfield 158, 3) := by decide +kernel
theorem d_Parser_readThread_105 : decode prog_6_method_15_code 105 = .ok (.istore_n 2, 1) := by decide +kernel
theorem d_Parser_readThread_106 : decode prog_6_method_15_code 106 = .ok (.aload_n 0, 1) := by decide +kernel
theorem d_Parser_readThread_107 : decode prog_6_method_15_code 107 = .ok (.iconst (-1), 1) := by decide +kernel
theorem d_Parser_readThread_108 : decode prog_6_method_15_code 108 = .ok (.iconst 0, 1) := by decide +kernel
theorem d_Parser_readThread_109 : decode prog_6_method_15_code 109 = .ok (.invokevirtual 161, 3) := by decide +kernel
theorem d_Parser_readThread_112 : decode prog_6_method_15_code 112 = .ok (.aload_n 0, 1) := by decide +kernel
theorem d_Parser_readThread_113 : decode prog_6_method_15_code 113 = .ok (.getfield 37, 3) := by decide +kernel
theorem d_Parser_readThread_116 : decode prog_6_method_15_code 116 = .ok (.getfield 165, 3) := by decide +kernel
theorem d_Parser_readThread_119 : decode prog_6_method_15_code 119 = .ok (.iload_n 1, 1) := by decide +kernel
theorem d_Parser_readThread_120 : decode prog_6_method_15_code 120 = .ok (.aload_n 0, 1) := by decide +kernel
theorem d_Parser_readThread_121 : decode prog_6_method_15_code 121 = .ok (.getfield 37, 3) := by decide +kernel
theorem d_Parser_readThread_124 : decode prog_6_method_15_code 124 = .ok (.getfield 158, 3) := by decide +kernel
theorem d_Parser_readThread_127 : decode prog_6_method_15_code 127 = .ok (.iload_n 2, 1) := by decide +kernel
theorem d_Parser_readThread_128 : decode prog_6_method_15_code 128 = .ok (.if_icmp .le 7, 3) := by decide +kernel
theorem d_Parser_readThread_131 : decode prog_6_method_15_code 131 = .ok (.iload_n 2, 1) := by decide +kernel
theorem d_Parser_readThread_132 : decode prog_6_method_15_code 132 = .ok (.goto 4, 3) := by decide +kernel
theorem d_Parser_readThread_135 : decode prog_6_method_15_code 135 = .ok (.iconst (-1), 1) := by decide +kernel
theorem d_Parser_readThread_136 : decode prog_6_method_15_code 136 = .ok (.iastore, 1) := by decide +kernel
theorem d_Parser_readThread_137 : decode prog_6_method_15_code 137 = .ok (.aload_n 0, 1) := by decide +kernel
theorem d_Parser_readThread_138 : decode prog_6_method_15_code 138 = .ok (.getstatic 168, 3) := by decide +kernel
theorem d_Parser_readThread_141 : decode prog_6_method_15_code 141 = .ok (.invokevirtual 116, 3) := by decide +kernel
theorem d_Parser_readThread_144 : decode prog_6_method_15_code 144 = .ok (.return_, 1) := by decide +kernel
def zf_Parser_readThread_136 (F : Nat)  (t0 : Int32) (t1 : Int32) (t2 : Nat) (σ : zs_S) : Option (zs_S) :=
  zq_g (zq_k 0 t2 0) <|
  zq_g (zq_b t1 (zd_sh 0 t2).2) <|
  zq_v (zs_wi σ t2 ((t1).toNatClampNeg) t0) fun σ44 =>
  zq_d (zf_Parser_expect F 1020 σ44) fun σ45 =>
  some σ45
def zf_Parser_readThread_98 (F : Nat)  (x1 : Int32) (σ : zs_S) : Option (zs_S) :=
  zq_q (zs_r σ 7 7) fun q31 =>
  zq_g (zq_k 0 q31 15) <|
  zq_v (zs_i σ q31 3) fun v33 =>
  zq_d (zf_Parser_readStatements F 8 ((-1)) 0 σ) fun σ34 =>
  zq_q (zs_r σ34 7 7) fun q37 =>
  zq_g (zq_k 0 q37 15) <|
  zq_q (zd_rf 0 q37 6) fun q39 =>
  zq_q (zs_r σ34 7 7) fun q40 =>
  zq_g (zq_k 0 q40 15) <|
  if (zs_i σ34 q40 3) ≤ v33 then (
    zf_Parser_readThread_136 F ((-1)) x1 q39 σ34
  ) else (
    zf_Parser_readThread_136 F v33 x1 q39 σ34
  )
def zf_Parser_readThread_72 (F : Nat)  : Nat → Int32 → Int32 → zs_S → Option (zs_S)
  | 0, _, _, _ => none
  | n + 1, x1, x2, σ =>
    if 3 < x2 then (
      zf_Parser_readThread_98 F x1 σ
    ) else (
      zq_q (zs_r σ 7 6) fun q25 =>
      zq_g (decide (q25 < 1200)) <|
      if q25 = 1008 then (
        zq_d (zf_Parser_readLocal F x1 σ) fun σ27 =>
        zq_v (x2 + 1) fun v30 =>
        (zf_Parser_readThread_72 F n) x1 v30 σ27
      ) else (
        zf_Parser_readThread_98 F x1 σ
      )
    )
def zf_Parser_readThread_23 (F : Nat)   (σ : zs_S) : Option (zs_S) :=
  zq_d (zf_Parser_fail F σ) fun σ22 =>
  some σ22
def zf_Parser_readThread (F : Nat)  (σ : zs_S) : Option (zs_S) :=
  zq_q (zs_r σ 7 7) fun q1 =>
  zq_g (zq_k 0 q1 15) <|
  zq_v (zs_i σ q1 2) fun v3 =>
  zq_q (zs_r σ 7 6) fun q4 =>
  zq_g (decide (q4 < 1200)) <|
  if q4 = 1007 then (
    if v3 = 4 then (
      zf_Parser_readThread_23 F σ
    ) else (
      zq_q (zs_r σ 7 7) fun q6 =>
      zq_g (zq_k 0 q6 15) <|
      zq_v (zs_wi σ q6 2 ((zs_i σ q6 2) + 1)) fun σ8 =>
      zq_q (zs_r σ8 7 7) fun q9 =>
      zq_g (zq_k 0 q9 15) <|
      zq_q (zd_rf 0 q9 5) fun q11 =>
      zq_g (zq_k 0 q11 0) <|
      zq_g (zq_b v3 (zd_sh 0 q11).2) <|
      zq_v (zs_wi σ8 q11 ((v3).toNatClampNeg) 0) fun σ14 =>
      zq_v (zs_wi σ14 7 2 (zs_i σ14 7 3)) fun σ15 =>
      zq_d (zf_Parser_advance F σ15) fun σ16 =>
      zq_d (zf_Parser_expect F 1019 σ16) fun σ19 =>
      zf_Parser_readThread_72 F F v3 0 σ19
    )
  ) else (
    zf_Parser_readThread_23 F σ
  )
set_option maxHeartbeats 4000000 in
set_option maxRecDepth 100000 in
theorem zc_Parser_readThread {l : Launch} {D : va_G} {cA : Nat → ClassId} {ad : Nat → Nat} {A : Nat → Prop} {F : Nat}  {σ : zs_S} {q : zs_S} (hJ : zs_J ad) (hf : zf_Parser_readThread F  σ = some q) : Met l y_Parser_readThread (.code y_Parser_readThread prog_6_method_15_code 3 none :: zd_ww) { frames := 729, cells := 0, slots := 0, locals := 18167 } (va_Pc [.ref (ad 7)] (zs_U 0 D cA ad A σ)) (zs_Qv 0 D cA ad A q) 0 0 A := by
  refine Met.ofW (cc := prog_6_method_15_code) (maxL := 3) (ret := none) (by decide) rfl ?_
  intro p e s m args below meth c s₁ B hml hv
  obtain ⟨hargs, hP, hK, hD, hZ⟩ := hv
  have G : zs_G 0 p s m args c prog_6_method_15_code 3 "ScheduleCheck$Parser" D cA ad A := ⟨⟨B.exec, B.bytes, hml, findClass_of_methodNamed B.named, fun w h => atoms_spec B.pre w (List.mem_cons_of_mem _ h)⟩, hK, hJ, hZ⟩
  have hw : zs_I 0 D cA ad A s σ s.heap [] := ⟨hP, hD, va_S.rf⟩
  have hx := G.1.1
  have hb := G.1.2.1
  have hown := G.1.2.2.2.1
  have hts := G.1.2.2.2.2
  have hr := B.returns
  have hlocks := B.notSynchronized
  have he : entryFrame m args 3 = F0 m 0 ((lg_sl [.ref (ad 7)] ++ List.replicate (3 - (lg_sl [.ref (ad 7)]).length) Slot.unset).toArray) [] := by rw [hargs]; exact lg_entry_eq m _ 3
  have hl := lv_entry [.ref (ad 7)] (n := 3) (Nat.le_of_ble_eq_true rfl)
  rw [he]
  generalize (lg_sl [.ref (ad 7)] ++ List.replicate (3 - (lg_sl [.ref (ad 7)]).length) Slot.unset).toArray = ls at hl
  have hl : lv_has ls 3 [(0, .ref (ad 7))] := hl
  obtain ⟨RR, hR⟩ : ∃ z, z = (headSpec (.code y_Parser_readThread prog_6_method_15_code 3 none :: zd_ww) { frames := 729, cells := 0, slots := 0, locals := 18167 }).room := ⟨_, rfl⟩
  rw [← hR]
  obtain ⟨QQ, hQ⟩ : ∃ z, z = MQ below (zs_Qv 0 D cA ad A q) args s 0 0 A := ⟨_, rfl⟩
  rw [← hQ]
  have hR1 : 729 ≤ RR.frames := by rw [hR]; exact Nat.le_refl _
  have hR2 : 18167 ≤ RR.locals := by rw [hR]; exact Nat.le_refl _
  generalize s.heap = H at hw ⊢
  generalize ([] : List Loc) = locs at hw ⊢
  have K136 : ∀ (t0 : Int32) (t1 : Int32) (t2 : Nat) (σ : zs_S) (H : Heap) (locs : List Loc) (ls : Array Slot), zf_Parser_readThread_136 F t0 t1 t2 σ = some q → zs_I 0 D cA ad A s σ H locs → lv_has ls 3 [(0, .ref (ad 7))] → W p l e RR s m args below meth c H locs 0 0 QQ (F0 m 136 ls [.int t0, .int t1, .ref (ad t2)]) := by
    intro  t0 t1 t2 σ H locs ls hf hw hl
    unfold zf_Parser_readThread_136 at hf
    obtain ⟨hs42, hf⟩ := zq_gs hf
    have hs42 := zq_ks hs42
    obtain ⟨hi43, hf⟩ := zq_gs hf
    obtain ⟨σ44, e_σ44, hf⟩ := zq_ss hf
    refine zr_iast G hw t2 hs42 rfl  hi43  d_Parser_readThread_136 (fun H locs hw => ?_)
    rw [← e_σ44] at hw
    refine lv_aload_n hx hb d_Parser_readThread_137 rfl (lv_at hl 0 rfl) ?_
    refine va_gets (C := "ScheduleCheck$Token") (n := "CLOSE") (d := "LScheduleCheck$Token;") (v := .ref (ad 1020)) hx hb ((G.2.2.2.1 rfl).1.1 20 (by decide)).1 hw.2.2 hown (hts _ zm_373) (fun _ h => h) d_Parser_readThread_138 ?_
    obtain ⟨σ45, hc47, hf⟩ := zq_ds hf
    refine zr_cv hw (zr_runV (rest := []) (ci := 2) (o := 7) G hw [.ref (ad 1020)] (zc_Parser_expect hJ hc47) (cwV 1 hts (zs_gV zm_287 zm_288 zm_289 zm_269 zm_286) rfl rfl rfl (by decide +kernel) ⟨Nat.le_trans (by decide) hR1, Nat.le_trans (by decide) hR2⟩) rfl rfl rfl hl.1 (Nat.le_of_ble_eq_true rfl) d_Parser_readThread_141 ⟨Nat.zero_le _, Nat.zero_le _⟩) (fun H locs hw => ?_)
    exact zr_vret G hw hr hlocks hf hQ d_Parser_readThread_144
  have K98 : ∀ (x1 : Int32) (σ : zs_S) (H : Heap) (locs : List Loc) (ls : Array Slot), zf_Parser_readThread_98 F x1 σ = some q → zs_I 0 D cA ad A s σ H locs → lv_has ls 3 [(0, .ref (ad 7)), (1, .int x1)] → W p l e RR s m args below meth c H locs 0 0 QQ (F0 m 98 ls []) := by
    intro  x1 σ H locs ls hf hw hl
    unfold zf_Parser_readThread_98 at hf
    refine lv_aload_n hx hb d_Parser_readThread_98 rfl (lv_at hl 0 rfl) ?_
    obtain ⟨q31, e_q31, h_q31, hf⟩ := zq_qs hf
    refine zr_get (ci := 2) G hw 7 7 zi_2 rfl rfl rfl (by decide) zm_290 (fun _ h => h) (v := .ref (ad q31)) (zs_fr rfl e_q31 h_q31) d_Parser_readThread_99 ?_
    obtain ⟨hs32, hf⟩ := zq_gs hf
    have hs32 := zq_ks hs32
    refine zr_get (ci := 5) G hw q31 3 zi_5 hs32 rfl rfl (by decide) zm_368 (fun _ h => h) (v := .int (zs_i σ q31 3)) rfl d_Parser_readThread_102 ?_
    refine lv_topi (fun v33 e_v33 => ?_)
    have hf := zq_vs e_v33 hf
    refine lv_istore_n hx hb d_Parser_readThread_105 rfl hl (by decide) rfl (fun ls hl => ?_)
    have hl : lv_has ls 3 [(2, .int v33), (0, .ref (ad 7)), (1, .int x1)] := hl
    refine lv_aload_n hx hb d_Parser_readThread_106 rfl (lv_at hl 1 rfl) ?_
    refine lv_iconst (v := (-1)) hx hb d_Parser_readThread_107 (by decide) ?_
    refine lv_iconst (v := 0) hx hb d_Parser_readThread_108 (by decide) ?_
    obtain ⟨σ34, hc36, hf⟩ := zq_ds hf
    refine zr_cv hw (zr_runV (rest := []) (ci := 2) (o := 7) G hw [.int ((-1)), .int 0] (zc_Parser_readStatements  hJ 8 hc36) (cwV 2 hts (zs_gV zm_370 zm_371 zm_372 zm_269 zm_369) rfl rfl rfl (by decide +kernel) ⟨Nat.le_trans (by decide) hR1, Nat.le_trans (by decide) hR2⟩) rfl rfl rfl hl.1 (Nat.le_of_ble_eq_true rfl) d_Parser_readThread_109 ⟨Nat.zero_le _, Nat.zero_le _⟩) (fun H locs hw => ?_)
    refine lv_aload_n hx hb d_Parser_readThread_112 rfl (lv_at hl 1 rfl) ?_
    obtain ⟨q37, e_q37, h_q37, hf⟩ := zq_qs hf
    refine zr_get (ci := 2) G hw 7 7 zi_2 rfl rfl rfl (by decide) zm_290 (fun _ h => h) (v := .ref (ad q37)) (zs_fr rfl e_q37 h_q37) d_Parser_readThread_113 ?_
    obtain ⟨hs38, hf⟩ := zq_gs hf
    have hs38 := zq_ks hs38
    obtain ⟨q39, e_q39, h_q39, hf⟩ := zq_qs hf
    refine zr_get (ci := 5) G hw q37 6 zi_5 hs38 rfl rfl (by decide) zm_425 (fun _ h => h) (v := .ref (ad q39)) (zs_fs rfl e_q39 h_q39) d_Parser_readThread_116 ?_
    refine lv_iload_n hx hb d_Parser_readThread_119 rfl (lv_at hl 2 rfl) ?_
    refine lv_aload_n hx hb d_Parser_readThread_120 rfl (lv_at hl 1 rfl) ?_
    obtain ⟨q40, e_q40, h_q40, hf⟩ := zq_qs hf
    refine zr_get (ci := 2) G hw 7 7 zi_2 rfl rfl rfl (by decide) zm_290 (fun _ h => h) (v := .ref (ad q40)) (zs_fr rfl e_q40 h_q40) d_Parser_readThread_121 ?_
    obtain ⟨hs41, hf⟩ := zq_gs hf
    have hs41 := zq_ks hs41
    refine zr_get (ci := 5) G hw q40 3 zi_5 hs41 rfl rfl (by decide) zm_368 (fun _ h => h) (v := .int (zs_i σ34 q40 3)) rfl d_Parser_readThread_124 ?_
    refine lv_iload_n hx hb d_Parser_readThread_127 rfl (lv_at hl 0 rfl) ?_
    refine lv_icmp_le hx hb d_Parser_readThread_128 (tgt := 135) rfl (fun hc => ?_) (fun hc => ?_)
    · have hf := (if_pos hc).symm.trans hf
      refine lv_iconst (v := (-1)) hx hb d_Parser_readThread_135 (by decide) ?_
      exact K136 ((-1)) x1 q39 σ34 H locs ls hf hw (lv_sub hl [1] rfl)
    · have hf := (if_neg hc).symm.trans hf
      refine lv_iload_n hx hb d_Parser_readThread_131 rfl (lv_at hl 0 rfl) ?_
      refine lv_goto hx hb d_Parser_readThread_132 (tgt := 136) rfl ?_
      exact K136 v33 x1 q39 σ34 H locs ls hf hw (lv_sub hl [1] rfl)
  have K72 : ∀ (n : Nat) (x1 : Int32) (x2 : Int32) (σ : zs_S) (H : Heap) (locs : List Loc) (ls : Array Slot), zf_Parser_readThread_72 F n x1 x2 σ = some q → zs_I 0 D cA ad A s σ H locs → lv_has ls 3 [(0, .ref (ad 7)), (1, .int x1), (2, .int x2)] → W p l e RR s m args below meth c H locs 0 0 QQ (F0 m 72 ls []) := by
    intro  n
    induction n with
    | zero => intro x1 x2 σ H locs ls hf hw hl; exact nomatch (show (none : Option (zs_S)) = some q from hf)
    | succ n ih =>
      intro x1 x2 σ H locs ls hf hw hl
      rw [zf_Parser_readThread_72] at hf
      refine lv_iload_n hx hb d_Parser_readThread_72 rfl (lv_at hl 2 rfl) ?_
      refine lv_iconst (v := 3) hx hb d_Parser_readThread_73 (by decide) ?_
      refine lv_icmp_gt hx hb d_Parser_readThread_74 (tgt := 98) rfl (fun hc => ?_) (fun hc => ?_)
      · have hf := (if_pos hc).symm.trans hf
        exact K98 x1 σ H locs ls hf hw (lv_sub hl [0, 1] rfl)
      · have hf := (if_neg hc).symm.trans hf
        refine lv_aload_n hx hb d_Parser_readThread_77 rfl (lv_at hl 0 rfl) ?_
        obtain ⟨q25, e_q25, h_q25, hf⟩ := zq_qs hf
        refine zr_get (ci := 2) G hw 7 6 zi_2 rfl rfl rfl (by decide) zm_263 (fun _ h => h) (v := .ref (ad q25)) (zs_fr rfl e_q25 h_q25) d_Parser_readThread_78 ?_
        refine va_gets (C := "ScheduleCheck$Token") (n := "LOCAL") (d := "LScheduleCheck$Token;") (v := .ref (ad 1008)) hx hb ((G.2.2.2.1 rfl).1.1 8 (by decide)).1 hw.2.2 hown (hts _ zm_420) (fun _ h => h) d_Parser_readThread_81 ?_
        obtain ⟨hm26, hf⟩ := zq_gs hf
        refine zr_ane G (of_decide_eq_true hm26) (by decide) d_Parser_readThread_84 (tgt := 98) rfl (fun hc => ?_) (fun hc => ?_)
        · have hf := (if_neg hc).symm.trans hf
          exact K98 x1 σ H locs ls hf hw (lv_sub hl [0, 1] rfl)
        · have hf := (if_pos hc).symm.trans hf
          refine lv_aload_n hx hb d_Parser_readThread_87 rfl (lv_at hl 0 rfl) ?_
          refine lv_iload_n hx hb d_Parser_readThread_88 rfl (lv_at hl 1 rfl) ?_
          obtain ⟨σ27, hc29, hf⟩ := zq_ds hf
          refine zr_cv hw (zr_runV (rest := []) (ci := 2) (o := 7) G hw [.int x1] (zc_Parser_readLocal hJ hc29) (cwV 1 hts (zs_gV zm_422 zm_423 zm_424 zm_269 zm_421) rfl rfl rfl (by decide +kernel) ⟨Nat.le_trans (by decide) hR1, Nat.le_trans (by decide) hR2⟩) rfl rfl rfl hl.1 (Nat.le_of_ble_eq_true rfl) d_Parser_readThread_89 ⟨Nat.zero_le _, Nat.zero_le _⟩) (fun H locs hw => ?_)
          obtain ⟨v30, e_v30, hf⟩ := zq_ss hf
          refine lv_iinc (v := v30) hx hb d_Parser_readThread_92 hl (k := 2) rfl (zq_inc (k := 1) (by decide) e_v30) (by decide) rfl (fun ls hl => ?_)
          have hl : lv_has ls 3 [(2, .int v30), (0, .ref (ad 7)), (1, .int x1)] := hl
          refine lv_goto hx hb d_Parser_readThread_95 (tgt := 72) rfl ?_
          exact ih x1 v30 σ27 H locs ls hf hw (lv_sub hl [1, 2, 0] rfl)
  have K23 : ∀ (σ : zs_S) (H : Heap) (locs : List Loc) (ls : Array Slot), zf_Parser_readThread_23 F σ = some q → zs_I 0 D cA ad A s σ H locs → lv_has ls 3 [(0, .ref (ad 7))] → W p l e RR s m args below meth c H locs 0 0 QQ (F0 m 23 ls []) := by
    intro   σ H locs ls hf hw hl
    unfold zf_Parser_readThread_23 at hf
    refine lv_aload_n hx hb d_Parser_readThread_23 rfl (lv_at hl 0 rfl) ?_
    obtain ⟨σ22, hc24, hf⟩ := zq_ds hf
    refine zr_cv hw (zr_runV (rest := []) (ci := 2) (o := 7) G hw [] (zc_Parser_fail hJ hc24) (cwV 0 hts (zs_gV zm_266 zm_267 zm_268 zm_269 zm_265) rfl rfl rfl (by decide +kernel) ⟨Nat.le_trans (by decide) hR1, Nat.le_trans (by decide) hR2⟩) rfl rfl rfl hl.1 (Nat.le_of_ble_eq_true rfl) d_Parser_readThread_24 ⟨Nat.zero_le _, Nat.zero_le _⟩) (fun H locs hw => ?_)
    exact zr_vret G hw hr hlocks hf hQ d_Parser_readThread_27
  unfold zf_Parser_readThread at hf
  refine lv_aload_n hx hb d_Parser_readThread_0 rfl (lv_at hl 0 rfl) ?_
  obtain ⟨q1, e_q1, h_q1, hf⟩ := zq_qs hf
  refine zr_get (ci := 2) G hw 7 7 zi_2 rfl rfl rfl (by decide) zm_290 (fun _ h => h) (v := .ref (ad q1)) (zs_fr rfl e_q1 h_q1) d_Parser_readThread_1 ?_
  obtain ⟨hs2, hf⟩ := zq_gs hf
  have hs2 := zq_ks hs2
  refine zr_get (ci := 5) G hw q1 2 zi_5 hs2 rfl rfl (by decide) zm_418 (fun _ h => h) (v := .int (zs_i σ q1 2)) rfl d_Parser_readThread_4 ?_
  refine lv_topi (fun v3 e_v3 => ?_)
  have hf := zq_vs e_v3 hf
  refine lv_istore_n hx hb d_Parser_readThread_7 rfl hl (by decide) rfl (fun ls hl => ?_)
  have hl : lv_has ls 3 [(1, .int v3), (0, .ref (ad 7))] := hl
  refine lv_aload_n hx hb d_Parser_readThread_8 rfl (lv_at hl 1 rfl) ?_
  obtain ⟨q4, e_q4, h_q4, hf⟩ := zq_qs hf
  refine zr_get (ci := 2) G hw 7 6 zi_2 rfl rfl rfl (by decide) zm_263 (fun _ h => h) (v := .ref (ad q4)) (zs_fr rfl e_q4 h_q4) d_Parser_readThread_9 ?_
  refine va_gets (C := "ScheduleCheck$Token") (n := "THREAD") (d := "LScheduleCheck$Token;") (v := .ref (ad 1007)) hx hb ((G.2.2.2.1 rfl).1.1 7 (by decide)).1 hw.2.2 hown (hts _ zm_419) (fun _ h => h) d_Parser_readThread_12 ?_
  obtain ⟨hm5, hf⟩ := zq_gs hf
  refine zr_ane G (of_decide_eq_true hm5) (by decide) d_Parser_readThread_15 (tgt := 23) rfl (fun hc => ?_) (fun hc => ?_)
  · have hf := (if_neg hc).symm.trans hf
    exact K23 σ H locs ls hf hw (lv_sub hl [1] rfl)
  · have hf := (if_pos hc).symm.trans hf
    refine lv_iload_n hx hb d_Parser_readThread_18 rfl (lv_at hl 0 rfl) ?_
    refine lv_iconst (v := 4) hx hb d_Parser_readThread_19 (by decide) ?_
    refine lv_icmp_ne hx hb d_Parser_readThread_20 (tgt := 28) rfl (fun hc => ?_) (fun hc => ?_)
    · have hf := (if_neg hc).symm.trans hf
      refine lv_aload_n hx hb d_Parser_readThread_28 rfl (lv_at hl 1 rfl) ?_
      obtain ⟨q6, e_q6, h_q6, hf⟩ := zq_qs hf
      refine zr_get (ci := 2) G hw 7 7 zi_2 rfl rfl rfl (by decide) zm_290 (fun _ h => h) (v := .ref (ad q6)) (zs_fr rfl e_q6 h_q6) d_Parser_readThread_29 ?_
      refine lv_dup hx hb d_Parser_readThread_32 rfl ?_
      obtain ⟨hs7, hf⟩ := zq_gs hf
      have hs7 := zq_ks hs7
      refine zr_get (ci := 5) G hw q6 2 zi_5 hs7 rfl rfl (by decide) zm_418 (fun _ h => h) (v := .int (zs_i σ q6 2)) rfl d_Parser_readThread_33 ?_
      refine lv_iconst (v := 1) hx hb d_Parser_readThread_36 (by decide) ?_
      refine lv_iadd hx hb d_Parser_readThread_37 ?_
      obtain ⟨σ8, e_σ8, hf⟩ := zq_ss hf
      refine zr_puti (ci := 5) G hw q6 2 zi_5 t_zd5 t_zd5_ok n_zd5 hs7 rfl rfl (by decide) rfl zm_418 (fun _ h => h) rfl (x := ((zs_i σ q6 2) + 1)) (t_zd5_ok 2 (by decide)) rfl rfl d_Parser_readThread_38 (fun H locs hw => ?_)
      rw [← e_σ8] at hw
      refine lv_aload_n hx hb d_Parser_readThread_41 rfl (lv_at hl 1 rfl) ?_
      obtain ⟨q9, e_q9, h_q9, hf⟩ := zq_qs hf
      refine zr_get (ci := 2) G hw 7 7 zi_2 rfl rfl rfl (by decide) zm_290 (fun _ h => h) (v := .ref (ad q9)) (zs_fr rfl e_q9 h_q9) d_Parser_readThread_42 ?_
      obtain ⟨hs10, hf⟩ := zq_gs hf
      have hs10 := zq_ks hs10
      obtain ⟨q11, e_q11, h_q11, hf⟩ := zq_qs hf
      refine zr_get (ci := 5) G hw q9 5 zi_5 hs10 rfl rfl (by decide) zm_314 (fun _ h => h) (v := .ref (ad q11)) (zs_fs rfl e_q11 h_q11) d_Parser_readThread_45 ?_
      refine lv_iload_n hx hb d_Parser_readThread_48 rfl (lv_at hl 0 rfl) ?_
      refine lv_iconst (v := 0) hx hb d_Parser_readThread_49 (by decide) ?_
      obtain ⟨hs12, hf⟩ := zq_gs hf
      have hs12 := zq_ks hs12
      obtain ⟨hi13, hf⟩ := zq_gs hf
      obtain ⟨σ14, e_σ14, hf⟩ := zq_ss hf
      refine zr_iast G hw q11 hs12 rfl  hi13  d_Parser_readThread_50 (fun H locs hw => ?_)
      rw [← e_σ14] at hw
      refine lv_aload_n hx hb d_Parser_readThread_51 rfl (lv_at hl 1 rfl) ?_
      refine lv_aload_n hx hb d_Parser_readThread_52 rfl (lv_at hl 1 rfl) ?_
      refine zr_get (ci := 2) G hw 7 3 zi_2 rfl rfl rfl (by decide) zm_303 (fun _ h => h) (v := .int (zs_i σ14 7 3)) rfl d_Parser_readThread_53 ?_
      obtain ⟨σ15, e_σ15, hf⟩ := zq_ss hf
      refine zr_puti (ci := 2) G hw 7 2 zi_2 t_zd2 t_zd2_ok n_zd2 rfl rfl rfl (by decide) rfl zm_274 (fun _ h => h) rfl (x := (zs_i σ14 7 3)) (t_zd2_ok 2 (by decide)) rfl rfl d_Parser_readThread_56 (fun H locs hw => ?_)
      rw [← e_σ15] at hw
      refine lv_aload_n hx hb d_Parser_readThread_59 rfl (lv_at hl 1 rfl) ?_
      obtain ⟨σ16, hc18, hf⟩ := zq_ds hf
      refine zr_cv hw (zr_runV (rest := []) (ci := 2) (o := 7) G hw [] (zc_Parser_advance hJ hc18) (cwV 0 hts (zs_gV zm_271 zm_272 zm_273 zm_269 zm_270) rfl rfl rfl (by decide +kernel) ⟨Nat.le_trans (by decide) hR1, Nat.le_trans (by decide) hR2⟩) rfl rfl rfl hl.1 (Nat.le_of_ble_eq_true rfl) d_Parser_readThread_60 ⟨Nat.zero_le _, Nat.zero_le _⟩) (fun H locs hw => ?_)
      refine lv_aload_n hx hb d_Parser_readThread_63 rfl (lv_at hl 1 rfl) ?_
      refine va_gets (C := "ScheduleCheck$Token") (n := "OPEN") (d := "LScheduleCheck$Token;") (v := .ref (ad 1019)) hx hb ((G.2.2.2.1 rfl).1.1 19 (by decide)).1 hw.2.2 hown (hts _ zm_367) (fun _ h => h) d_Parser_readThread_64 ?_
      obtain ⟨σ19, hc21, hf⟩ := zq_ds hf
      refine zr_cv hw (zr_runV (rest := []) (ci := 2) (o := 7) G hw [.ref (ad 1019)] (zc_Parser_expect hJ hc21) (cwV 1 hts (zs_gV zm_287 zm_288 zm_289 zm_269 zm_286) rfl rfl rfl (by decide +kernel) ⟨Nat.le_trans (by decide) hR1, Nat.le_trans (by decide) hR2⟩) rfl rfl rfl hl.1 (Nat.le_of_ble_eq_true rfl) d_Parser_readThread_67 ⟨Nat.zero_le _, Nat.zero_le _⟩) (fun H locs hw => ?_)
      refine lv_iconst (v := 0) hx hb d_Parser_readThread_70 (by decide) ?_
      refine lv_istore_n hx hb d_Parser_readThread_71 rfl hl (by decide) rfl (fun ls hl => ?_)
      have hl : lv_has ls 3 [(2, .int 0), (1, .int v3), (0, .ref (ad 7))] := hl
      exact K72 F v3 0 σ19 H locs ls hf hw (lv_sub hl [2, 1, 0] rfl)
    · have hf := (if_pos hc).symm.trans hf
      exact K23 σ H locs ls hf hw (lv_sub hl [1] rfl)
/-! ScheduleCheck$Parser.parse -/
def y_Parser_parse : MethodName := ⟨"ScheduleCheck$Parser","parse","(LScheduleCheck$Tokens;LScheduleCheck$Program;)I"⟩
theorem d_Parser_parse_0 : decode prog_6_method_2_code 0 = .ok (.aload_n 0, 1) := by decide +kernel
theorem d_Parser_parse_1 : decode prog_6_method_2_code 1 = .ok (.aload_n 1, 1) := by decide +kernel
theorem d_Parser_parse_2 : decode prog_6_method_2_code 2 = .ok (.putfield 19, 3) := by decide +kernel
theorem d_Parser_parse_5 : decode prog_6_method_2_code 5 = .ok (.aload_n 0, 1) := by decide +kernel
theorem d_Parser_parse_6 : decode prog_6_method_2_code 6 = .ok (.iconst 0, 1) := by decide +kernel
theorem d_Parser_parse_7 : decode prog_6_method_2_code 7 = .ok (.putfield 23, 3) := by decide +kernel
theorem d_Parser_parse_10 : decode prog_6_method_2_code 10 = .ok (.aload_n 0, 1) := by decide +kernel
theorem d_Parser_parse_11 : decode prog_6_method_2_code 11 = .ok (.aload_n 0, 1) := by decide +kernel
theorem d_Parser_parse_12 : decode prog_6_method_2_code 12 = .ok (.getfield 19, 3) := by decide +kernel
theorem d_Parser_parse_15 : decode prog_6_method_2_code 15 = .ok (.getfield 27, 3) := by decide +kernel
theorem d_Parser_parse_18 : decode prog_6_method_2_code 18 = .ok (.iconst 0, 1) := by decide +kernel
theorem d_Parser_parse_19 : decode prog_6_method_2_code 19 = .ok (.aaload, 1) := by decide +kernel
theorem d_Parser_parse_20 : decode prog_6_method_2_code 20 = .ok (.putfield 33, 3) := by decide +kernel
theorem d_Parser_parse_23 : decode prog_6_method_2_code 23 = .ok (.aload_n 0, 1) := by decide +kernel
theorem d_Parser_parse_24 : decode prog_6_method_2_code 24 = .ok (.aload_n 2, 1) := by decide +kernel
theorem d_Parser_parse_25 : decode prog_6_method_2_code 25 = .ok (.putfield 37, 3) := by decide +kernel
theorem d_Parser_parse_28 : decode prog_6_method_2_code 28 = .ok (.aload_n 0, 1) := by decide +kernel
theorem d_Parser_parse_29 : decode prog_6_method_2_code 29 = .ok (.getfield 37, 3) := by decide +kernel
theorem d_Parser_parse_32 : decode prog_6_method_2_code 32 = .ok (.invokevirtual 41, 3) := by decide +kernel
theorem d_Parser_parse_35 : decode prog_6_method_2_code 35 = .ok (.aload_n 0, 1) := by decide +kernel
theorem d_Parser_parse_36 : decode prog_6_method_2_code 36 = .ok (.bipush (-2), 2) := by decide +kernel
theorem d_Parser_parse_38 : decode prog_6_method_2_code 38 = .ok (.putfield 46, 3) := by decide +kernel
theorem d_Parser_parse_41 : decode prog_6_method_2_code 41 = .ok (.aload_n 0, 1) := by decide +kernel
theorem d_Parser_parse_42 : decode prog_6_method_2_code 42 = .ok (.iconst 0, 1) := by decide +kernel
theorem d_Parser_parse_43 : decode prog_6_method_2_code 43 = .ok (.putfield 49, 3) := by decide +kernel
theorem d_Parser_parse_46 : decode prog_6_method_2_code 46 = .ok (.aload_n 0, 1) := by decide +kernel
theorem d_Parser_parse_47 : decode prog_6_method_2_code 47 = .ok (.invokevirtual 52, 3) := by decide +kernel
theorem d_Parser_parse_50 : decode prog_6_method_2_code 50 = .ok (.aload_n 0, 1) := by decide +kernel
theorem d_Parser_parse_51 : decode prog_6_method_2_code 51 = .ok (.invokevirtual 55, 3) := by decide +kernel
theorem d_Parser_parse_54 : decode prog_6_method_2_code 54 = .ok (.iconst 0, 1) := by decide +kernel
theorem d_Parser_parse_55 : decode prog_6_method_2_code 55 = .ok (.istore_n 3, 1) := by decide +kernel
theorem d_Parser_parse_56 : decode prog_6_method_2_code 56 = .ok (.iload_n 3, 1) := by decide +kernel
theorem d_Parser_parse_57 : decode prog_6_method_2_code 57 = .ok (.iconst 4, 1) := by decide +kernel
theorem d_Parser_parse_58 : decode prog_6_method_2_code 58 = .ok (.if_icmp .ge 23, 3) := by decide +kernel
theorem d_Parser_parse_61 : decode prog_6_method_2_code 61 = .ok (.aload_n 0, 1) := by decide +kernel
theorem d_Parser_parse_62 : decode prog_6_method_2_code 62 = .ok (.getfield 33, 3) := by decide +kernel
theorem d_Parser_parse_65 : decode prog_6_method_2_code 65 = .ok (.getstatic 58, 3) := by decide +kernel
theorem d_Parser_parse_68 : decode prog_6_method_2_code 68 = .ok (.if_acmp .ne 13, 3) := by decide +kernel
theorem d_Parser_parse_71 : decode prog_6_method_2_code 71 = .ok (.aload_n 0, 1) := by decide +kernel
theorem d_Parser_parse_72 : decode prog_6_method_2_code 72 = .ok (.invokevirtual 55, 3) := by decide +kernel
theorem d_Parser_parse_75 : decode prog_6_method_2_code 75 = .ok (.iinc 3 1, 3) := by decide +kernel
theorem d_Parser_parse_78 : decode prog_6_method_2_code 78 = .ok (.goto (-22), 3) := by decide +kernel
theorem d_Parser_parse_81 : decode prog_6_method_2_code 81 = .ok (.aload_n 0, 1) := by decide +kernel
theorem d_Parser_parse_82 : decode prog_6_method_2_code 82 = .ok (.getfield 33, 3) := by decide +kernel
theorem d_Parser_parse_85 : decode prog_6_method_2_code 85 = .ok (.getstatic 63, 3) := by decide +kernel
theorem d_Parser_parse_88 : decode prog_6_method_2_code 88 = .ok (.if_acmp .eq 7, 3) := by decide +kernel
theorem d_Parser_parse_91 : decode prog_6_method_2_code 91 = .ok (.aload_n 0, 1) := by decide +kernel
theorem d_Parser_parse_92 : decode prog_6_method_2_code 92 = .ok (.invokevirtual 66, 3) := by decide +kernel
theorem d_Parser_parse_95 : decode prog_6_method_2_code 95 = .ok (.aload_n 0, 1) := by decide +kernel
theorem d_Parser_parse_96 : decode prog_6_method_2_code 96 = .ok (.getfield 46, 3) := by decide +kernel
theorem d_Parser_parse_99 : decode prog_6_method_2_code 99 = .ok (.bipush (-2), 2) := by decide +kernel
theorem d_Parser_parse_101 : decode prog_6_method_2_code 101 = .ok (.if_icmp .ne 10, 3) := by decide +kernel
theorem d_Parser_parse_104 : decode prog_6_method_2_code 104 = .ok (.aload_n 0, 1) := by decide +kernel
theorem d_Parser_parse_105 : decode prog_6_method_2_code 105 = .ok (.getfield 37, 3) := by decide +kernel
theorem d_Parser_parse_108 : decode prog_6_method_2_code 108 = .ok (.invokevirtual 69, 3) := by decide +kernel
theorem d_Parser_parse_111 : decode prog_6_method_2_code 111 = .ok (.aload_n 0, 1) := by decide +kernel
theorem d_Parser_parse_112 : decode prog_6_method_2_code 112 = .ok (.getfield 46, 3) := by decide +kernel
theorem d_Parser_parse_115 : decode prog_6_method_2_code 115 = .ok (.ireturn, 1) := by decide +kernel
def zf_Parser_parse_111 (F : Nat)   (σ : zs_S) : Option (Int32 × zs_S) :=
  some (zs_i σ 7 8, σ)
def zf_Parser_parse_95 (F : Nat)   (σ : zs_S) : Option (Int32 × zs_S) :=
  if (zs_i σ 7 8) = ((-2)) then (
    zq_q (zs_r σ 7 7) fun q37 =>
    zq_g (zq_k 0 q37 15) <|
    zq_d (zf_Program_settleWays F q37 σ) fun σ38 =>
    zf_Parser_parse_111 F σ38
  ) else (
    zf_Parser_parse_111 F σ
  )
def zf_Parser_parse_81 (F : Nat)   (σ : zs_S) : Option (Int32 × zs_S) :=
  zq_q (zs_r σ 7 6) fun q32 =>
  zq_g (decide (q32 < 1200)) <|
  if q32 = 1000 then (
    zf_Parser_parse_95 F σ
  ) else (
    zq_d (zf_Parser_fail F σ) fun σ34 =>
    zf_Parser_parse_95 F σ34
  )
def zf_Parser_parse_56 (F : Nat)  : Nat → Int32 → zs_S → Option (Int32 × zs_S)
  | 0, _, _ => none
  | n + 1, x3, σ =>
    if 4 ≤ x3 then (
      zf_Parser_parse_81 F σ
    ) else (
      zq_q (zs_r σ 7 6) fun q26 =>
      zq_g (decide (q26 < 1200)) <|
      if q26 = 1007 then (
        zq_d (zf_Parser_readThread F σ) fun σ28 =>
        zq_v (x3 + 1) fun v31 =>
        (zf_Parser_parse_56 F n) v31 σ28
      ) else (
        zf_Parser_parse_81 F σ
      )
    )
def zf_Parser_parse (F : Nat) (x1 : Nat) (x2 : Nat) (σ : zs_S) : Option (Int32 × zs_S) :=
  zq_g (zq_n x1) <|
  zq_v (zs_wr σ 7 4 x1) fun σ1 =>
  zq_v (zs_wi σ1 7 5 0) fun σ3 =>
  zq_q (zs_r σ3 7 4) fun q4 =>
  zq_g (zq_k 0 q4 11) <|
  zq_q (zd_rf 0 q4 0) fun q6 =>
  zq_g (zq_k 0 q6 4) <|
  zq_g (zq_b 0 (zd_sh 0 q6).2) <|
  zq_q (zs_r σ3 q6 (0 : Int32).toNatClampNeg) fun q9 =>
  zq_v (zs_wr σ3 7 6 q9) fun σ10 =>
  zq_g (zq_n x2) <|
  zq_v (zs_wr σ10 7 7 x2) fun σ11 =>
  zq_q (zs_r σ11 7 7) fun q13 =>
  zq_g (zq_k 0 q13 15) <|
  zq_d (zf_Program_clear F q13 σ11) fun σ14 =>
  zq_v (zs_wi σ14 7 8 ((-2))) fun σ18 =>
  zq_v (zs_wi σ18 7 9 0) fun σ19 =>
  zq_d (zf_Parser_readDeclarations F σ19) fun σ20 =>
  zq_d (zf_Parser_readThread F σ20) fun σ23 =>
  zf_Parser_parse_56 F F 0 σ23
set_option maxHeartbeats 4000000 in
set_option maxRecDepth 100000 in
theorem zc_Parser_parse {l : Launch} {D : va_G} {cA : Nat → ClassId} {ad : Nat → Nat} {A : Nat → Prop} {F : Nat} {x1 : Nat} {x2 : Nat} {σ : zs_S} {q : Int32 × zs_S} (hJ : zs_J ad) (hf : zf_Parser_parse F x1 x2 σ = some q) : Met l y_Parser_parse (.code y_Parser_parse prog_6_method_2_code 4 (some .int) :: zd_ww) { frames := 730, cells := 0, slots := 0, locals := 18189 } (va_Pc [.ref (ad 7), .ref (ad x1), .ref (ad x2)] (zs_U 0 D cA ad A σ)) (zs_Qi 0 D cA ad A q) 0 0 A := by
  refine Met.ofW (cc := prog_6_method_2_code) (maxL := 4) (ret := (some .int)) (by decide) rfl ?_
  intro p e s m args below meth c s₁ B hml hv
  obtain ⟨hargs, hP, hK, hD, hZ⟩ := hv
  have G : zs_G 0 p s m args c prog_6_method_2_code 4 "ScheduleCheck$Parser" D cA ad A := ⟨⟨B.exec, B.bytes, hml, findClass_of_methodNamed B.named, fun w h => atoms_spec B.pre w (List.mem_cons_of_mem _ h)⟩, hK, hJ, hZ⟩
  have hw : zs_I 0 D cA ad A s σ s.heap [] := ⟨hP, hD, va_S.rf⟩
  have hx := G.1.1
  have hb := G.1.2.1
  have hown := G.1.2.2.2.1
  have hts := G.1.2.2.2.2
  have hr := B.returns
  have hlocks := B.notSynchronized
  have he : entryFrame m args 4 = F0 m 0 ((lg_sl [.ref (ad 7), .ref (ad x1), .ref (ad x2)] ++ List.replicate (4 - (lg_sl [.ref (ad 7), .ref (ad x1), .ref (ad x2)]).length) Slot.unset).toArray) [] := by rw [hargs]; exact lg_entry_eq m _ 4
  have hl := lv_entry [.ref (ad 7), .ref (ad x1), .ref (ad x2)] (n := 4) (Nat.le_of_ble_eq_true rfl)
  rw [he]
  generalize (lg_sl [.ref (ad 7), .ref (ad x1), .ref (ad x2)] ++ List.replicate (4 - (lg_sl [.ref (ad 7), .ref (ad x1), .ref (ad x2)]).length) Slot.unset).toArray = ls at hl
  have hl : lv_has ls 4 [(0, .ref (ad 7)), (1, .ref (ad x1)), (2, .ref (ad x2))] := hl
  obtain ⟨RR, hR⟩ : ∃ z, z = (headSpec (.code y_Parser_parse prog_6_method_2_code 4 (some .int) :: zd_ww) { frames := 730, cells := 0, slots := 0, locals := 18189 }).room := ⟨_, rfl⟩
  rw [← hR]
  obtain ⟨QQ, hQ⟩ : ∃ z, z = MQ below (zs_Qi 0 D cA ad A q) args s 0 0 A := ⟨_, rfl⟩
  rw [← hQ]
  have hR1 : 730 ≤ RR.frames := by rw [hR]; exact Nat.le_refl _
  have hR2 : 18189 ≤ RR.locals := by rw [hR]; exact Nat.le_refl _
  generalize s.heap = H at hw ⊢
  generalize ([] : List Loc) = locs at hw ⊢
  have K111 : ∀ (σ : zs_S) (H : Heap) (locs : List Loc) (ls : Array Slot), zf_Parser_parse_111 F σ = some q → zs_I 0 D cA ad A s σ H locs → lv_has ls 4 [(0, .ref (ad 7))] → W p l e RR s m args below meth c H locs 0 0 QQ (F0 m 111 ls []) := by
    intro   σ H locs ls hf hw hl
    unfold zf_Parser_parse_111 at hf
    refine lv_aload_n hx hb d_Parser_parse_111 rfl (lv_at hl 0 rfl) ?_
    refine zr_get (ci := 2) G hw 7 8 zi_2 rfl rfl rfl (by decide) zm_258 (fun _ h => h) (v := .int (zs_i σ 7 8)) rfl d_Parser_parse_112 ?_
    exact zr_iret G hw hr hlocks hf hQ d_Parser_parse_115
  have K95 : ∀ (σ : zs_S) (H : Heap) (locs : List Loc) (ls : Array Slot), zf_Parser_parse_95 F σ = some q → zs_I 0 D cA ad A s σ H locs → lv_has ls 4 [(0, .ref (ad 7))] → W p l e RR s m args below meth c H locs 0 0 QQ (F0 m 95 ls []) := by
    intro   σ H locs ls hf hw hl
    unfold zf_Parser_parse_95 at hf
    refine lv_aload_n hx hb d_Parser_parse_95 rfl (lv_at hl 0 rfl) ?_
    refine zr_get (ci := 2) G hw 7 8 zi_2 rfl rfl rfl (by decide) zm_258 (fun _ h => h) (v := .int (zs_i σ 7 8)) rfl d_Parser_parse_96 ?_
    refine lv_bipush (v := (-2)) hx hb d_Parser_parse_99 (by decide) ?_
    refine lv_icmp_ne hx hb d_Parser_parse_101 (tgt := 111) rfl (fun hc => ?_) (fun hc => ?_)
    · have hf := (if_neg hc).symm.trans hf
      exact K111 σ H locs ls hf hw (lv_sub hl [0] rfl)
    · have hf := (if_pos hc).symm.trans hf
      refine lv_aload_n hx hb d_Parser_parse_104 rfl (lv_at hl 0 rfl) ?_
      obtain ⟨q37, e_q37, h_q37, hf⟩ := zq_qs hf
      refine zr_get (ci := 2) G hw 7 7 zi_2 rfl rfl rfl (by decide) zm_290 (fun _ h => h) (v := .ref (ad q37)) (zs_fr rfl e_q37 h_q37) d_Parser_parse_105 ?_
      obtain ⟨hs41, hf⟩ := zq_gs hf
      have hs41 := zq_ks hs41
      obtain ⟨σ38, hc40, hf⟩ := zq_ds hf
      refine zr_cv hw (zr_runV (rest := []) (ci := 5) (o := q37) G hw [] (zc_Program_settleWays hJ hc40) (cwV 0 hts (zs_gV zm_440 zm_441 zm_442 zm_116 zm_439) rfl rfl rfl (by decide +kernel) ⟨Nat.le_trans (by decide) hR1, Nat.le_trans (by decide) hR2⟩) hs41 rfl rfl hl.1 (Nat.le_of_ble_eq_true rfl) d_Parser_parse_108 ⟨Nat.zero_le _, Nat.zero_le _⟩) (fun H locs hw => ?_)
      exact K111 σ38 H locs ls hf hw (lv_sub hl [0] rfl)
  have K81 : ∀ (σ : zs_S) (H : Heap) (locs : List Loc) (ls : Array Slot), zf_Parser_parse_81 F σ = some q → zs_I 0 D cA ad A s σ H locs → lv_has ls 4 [(0, .ref (ad 7))] → W p l e RR s m args below meth c H locs 0 0 QQ (F0 m 81 ls []) := by
    intro   σ H locs ls hf hw hl
    unfold zf_Parser_parse_81 at hf
    refine lv_aload_n hx hb d_Parser_parse_81 rfl (lv_at hl 0 rfl) ?_
    obtain ⟨q32, e_q32, h_q32, hf⟩ := zq_qs hf
    refine zr_get (ci := 2) G hw 7 6 zi_2 rfl rfl rfl (by decide) zm_263 (fun _ h => h) (v := .ref (ad q32)) (zs_fr rfl e_q32 h_q32) d_Parser_parse_82 ?_
    refine va_gets (C := "ScheduleCheck$Token") (n := "END") (d := "LScheduleCheck$Token;") (v := .ref (ad 1000)) hx hb ((G.2.2.2.1 rfl).1.1 0 (by decide)).1 hw.2.2 hown (hts _ zm_438) (fun _ h => h) d_Parser_parse_85 ?_
    obtain ⟨hm33, hf⟩ := zq_gs hf
    refine zr_aeq G (of_decide_eq_true hm33) (by decide) d_Parser_parse_88 (tgt := 95) rfl (fun hc => ?_) (fun hc => ?_)
    · have hf := (if_pos hc).symm.trans hf
      exact K95 σ H locs ls hf hw (lv_sub hl [0] rfl)
    · have hf := (if_neg hc).symm.trans hf
      refine lv_aload_n hx hb d_Parser_parse_91 rfl (lv_at hl 0 rfl) ?_
      obtain ⟨σ34, hc36, hf⟩ := zq_ds hf
      refine zr_cv hw (zr_runV (rest := []) (ci := 2) (o := 7) G hw [] (zc_Parser_fail hJ hc36) (cwV 0 hts (zs_gV zm_266 zm_267 zm_268 zm_269 zm_265) rfl rfl rfl (by decide +kernel) ⟨Nat.le_trans (by decide) hR1, Nat.le_trans (by decide) hR2⟩) rfl rfl rfl hl.1 (Nat.le_of_ble_eq_true rfl) d_Parser_parse_92 ⟨Nat.zero_le _, Nat.zero_le _⟩) (fun H locs hw => ?_)
      exact K95 σ34 H locs ls hf hw (lv_sub hl [0] rfl)
  have K56 : ∀ (n : Nat) (x3 : Int32) (σ : zs_S) (H : Heap) (locs : List Loc) (ls : Array Slot), zf_Parser_parse_56 F n x3 σ = some q → zs_I 0 D cA ad A s σ H locs → lv_has ls 4 [(0, .ref (ad 7)), (3, .int x3)] → W p l e RR s m args below meth c H locs 0 0 QQ (F0 m 56 ls []) := by
    intro  n
    induction n with
    | zero => intro x3 σ H locs ls hf hw hl; exact nomatch (show (none : Option (Int32 × zs_S)) = some q from hf)
    | succ n ih =>
      intro x3 σ H locs ls hf hw hl
      rw [zf_Parser_parse_56] at hf
      refine lv_iload_n hx hb d_Parser_parse_56 rfl (lv_at hl 1 rfl) ?_
      refine lv_iconst (v := 4) hx hb d_Parser_parse_57 (by decide) ?_
      refine lv_icmp_ge hx hb d_Parser_parse_58 (tgt := 81) rfl (fun hc => ?_) (fun hc => ?_)
      · have hf := (if_pos hc).symm.trans hf
        exact K81 σ H locs ls hf hw (lv_sub hl [0] rfl)
      · have hf := (if_neg hc).symm.trans hf
        refine lv_aload_n hx hb d_Parser_parse_61 rfl (lv_at hl 0 rfl) ?_
        obtain ⟨q26, e_q26, h_q26, hf⟩ := zq_qs hf
        refine zr_get (ci := 2) G hw 7 6 zi_2 rfl rfl rfl (by decide) zm_263 (fun _ h => h) (v := .ref (ad q26)) (zs_fr rfl e_q26 h_q26) d_Parser_parse_62 ?_
        refine va_gets (C := "ScheduleCheck$Token") (n := "THREAD") (d := "LScheduleCheck$Token;") (v := .ref (ad 1007)) hx hb ((G.2.2.2.1 rfl).1.1 7 (by decide)).1 hw.2.2 hown (hts _ zm_419) (fun _ h => h) d_Parser_parse_65 ?_
        obtain ⟨hm27, hf⟩ := zq_gs hf
        refine zr_ane G (of_decide_eq_true hm27) (by decide) d_Parser_parse_68 (tgt := 81) rfl (fun hc => ?_) (fun hc => ?_)
        · have hf := (if_neg hc).symm.trans hf
          exact K81 σ H locs ls hf hw (lv_sub hl [0] rfl)
        · have hf := (if_pos hc).symm.trans hf
          refine lv_aload_n hx hb d_Parser_parse_71 rfl (lv_at hl 0 rfl) ?_
          obtain ⟨σ28, hc30, hf⟩ := zq_ds hf
          refine zr_cv hw (zr_runV (rest := []) (ci := 2) (o := 7) G hw [] (zc_Parser_readThread hJ hc30) (cwV 0 hts (zs_gV zm_435 zm_436 zm_437 zm_269 zm_434) rfl rfl rfl (by decide +kernel) ⟨Nat.le_trans (by decide) hR1, Nat.le_trans (by decide) hR2⟩) rfl rfl rfl hl.1 (Nat.le_of_ble_eq_true rfl) d_Parser_parse_72 ⟨Nat.zero_le _, Nat.zero_le _⟩) (fun H locs hw => ?_)
          obtain ⟨v31, e_v31, hf⟩ := zq_ss hf
          refine lv_iinc (v := v31) hx hb d_Parser_parse_75 hl (k := 1) rfl (zq_inc (k := 1) (by decide) e_v31) (by decide) rfl (fun ls hl => ?_)
          have hl : lv_has ls 4 [(3, .int v31), (0, .ref (ad 7))] := hl
          refine lv_goto hx hb d_Parser_parse_78 (tgt := 56) rfl ?_
          exact ih v31 σ28 H locs ls hf hw (lv_sub hl [1, 0] rfl)
  unfold zf_Parser_parse at hf
  refine lv_aload_n hx hb d_Parser_parse_0 rfl (lv_at hl 0 rfl) ?_
  refine lv_aload_n hx hb d_Parser_parse_1 rfl (lv_at hl 1 rfl) ?_
  obtain ⟨hn2, hf⟩ := zq_gs hf
  have hn2 := zq_ns hn2
  obtain ⟨σ1, e_σ1, hf⟩ := zq_ss hf
  refine zr_putr (ci := 2) G hw 7 4 zi_2 t_zd2 t_zd2_ok n_zd2 rfl rfl rfl (by decide) rfl zm_259 (fun _ h => h) rfl (x := x1) hn2 (t_zd2_ok 4 (by decide)) rfl rfl d_Parser_parse_2 (fun H locs hw => ?_)
  rw [← e_σ1] at hw
  refine lv_aload_n hx hb d_Parser_parse_5 rfl (lv_at hl 0 rfl) ?_
  refine lv_iconst (v := 0) hx hb d_Parser_parse_6 (by decide) ?_
  obtain ⟨σ3, e_σ3, hf⟩ := zq_ss hf
  refine zr_puti (ci := 2) G hw 7 5 zi_2 t_zd2 t_zd2_ok n_zd2 rfl rfl rfl (by decide) rfl zm_261 (fun _ h => h) rfl (x := 0) (t_zd2_ok 5 (by decide)) rfl rfl d_Parser_parse_7 (fun H locs hw => ?_)
  rw [← e_σ3] at hw
  refine lv_aload_n hx hb d_Parser_parse_10 rfl (lv_at hl 0 rfl) ?_
  refine lv_aload_n hx hb d_Parser_parse_11 rfl (lv_at hl 0 rfl) ?_
  obtain ⟨q4, e_q4, h_q4, hf⟩ := zq_qs hf
  refine zr_get (ci := 2) G hw 7 4 zi_2 rfl rfl rfl (by decide) zm_259 (fun _ h => h) (v := .ref (ad q4)) (zs_fr rfl e_q4 h_q4) d_Parser_parse_12 ?_
  obtain ⟨hs5, hf⟩ := zq_gs hf
  have hs5 := zq_ks hs5
  obtain ⟨q6, e_q6, h_q6, hf⟩ := zq_qs hf
  refine zr_get (ci := 1) G hw q4 0 zi_1 hs5 rfl rfl (by decide) zm_264 (fun _ h => h) (v := .ref (ad q6)) (zs_fs rfl e_q6 h_q6) d_Parser_parse_15 ?_
  refine lv_iconst (v := 0) hx hb d_Parser_parse_18 (by decide) ?_
  obtain ⟨hs7, hf⟩ := zq_gs hf
  have hs7 := zq_ks hs7
  obtain ⟨hi8, hf⟩ := zq_gs hf
  obtain ⟨q9, e_q9, h_q9, hf⟩ := zq_qs hf
  refine zr_aald G hw q6 hs7 rfl hi8 (by rw [← e_q9]; exact h_q9) d_Parser_parse_19 ?_
  rw [← e_q9]
  obtain ⟨σ10, e_σ10, hf⟩ := zq_ss hf
  refine zr_putr (ci := 2) G hw 7 6 zi_2 t_zd2 t_zd2_ok n_zd2 rfl rfl rfl (by decide) rfl zm_263 (fun _ h => h) rfl (x := q9) h_q9 (t_zd2_ok 6 (by decide)) rfl rfl d_Parser_parse_20 (fun H locs hw => ?_)
  rw [← e_σ10] at hw
  refine lv_aload_n hx hb d_Parser_parse_23 rfl (lv_at hl 0 rfl) ?_
  refine lv_aload_n hx hb d_Parser_parse_24 rfl (lv_at hl 2 rfl) ?_
  obtain ⟨hn12, hf⟩ := zq_gs hf
  have hn12 := zq_ns hn12
  obtain ⟨σ11, e_σ11, hf⟩ := zq_ss hf
  refine zr_putr (ci := 2) G hw 7 7 zi_2 t_zd2 t_zd2_ok n_zd2 rfl rfl rfl (by decide) rfl zm_290 (fun _ h => h) rfl (x := x2) hn12 (t_zd2_ok 7 (by decide)) rfl rfl d_Parser_parse_25 (fun H locs hw => ?_)
  rw [← e_σ11] at hw
  refine lv_aload_n hx hb d_Parser_parse_28 rfl (lv_at hl 0 rfl) ?_
  obtain ⟨q13, e_q13, h_q13, hf⟩ := zq_qs hf
  refine zr_get (ci := 2) G hw 7 7 zi_2 rfl rfl rfl (by decide) zm_290 (fun _ h => h) (v := .ref (ad q13)) (zs_fr rfl e_q13 h_q13) d_Parser_parse_29 ?_
  obtain ⟨hs17, hf⟩ := zq_gs hf
  have hs17 := zq_ks hs17
  obtain ⟨σ14, hc16, hf⟩ := zq_ds hf
  refine zr_cv hw (zr_runV (rest := []) (ci := 5) (o := q13) G hw [] (zc_Program_clear hJ hc16) (cwV 0 hts (zs_gV zm_427 zm_428 zm_429 zm_116 zm_426) rfl rfl rfl (by decide +kernel) ⟨Nat.le_trans (by decide) hR1, Nat.le_trans (by decide) hR2⟩) hs17 rfl rfl hl.1 (Nat.le_of_ble_eq_true rfl) d_Parser_parse_32 ⟨Nat.zero_le _, Nat.zero_le _⟩) (fun H locs hw => ?_)
  refine lv_aload_n hx hb d_Parser_parse_35 rfl (lv_at hl 0 rfl) ?_
  refine lv_bipush (v := (-2)) hx hb d_Parser_parse_36 (by decide) ?_
  obtain ⟨σ18, e_σ18, hf⟩ := zq_ss hf
  refine zr_puti (ci := 2) G hw 7 8 zi_2 t_zd2 t_zd2_ok n_zd2 rfl rfl rfl (by decide) rfl zm_258 (fun _ h => h) rfl (x := ((-2))) (t_zd2_ok 8 (by decide)) rfl rfl d_Parser_parse_38 (fun H locs hw => ?_)
  rw [← e_σ18] at hw
  refine lv_aload_n hx hb d_Parser_parse_41 rfl (lv_at hl 0 rfl) ?_
  refine lv_iconst (v := 0) hx hb d_Parser_parse_42 (by decide) ?_
  obtain ⟨σ19, e_σ19, hf⟩ := zq_ss hf
  refine zr_puti (ci := 2) G hw 7 9 zi_2 t_zd2 t_zd2_ok n_zd2 rfl rfl rfl (by decide) rfl zm_324 (fun _ h => h) rfl (x := 0) (t_zd2_ok 9 (by decide)) rfl rfl d_Parser_parse_43 (fun H locs hw => ?_)
  rw [← e_σ19] at hw
  refine lv_aload_n hx hb d_Parser_parse_46 rfl (lv_at hl 0 rfl) ?_
  obtain ⟨σ20, hc22, hf⟩ := zq_ds hf
  refine zr_cv hw (zr_runV (rest := []) (ci := 2) (o := 7) G hw [] (zc_Parser_readDeclarations hJ hc22) (cwV 0 hts (zs_gV zm_431 zm_432 zm_433 zm_269 zm_430) rfl rfl rfl (by decide +kernel) ⟨Nat.le_trans (by decide) hR1, Nat.le_trans (by decide) hR2⟩) rfl rfl rfl hl.1 (Nat.le_of_ble_eq_true rfl) d_Parser_parse_47 ⟨Nat.zero_le _, Nat.zero_le _⟩) (fun H locs hw => ?_)
  refine lv_aload_n hx hb d_Parser_parse_50 rfl (lv_at hl 0 rfl) ?_
  obtain ⟨σ23, hc25, hf⟩ := zq_ds hf
  refine zr_cv hw (zr_runV (rest := []) (ci := 2) (o := 7) G hw [] (zc_Parser_readThread hJ hc25) (cwV 0 hts (zs_gV zm_435 zm_436 zm_437 zm_269 zm_434) rfl rfl rfl (by decide +kernel) ⟨Nat.le_trans (by decide) hR1, Nat.le_trans (by decide) hR2⟩) rfl rfl rfl hl.1 (Nat.le_of_ble_eq_true rfl) d_Parser_parse_51 ⟨Nat.zero_le _, Nat.zero_le _⟩) (fun H locs hw => ?_)
  refine lv_iconst (v := 0) hx hb d_Parser_parse_54 (by decide) ?_
  refine lv_istore_n hx hb d_Parser_parse_55 rfl hl (by decide) rfl (fun ls hl => ?_)
  have hl : lv_has ls 4 [(3, .int 0), (0, .ref (ad 7)), (1, .ref (ad x1)), (2, .ref (ad x2))] := hl
  exact K56 F 0 σ23 H locs ls hf hw (lv_sub hl [1, 0] rfl)
/-! ScheduleCheck.check -/
def y_S_check : MethodName := ⟨"ScheduleCheck","check","()I"⟩
theorem d_S_check_0 : decode prog_1_method_5_code 0 = .ok (.aload_n 0, 1) := by decide +kernel
theorem d_S_check_1 : decode prog_1_method_5_code 1 = .ok (.getfield 16, 3) := by decide +kernel
theorem d_S_check_4 : decode prog_1_method_5_code 4 = .ok (.aload_n 0, 1) := by decide +kernel
theorem d_S_check_5 : decode prog_1_method_5_code 5 = .ok (.getfield 9, 3) := by decide +kernel
theorem d_S_check_8 : decode prog_1_method_5_code 8 = .ok (.aload_n 0, 1) := by decide +kernel
theorem d_S_check_9 : decode prog_1_method_5_code 9 = .ok (.getfield 56, 3) := by decide +kernel
theorem d_S_check_12 : decode prog_1_method_5_code 12 = .ok (.invokevirtual 64, 3) := by decide +kernel
theorem d_S_check_15 : decode prog_1_method_5_code 15 = .ok (.aload_n 0, 1) := by decide +kernel
theorem d_S_check_16 : decode prog_1_method_5_code 16 = .ok (.iconst 0, 1) := by decide +kernel
theorem d_S_check_17 : decode prog_1_method_5_code 17 = .ok (.putfield 56, 3) := by decide +kernel
theorem d_S_check_20 : decode prog_1_method_5_code 20 = .ok (.aload_n 0, 1) := by decide +kernel
theorem d_S_check_21 : decode prog_1_method_5_code 21 = .ok (.getfield 23, 3) := by decide +kernel
theorem d_S_check_24 : decode prog_1_method_5_code 24 = .ok (.aload_n 0, 1) := by decide +kernel
theorem d_S_check_25 : decode prog_1_method_5_code 25 = .ok (.getfield 16, 3) := by decide +kernel
theorem d_S_check_28 : decode prog_1_method_5_code 28 = .ok (.aload_n 0, 1) := by decide +kernel
theorem d_S_check_29 : decode prog_1_method_5_code 29 = .ok (.getfield 41, 3) := by decide +kernel
theorem d_S_check_32 : decode prog_1_method_5_code 32 = .ok (.invokevirtual 68, 3) := by decide +kernel
theorem d_S_check_35 : decode prog_1_method_5_code 35 = .ok (.istore_n 1, 1) := by decide +kernel
theorem d_S_check_36 : decode prog_1_method_5_code 36 = .ok (.iload_n 1, 1) := by decide +kernel
theorem d_S_check_37 : decode prog_1_method_5_code 37 = .ok (.bipush (-2), 2) := by decide +kernel
theorem d_S_check_39 : decode prog_1_method_5_code 39 = .ok (.if_icmp .eq 5, 3) := by decide +kernel
theorem d_S_check_42 : decode prog_1_method_5_code 42 = .ok (.iload_n 1, 1) := by decide +kernel
theorem d_S_check_43 : decode prog_1_method_5_code 43 = .ok (.ireturn, 1) := by decide +kernel
theorem d_S_check_44 : decode prog_1_method_5_code 44 = .ok (.aload_n 0, 1) := by decide +kernel
theorem d_S_check_45 : decode prog_1_method_5_code 45 = .ok (.getfield 41, 3) := by decide +kernel
theorem d_S_check_48 : decode prog_1_method_5_code 48 = .ok (.astore_n 2, 1) := by decide +kernel
theorem d_S_check_49 : decode prog_1_method_5_code 49 = .ok (.aload_n 0, 1) := by decide +kernel
theorem d_S_check_50 : decode prog_1_method_5_code 50 = .ok (.aload_n 0, 1) := by decide +kernel
theorem d_S_check_51 : decode prog_1_method_5_code 51 = .ok (.getfield 37, 3) := by decide +kernel
theorem d_S_check_54 : decode prog_1_method_5_code 54 = .ok (.putfield 41, 3) := by decide +kernel
theorem d_S_check_57 : decode prog_1_method_5_code 57 = .ok (.aload_n 0, 1) := by decide +kernel
theorem d_S_check_58 : decode prog_1_method_5_code 58 = .ok (.aload_n 2, 1) := by decide +kernel
theorem d_S_check_59 : decode prog_1_method_5_code 59 = .ok (.putfield 37, 3) := by decide +kernel
theorem d_S_check_62 : decode prog_1_method_5_code 62 = .ok (.aload_n 0, 1) := by decide +kernel
theorem d_S_check_63 : decode prog_1_method_5_code 63 = .ok (.getfield 49, 3) := by decide +kernel
theorem d_S_check_66 : decode prog_1_method_5_code 66 = .ok (.aload_n 0, 1) := by decide +kernel
theorem d_S_check_67 : decode prog_1_method_5_code 67 = .ok (.getfield 37, 3) := by decide +kernel
theorem d_S_check_70 : decode prog_1_method_5_code 70 = .ok (.invokevirtual 72, 3) := by decide +kernel
theorem d_S_check_73 : decode prog_1_method_5_code 73 = .ok (.ifCond .eq 6, 3) := by decide +kernel
theorem d_S_check_76 : decode prog_1_method_5_code 76 = .ok (.bipush (-2), 2) := by decide +kernel
theorem d_S_check_78 : decode prog_1_method_5_code 78 = .ok (.ireturn, 1) := by decide +kernel
theorem d_S_check_79 : decode prog_1_method_5_code 79 = .ok (.aload_n 0, 1) := by decide +kernel
theorem d_S_check_80 : decode prog_1_method_5_code 80 = .ok (.getfield 37, 3) := by decide +kernel
theorem d_S_check_83 : decode prog_1_method_5_code 83 = .ok (.invokevirtual 76, 3) := by decide +kernel
theorem d_S_check_86 : decode prog_1_method_5_code 86 = .ok (.aload_n 0, 1) := by decide +kernel
theorem d_S_check_87 : decode prog_1_method_5_code 87 = .ok (.getfield 30, 3) := by decide +kernel
theorem d_S_check_90 : decode prog_1_method_5_code 90 = .ok (.invokevirtual 79, 3) := by decide +kernel
theorem d_S_check_93 : decode prog_1_method_5_code 93 = .ok (.bipush (-3), 2) := by decide +kernel
theorem d_S_check_95 : decode prog_1_method_5_code 95 = .ok (.ireturn, 1) := by decide +kernel
def zf_S_check (F : Nat)  (σ : zs_S) : Option (Int32 × zs_S) :=
  zq_d (zf_Tokens_split F 2 (zs_i σ 1 1) σ) fun σ1 =>
  zq_v (zs_wi σ1 1 1 0) fun σ4 =>
  zq_q (zs_r σ4 1 7) fun q5 =>
  zq_c (zf_Parser_parse F 3 q5 σ4) fun r7 σ6 =>
  if r7 = ((-2)) then (
    zq_q (zs_r σ6 1 7) fun q9 =>
    zq_q (zs_r σ6 1 6) fun q10 =>
    zq_g (zq_n q10) <|
    zq_v (zs_wr σ6 1 7 q10) fun σ11 =>
    zq_g (zq_n q9) <|
    zq_v (zs_wr σ11 1 6 q9) fun σ13 =>
    zq_q (zs_r σ13 1 6) fun q15 =>
    zq_c (zf_Explorer_explore F q15 σ13) fun r17 σ16 =>
    if r17 = 0 then (
      zq_q (zs_r σ16 1 6) fun q19 =>
      zq_g (zq_k 0 q19 15) <|
      zq_d (zf_Program_clear F q19 σ16) fun σ20 =>
      zq_d (zf_States_clear F σ20) fun σ24 =>
      some ((-3), σ24)
    ) else (
      some ((-2), σ16)
    )
  ) else (
    some (r7, σ6)
  )
set_option maxHeartbeats 4000000 in
set_option maxRecDepth 100000 in
theorem zc_S_check {l : Launch} {D : va_G} {cA : Nat → ClassId} {ad : Nat → Nat} {A : Nat → Prop} {F : Nat}  {σ : zs_S} {q : Int32 × zs_S} (hJ : zs_J ad) (hf : zf_S_check F  σ = some q) : Met l y_S_check (.code y_S_check prog_1_method_5_code 3 (some .int) :: zd_ww) { frames := 731, cells := 0, slots := 0, locals := 18212 } (va_Pc [.ref (ad 1)] (zs_U 0 D cA ad A σ)) (zs_Qi 0 D cA ad A q) 0 0 A := by
  refine Met.ofW (cc := prog_1_method_5_code) (maxL := 3) (ret := (some .int)) (by decide) rfl ?_
  intro p e s m args below meth c s₁ B hml hv
  obtain ⟨hargs, hP, hK, hD, hZ⟩ := hv
  have G : zs_G 0 p s m args c prog_1_method_5_code 3 "ScheduleCheck" D cA ad A := ⟨⟨B.exec, B.bytes, hml, findClass_of_methodNamed B.named, fun w h => atoms_spec B.pre w (List.mem_cons_of_mem _ h)⟩, hK, hJ, hZ⟩
  have hw : zs_I 0 D cA ad A s σ s.heap [] := ⟨hP, hD, va_S.rf⟩
  have hx := G.1.1
  have hb := G.1.2.1
  have hown := G.1.2.2.2.1
  have hts := G.1.2.2.2.2
  have hr := B.returns
  have hlocks := B.notSynchronized
  have he : entryFrame m args 3 = F0 m 0 ((lg_sl [.ref (ad 1)] ++ List.replicate (3 - (lg_sl [.ref (ad 1)]).length) Slot.unset).toArray) [] := by rw [hargs]; exact lg_entry_eq m _ 3
  have hl := lv_entry [.ref (ad 1)] (n := 3) (Nat.le_of_ble_eq_true rfl)
  rw [he]
  generalize (lg_sl [.ref (ad 1)] ++ List.replicate (3 - (lg_sl [.ref (ad 1)]).length) Slot.unset).toArray = ls at hl
  have hl : lv_has ls 3 [(0, .ref (ad 1))] := hl
  obtain ⟨RR, hR⟩ : ∃ z, z = (headSpec (.code y_S_check prog_1_method_5_code 3 (some .int) :: zd_ww) { frames := 731, cells := 0, slots := 0, locals := 18212 }).room := ⟨_, rfl⟩
  rw [← hR]
  obtain ⟨QQ, hQ⟩ : ∃ z, z = MQ below (zs_Qi 0 D cA ad A q) args s 0 0 A := ⟨_, rfl⟩
  rw [← hQ]
  have hR1 : 731 ≤ RR.frames := by rw [hR]; exact Nat.le_refl _
  have hR2 : 18212 ≤ RR.locals := by rw [hR]; exact Nat.le_refl _
  generalize s.heap = H at hw ⊢
  generalize ([] : List Loc) = locs at hw ⊢
  unfold zf_S_check at hf
  refine lv_aload_n hx hb d_S_check_0 rfl (lv_at hl 0 rfl) ?_
  refine zr_get (ci := 0) G hw 1 2 zi_0 rfl rfl rfl (by decide) zm_443 (fun _ h => h) (v := .ref (ad 3)) rfl d_S_check_1 ?_
  refine lv_aload_n hx hb d_S_check_4 rfl (lv_at hl 0 rfl) ?_
  refine zr_get (ci := 0) G hw 1 0 zi_0 rfl rfl rfl (by decide) zm_444 (fun _ h => h) (v := .ref (ad 2)) rfl d_S_check_5 ?_
  refine lv_aload_n hx hb d_S_check_8 rfl (lv_at hl 0 rfl) ?_
  refine zr_get (ci := 0) G hw 1 1 zi_0 rfl rfl rfl (by decide) zm_445 (fun _ h => h) (v := .int (zs_i σ 1 1)) rfl d_S_check_9 ?_
  obtain ⟨σ1, hc3, hf⟩ := zq_ds hf
  refine zr_cv hw (zr_runV (rest := []) (ci := 1) (o := 3) G hw [.ref (ad 2), .int (zs_i σ 1 1)] (zc_Tokens_split hJ hc3) (cwV 2 hts (zs_gV zm_447 zm_448 zm_449 zm_65 zm_446) rfl rfl rfl (by decide +kernel) ⟨Nat.le_trans (by decide) hR1, Nat.le_trans (by decide) hR2⟩) rfl rfl rfl hl.1 (Nat.le_of_ble_eq_true rfl) d_S_check_12 ⟨Nat.zero_le _, Nat.zero_le _⟩) (fun H locs hw => ?_)
  refine lv_aload_n hx hb d_S_check_15 rfl (lv_at hl 0 rfl) ?_
  refine lv_iconst (v := 0) hx hb d_S_check_16 (by decide) ?_
  obtain ⟨σ4, e_σ4, hf⟩ := zq_ss hf
  refine zr_puti (ci := 0) G hw 1 1 zi_0 t_zd0 t_zd0_ok n_zd0 rfl rfl rfl (by decide) rfl zm_445 (fun _ h => h) rfl (x := 0) (t_zd0_ok 1 (by decide)) rfl rfl d_S_check_17 (fun H locs hw => ?_)
  rw [← e_σ4] at hw
  refine lv_aload_n hx hb d_S_check_20 rfl (lv_at hl 0 rfl) ?_
  refine zr_get (ci := 0) G hw 1 3 zi_0 rfl rfl rfl (by decide) zm_450 (fun _ h => h) (v := .ref (ad 7)) rfl d_S_check_21 ?_
  refine lv_aload_n hx hb d_S_check_24 rfl (lv_at hl 0 rfl) ?_
  refine zr_get (ci := 0) G hw 1 2 zi_0 rfl rfl rfl (by decide) zm_443 (fun _ h => h) (v := .ref (ad 3)) rfl d_S_check_25 ?_
  refine lv_aload_n hx hb d_S_check_28 rfl (lv_at hl 0 rfl) ?_
  obtain ⟨q5, e_q5, h_q5, hf⟩ := zq_qs hf
  refine zr_get (ci := 0) G hw 1 7 zi_0 rfl rfl rfl (by decide) zm_451 (fun _ h => h) (v := .ref (ad q5)) (zs_fr rfl e_q5 h_q5) d_S_check_29 ?_
  obtain ⟨r7, σ6, hc8, hf⟩ := zq_cs hf
  refine zr_ci hw (zr_runV (rest := []) (ci := 2) (o := 7) G hw [.ref (ad 3), .ref (ad q5)] (zc_Parser_parse hJ hc8) (cwV 2 hts (zs_gV zm_453 zm_454 zm_455 zm_269 zm_452) rfl rfl rfl (by decide +kernel) ⟨Nat.le_trans (by decide) hR1, Nat.le_trans (by decide) hR2⟩) rfl rfl rfl hl.1 (Nat.le_of_ble_eq_true rfl) d_S_check_32 ⟨Nat.zero_le _, Nat.zero_le _⟩) (fun H locs hw => ?_)
  refine lv_istore_n hx hb d_S_check_35 rfl hl (by decide) rfl (fun ls hl => ?_)
  have hl : lv_has ls 3 [(1, .int r7), (0, .ref (ad 1))] := hl
  refine lv_iload_n hx hb d_S_check_36 rfl (lv_at hl 0 rfl) ?_
  refine lv_bipush (v := (-2)) hx hb d_S_check_37 (by decide) ?_
  refine lv_icmp_eq hx hb d_S_check_39 (tgt := 44) rfl (fun hc => ?_) (fun hc => ?_)
  · have hf := (if_pos hc).symm.trans hf
    refine lv_aload_n hx hb d_S_check_44 rfl (lv_at hl 1 rfl) ?_
    obtain ⟨q9, e_q9, h_q9, hf⟩ := zq_qs hf
    refine zr_get (ci := 0) G hw 1 7 zi_0 rfl rfl rfl (by decide) zm_451 (fun _ h => h) (v := .ref (ad q9)) (zs_fr rfl e_q9 h_q9) d_S_check_45 ?_
    refine lv_astore_n hx hb d_S_check_48 rfl hl (by decide) rfl (fun ls hl => ?_)
    have hl : lv_has ls 3 [(2, .ref (ad q9)), (1, .int r7), (0, .ref (ad 1))] := hl
    refine lv_aload_n hx hb d_S_check_49 rfl (lv_at hl 2 rfl) ?_
    refine lv_aload_n hx hb d_S_check_50 rfl (lv_at hl 2 rfl) ?_
    obtain ⟨q10, e_q10, h_q10, hf⟩ := zq_qs hf
    refine zr_get (ci := 0) G hw 1 6 zi_0 rfl rfl rfl (by decide) zm_456 (fun _ h => h) (v := .ref (ad q10)) (zs_fr rfl e_q10 h_q10) d_S_check_51 ?_
    obtain ⟨hn12, hf⟩ := zq_gs hf
    have hn12 := zq_ns hn12
    obtain ⟨σ11, e_σ11, hf⟩ := zq_ss hf
    refine zr_putr (ci := 0) G hw 1 7 zi_0 t_zd0 t_zd0_ok n_zd0 rfl rfl rfl (by decide) rfl zm_451 (fun _ h => h) rfl (x := q10) hn12 (t_zd0_ok 7 (by decide)) rfl rfl d_S_check_54 (fun H locs hw => ?_)
    rw [← e_σ11] at hw
    refine lv_aload_n hx hb d_S_check_57 rfl (lv_at hl 2 rfl) ?_
    refine lv_aload_n hx hb d_S_check_58 rfl (lv_at hl 0 rfl) ?_
    obtain ⟨hn14, hf⟩ := zq_gs hf
    have hn14 := zq_ns hn14
    obtain ⟨σ13, e_σ13, hf⟩ := zq_ss hf
    refine zr_putr (ci := 0) G hw 1 6 zi_0 t_zd0 t_zd0_ok n_zd0 rfl rfl rfl (by decide) rfl zm_456 (fun _ h => h) rfl (x := q9) hn14 (t_zd0_ok 6 (by decide)) rfl rfl d_S_check_59 (fun H locs hw => ?_)
    rw [← e_σ13] at hw
    refine lv_aload_n hx hb d_S_check_62 rfl (lv_at hl 2 rfl) ?_
    refine zr_get (ci := 0) G hw 1 5 zi_0 rfl rfl rfl (by decide) zm_457 (fun _ h => h) (v := .ref (ad 138)) rfl d_S_check_63 ?_
    refine lv_aload_n hx hb d_S_check_66 rfl (lv_at hl 2 rfl) ?_
    obtain ⟨q15, e_q15, h_q15, hf⟩ := zq_qs hf
    refine zr_get (ci := 0) G hw 1 6 zi_0 rfl rfl rfl (by decide) zm_456 (fun _ h => h) (v := .ref (ad q15)) (zs_fr rfl e_q15 h_q15) d_S_check_67 ?_
    obtain ⟨r17, σ16, hc18, hf⟩ := zq_cs hf
    refine zr_ci hw (zr_runV (rest := []) (ci := 4) (o := 138) G hw [.ref (ad q15)] (zc_Explorer_explore hJ hc18) (cwV 1 hts (zs_gV zm_459 zm_460 zm_461 zm_152 zm_458) rfl rfl rfl (by decide +kernel) ⟨Nat.le_trans (by decide) hR1, Nat.le_trans (by decide) hR2⟩) rfl rfl rfl hl.1 (Nat.le_of_ble_eq_true rfl) d_S_check_70 ⟨Nat.zero_le _, Nat.zero_le _⟩) (fun H locs hw => ?_)
    refine lv_if_eq hx hb d_S_check_73 (tgt := 79) rfl (fun hc => ?_) (fun hc => ?_)
    · have hf := (if_pos hc).symm.trans hf
      refine lv_aload_n hx hb d_S_check_79 rfl (lv_at hl 2 rfl) ?_
      obtain ⟨q19, e_q19, h_q19, hf⟩ := zq_qs hf
      refine zr_get (ci := 0) G hw 1 6 zi_0 rfl rfl rfl (by decide) zm_456 (fun _ h => h) (v := .ref (ad q19)) (zs_fr rfl e_q19 h_q19) d_S_check_80 ?_
      obtain ⟨hs23, hf⟩ := zq_gs hf
      have hs23 := zq_ks hs23
      obtain ⟨σ20, hc22, hf⟩ := zq_ds hf
      refine zr_cv hw (zr_runV (rest := []) (ci := 5) (o := q19) G hw [] (zc_Program_clear hJ hc22) (cwV 0 hts (zs_gV zm_462 zm_428 zm_429 zm_116 zm_426) rfl rfl rfl (by decide +kernel) ⟨Nat.le_trans (by decide) hR1, Nat.le_trans (by decide) hR2⟩) hs23 rfl rfl hl.1 (Nat.le_of_ble_eq_true rfl) d_S_check_83 ⟨Nat.zero_le _, Nat.zero_le _⟩) (fun H locs hw => ?_)
      refine lv_aload_n hx hb d_S_check_86 rfl (lv_at hl 2 rfl) ?_
      refine zr_get (ci := 0) G hw 1 4 zi_0 rfl rfl rfl (by decide) zm_463 (fun _ h => h) (v := .ref (ad 10)) rfl d_S_check_87 ?_
      obtain ⟨σ24, hc26, hf⟩ := zq_ds hf
      refine zr_cv hw (zr_runV (rest := []) (ci := 3) (o := 10) G hw [] (zc_States_clear hJ hc26) (cwV 0 hts (zs_gV zm_464 zm_242 zm_243 zm_39 zm_240) rfl rfl rfl (by decide +kernel) ⟨Nat.le_trans (by decide) hR1, Nat.le_trans (by decide) hR2⟩) rfl rfl rfl hl.1 (Nat.le_of_ble_eq_true rfl) d_S_check_90 ⟨Nat.zero_le _, Nat.zero_le _⟩) (fun H locs hw => ?_)
      refine lv_bipush (v := (-3)) hx hb d_S_check_93 (by decide) ?_
      exact zr_iret G hw hr hlocks hf hQ d_S_check_95
    · have hf := (if_neg hc).symm.trans hf
      refine lv_bipush (v := (-2)) hx hb d_S_check_76 (by decide) ?_
      exact zr_iret G hw hr hlocks hf hQ d_S_check_78
  · have hf := (if_neg hc).symm.trans hf
    refine lv_iload_n hx hb d_S_check_42 rfl (lv_at hl 0 rfl) ?_
    exact zr_iret G hw hr hlocks hf hQ d_S_check_43
