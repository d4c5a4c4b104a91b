theorem d_M_statement_398 : decode prog_13_method_18_code 398 = .ok (.iload_n 3, 1) := by decide +kernel
theorem d_M_statement_399 : decode prog_13_method_18_code 399 = .ok (.ifCond .lt 10, 3) := by decide +kernel
theorem d_M_statement_402 : decode prog_13_method_18_code 402 = .ok (.bipush 8, 2) := by decide +kernel
theorem d_M_statement_404 : decode prog_13_method_18_code 404 = .ok (.iload_n 3, 1) := by decide +kernel
theorem d_M_statement_405 : decode prog_13_method_18_code 405 = .ok (.iadd, 1) := by decide +kernel
theorem d_M_statement_406 : decode prog_13_method_18_code 406 = .ok (.goto 5, 3) := by decide +kernel
theorem d_M_statement_409 : decode prog_13_method_18_code 409 = .ok (.iload 4, 2) := by decide +kernel
theorem d_M_statement_411 : decode prog_13_method_18_code 411 = .ok (.iastore, 1) := by decide +kernel
theorem d_M_statement_412 : decode prog_13_method_18_code 412 = .ok (.aload_n 0, 1) := by decide +kernel
theorem d_M_statement_413 : decode prog_13_method_18_code 413 = .ok (.invokevirtual 146, 3) := by decide +kernel
theorem d_M_statement_416 : decode prog_13_method_18_code 416 = .ok (.aload_n 0, 1) := by decide +kernel
theorem d_M_statement_417 : decode prog_13_method_18_code 417 = .ok (.ldc 199, 2) := by decide +kernel
theorem d_M_statement_419 : decode prog_13_method_18_code 419 = .ok (.invokevirtual 205, 3) := by decide +kernel
theorem d_M_statement_422 : decode prog_13_method_18_code 422 = .ok (.ifCond .eq 24, 3) := by decide +kernel
theorem d_M_statement_425 : decode prog_13_method_18_code 425 = .ok (.aload_n 0, 1) := by decide +kernel
theorem d_M_statement_426 : decode prog_13_method_18_code 426 = .ok (.iload_n 1, 1) := by decide +kernel
theorem d_M_statement_427 : decode prog_13_method_18_code 427 = .ok (.invokevirtual 236, 3) := by decide +kernel
theorem d_M_statement_430 : decode prog_13_method_18_code 430 = .ok (.ifCond .eq 16, 3) := by decide +kernel
theorem d_M_statement_433 : decode prog_13_method_18_code 433 = .ok (.aload_n 0, 1) := by decide +kernel
theorem d_M_statement_434 : decode prog_13_method_18_code 434 = .ok (.ldc 203, 2) := by decide +kernel
theorem d_M_statement_436 : decode prog_13_method_18_code 436 = .ok (.invokevirtual 205, 3) := by decide +kernel
theorem d_M_statement_439 : decode prog_13_method_18_code 439 = .ok (.ifCond .eq 7, 3) := by decide +kernel
theorem d_M_statement_442 : decode prog_13_method_18_code 442 = .ok (.iconst 1, 1) := by decide +kernel
theorem d_M_statement_443 : decode prog_13_method_18_code 443 = .ok (.goto 4, 3) := by decide +kernel
theorem d_M_statement_446 : decode prog_13_method_18_code 446 = .ok (.iconst 0, 1) := by decide +kernel
theorem d_M_statement_447 : decode prog_13_method_18_code 447 = .ok (.ireturn, 1) := by decide +kernel
theorem d_M_statement_448 : decode prog_13_method_18_code 448 = .ok (.aload_n 0, 1) := by decide +kernel
theorem d_M_statement_449 : decode prog_13_method_18_code 449 = .ok (.getfield 149, 3) := by decide +kernel
theorem d_M_statement_452 : decode prog_13_method_18_code 452 = .ok (.getfield 232, 3) := by decide +kernel
theorem d_M_statement_455 : decode prog_13_method_18_code 455 = .ok (.iload_n 1, 1) := by decide +kernel
theorem d_M_statement_456 : decode prog_13_method_18_code 456 = .ok (.aload_n 0, 1) := by decide +kernel
theorem d_M_statement_457 : decode prog_13_method_18_code 457 = .ok (.ldc 119, 2) := by decide +kernel
theorem d_M_statement_459 : decode prog_13_method_18_code 459 = .ok (.invokevirtual 109, 3) := by decide +kernel
theorem d_M_statement_462 : decode prog_13_method_18_code 462 = .ok (.ifCond .eq 7, 3) := by decide +kernel
theorem d_M_statement_465 : decode prog_13_method_18_code 465 = .ok (.iconst 1, 1) := by decide +kernel
theorem d_M_statement_466 : decode prog_13_method_18_code 466 = .ok (.goto 30, 3) := by decide +kernel
theorem d_M_statement_469 : decode prog_13_method_18_code 469 = .ok (.aload_n 0, 1) := by decide +kernel
theorem d_M_statement_470 : decode prog_13_method_18_code 470 = .ok (.ldc 121, 2) := by decide +kernel
theorem d_M_statement_472 : decode prog_13_method_18_code 472 = .ok (.invokevirtual 109, 3) := by decide +kernel
theorem d_M_statement_475 : decode prog_13_method_18_code 475 = .ok (.ifCond .eq 7, 3) := by decide +kernel
theorem d_M_statement_478 : decode prog_13_method_18_code 478 = .ok (.iconst 2, 1) := by decide +kernel
theorem d_M_statement_479 : decode prog_13_method_18_code 479 = .ok (.goto 17, 3) := by decide +kernel
theorem d_M_statement_482 : decode prog_13_method_18_code 482 = .ok (.aload_n 0, 1) := by decide +kernel
theorem d_M_statement_483 : decode prog_13_method_18_code 483 = .ok (.ldc 123, 2) := by decide +kernel
theorem d_M_statement_485 : decode prog_13_method_18_code 485 = .ok (.invokevirtual 109, 3) := by decide +kernel
theorem d_M_statement_488 : decode prog_13_method_18_code 488 = .ok (.ifCond .eq 7, 3) := by decide +kernel
theorem d_M_statement_491 : decode prog_13_method_18_code 491 = .ok (.iconst 3, 1) := by decide +kernel
theorem d_M_statement_492 : decode prog_13_method_18_code 492 = .ok (.goto 4, 3) := by decide +kernel
theorem d_M_statement_495 : decode prog_13_method_18_code 495 = .ok (.iconst 4, 1) := by decide +kernel
theorem d_M_statement_496 : decode prog_13_method_18_code 496 = .ok (.iastore, 1) := by decide +kernel
theorem d_M_statement_497 : decode prog_13_method_18_code 497 = .ok (.aload_n 0, 1) := by decide +kernel
theorem d_M_statement_498 : decode prog_13_method_18_code 498 = .ok (.invokevirtual 146, 3) := by decide +kernel
theorem d_M_statement_501 : decode prog_13_method_18_code 501 = .ok (.aload_n 0, 1) := by decide +kernel
theorem d_M_statement_502 : decode prog_13_method_18_code 502 = .ok (.getfield 149, 3) := by decide +kernel
theorem d_M_statement_505 : decode prog_13_method_18_code 505 = .ok (.getfield 232, 3) := by decide +kernel
theorem d_M_statement_508 : decode prog_13_method_18_code 508 = .ok (.iload_n 1, 1) := by decide +kernel
theorem d_M_statement_509 : decode prog_13_method_18_code 509 = .ok (.iaload, 1) := by decide +kernel
theorem d_M_statement_510 : decode prog_13_method_18_code 510 = .ok (.iconst 4, 1) := by decide +kernel
theorem d_M_statement_511 : decode prog_13_method_18_code 511 = .ok (.if_icmp .ne 26, 3) := by decide +kernel
theorem d_M_statement_514 : decode prog_13_method_18_code 514 = .ok (.aload_n 0, 1) := by decide +kernel
theorem d_M_statement_515 : decode prog_13_method_18_code 515 = .ok (.ldc 127, 2) := by decide +kernel
theorem d_M_statement_517 : decode prog_13_method_18_code 517 = .ok (.invokevirtual 109, 3) := by decide +kernel
theorem d_M_statement_520 : decode prog_13_method_18_code 520 = .ok (.ifCond .eq 17, 3) := by decide +kernel
theorem d_M_statement_523 : decode prog_13_method_18_code 523 = .ok (.aload_n 0, 1) := by decide +kernel
theorem d_M_statement_524 : decode prog_13_method_18_code 524 = .ok (.getfield 149, 3) := by decide +kernel
theorem d_M_statement_527 : decode prog_13_method_18_code 527 = .ok (.getfield 232, 3) := by decide +kernel
theorem d_M_statement_530 : decode prog_13_method_18_code 530 = .ok (.iload_n 1, 1) := by decide +kernel
theorem d_M_statement_531 : decode prog_13_method_18_code 531 = .ok (.iconst 5, 1) := by decide +kernel
theorem d_M_statement_532 : decode prog_13_method_18_code 532 = .ok (.iastore, 1) := by decide +kernel
theorem d_M_statement_533 : decode prog_13_method_18_code 533 = .ok (.aload_n 0, 1) := by decide +kernel
theorem d_M_statement_534 : decode prog_13_method_18_code 534 = .ok (.invokevirtual 146, 3) := by decide +kernel
theorem d_M_statement_537 : decode prog_13_method_18_code 537 = .ok (.aload_n 0, 1) := by decide +kernel
theorem d_M_statement_538 : decode prog_13_method_18_code 538 = .ok (.invokevirtual 183, 3) := by decide +kernel
theorem d_M_statement_541 : decode prog_13_method_18_code 541 = .ok (.ifCond .eq 60, 3) := by decide +kernel
theorem d_M_statement_544 : decode prog_13_method_18_code 544 = .ok (.aload_n 0, 1) := by decide +kernel
theorem d_M_statement_545 : decode prog_13_method_18_code 545 = .ok (.getfield 213, 3) := by decide +kernel
theorem d_M_statement_548 : decode prog_13_method_18_code 548 = .ok (.aload_n 0, 1) := by decide +kernel
theorem d_M_statement_549 : decode prog_13_method_18_code 549 = .ok (.getfield 9, 3) := by decide +kernel
theorem d_M_statement_552 : decode prog_13_method_18_code 552 = .ok (.aload_n 0, 1) := by decide +kernel
theorem d_M_statement_553 : decode prog_13_method_18_code 553 = .ok (.getfield 72, 3) := by decide +kernel
theorem d_M_statement_556 : decode prog_13_method_18_code 556 = .ok (.aload_n 0, 1) := by decide +kernel
theorem d_M_statement_557 : decode prog_13_method_18_code 557 = .ok (.getfield 94, 3) := by decide +kernel
theorem d_M_statement_560 : decode prog_13_method_18_code 560 = .ok (.aload_n 0, 1) := by decide +kernel
theorem d_M_statement_561 : decode prog_13_method_18_code 561 = .ok (.getfield 72, 3) := by decide +kernel
theorem d_M_statement_564 : decode prog_13_method_18_code 564 = .ok (.isub, 1) := by decide +kernel
theorem d_M_statement_565 : decode prog_13_method_18_code 565 = .ok (.invokevirtual 188, 3) := by decide +kernel
theorem d_M_statement_568 : decode prog_13_method_18_code 568 = .ok (.ifCond .ge 33, 3) := by decide +kernel
theorem d_M_statement_571 : decode prog_13_method_18_code 571 = .ok (.aload_n 0, 1) := by decide +kernel
theorem d_M_statement_572 : decode prog_13_method_18_code 572 = .ok (.getfield 149, 3) := by decide +kernel
theorem d_M_statement_575 : decode prog_13_method_18_code 575 = .ok (.getfield 161, 3) := by decide +kernel
theorem d_M_statement_578 : decode prog_13_method_18_code 578 = .ok (.aload_n 0, 1) := by decide +kernel
theorem d_M_statement_579 : decode prog_13_method_18_code 579 = .ok (.getfield 9, 3) := by decide +kernel
theorem d_M_statement_582 : decode prog_13_method_18_code 582 = .ok (.aload_n 0, 1) := by decide +kernel
theorem d_M_statement_583 : decode prog_13_method_18_code 583 = .ok (.getfield 72, 3) := by decide +kernel
theorem d_M_statement_586 : decode prog_13_method_18_code 586 = .ok (.aload_n 0, 1) := by decide +kernel
theorem d_M_statement_587 : decode prog_13_method_18_code 587 = .ok (.getfield 94, 3) := by decide +kernel
theorem d_M_statement_590 : decode prog_13_method_18_code 590 = .ok (.aload_n 0, 1) := by decide +kernel
theorem d_M_statement_591 : decode prog_13_method_18_code 591 = .ok (.getfield 72, 3) := by decide +kernel
theorem d_M_statement_594 : decode prog_13_method_18_code 594 = .ok (.isub, 1) := by decide +kernel
theorem d_M_statement_595 : decode prog_13_method_18_code 595 = .ok (.invokevirtual 188, 3) := by decide +kernel
theorem d_M_statement_598 : decode prog_13_method_18_code 598 = .ok (.goto 4, 3) := by decide +kernel
theorem d_M_statement_601 : decode prog_13_method_18_code 601 = .ok (.iconst (-1), 1) := by decide +kernel
theorem d_M_statement_602 : decode prog_13_method_18_code 602 = .ok (.istore_n 3, 1) := by decide +kernel
theorem d_M_statement_603 : decode prog_13_method_18_code 603 = .ok (.iload_n 3, 1) := by decide +kernel
theorem d_M_statement_604 : decode prog_13_method_18_code 604 = .ok (.ifCond .ge 8, 3) := by decide +kernel
theorem d_M_statement_607 : decode prog_13_method_18_code 607 = .ok (.aload_n 0, 1) := by decide +kernel
theorem d_M_statement_608 : decode prog_13_method_18_code 608 = .ok (.invokevirtual 142, 3) := by decide +kernel
theorem d_M_statement_611 : decode prog_13_method_18_code 611 = .ok (.ireturn, 1) := by decide +kernel
theorem d_M_statement_612 : decode prog_13_method_18_code 612 = .ok (.aload_n 0, 1) := by decide +kernel
theorem d_M_statement_613 : decode prog_13_method_18_code 613 = .ok (.getfield 149, 3) := by decide +kernel
