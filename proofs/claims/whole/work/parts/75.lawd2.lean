theorem d_Law_law_321 : decode code 321 = .ok (.iconst 5, 1) := by decide +kernel
theorem d_Law_law_322 : decode code 322 = .ok (.iadd, 1) := by decide +kernel
theorem d_Law_law_323 : decode code 323 = .ok (.iaload, 1) := by decide +kernel
theorem d_Law_law_324 : decode code 324 = .ok (.invokevirtual 80, 3) := by decide +kernel
theorem d_Law_law_327 : decode code 327 = .ok (.istore 7, 2) := by decide +kernel
theorem d_Law_law_329 : decode code 329 = .ok (.aload_n 2, 1) := by decide +kernel
theorem d_Law_law_330 : decode code 330 = .ok (.invokevirtual 70, 3) := by decide +kernel
theorem d_Law_law_333 : decode code 333 = .ok (.iload 6, 2) := by decide +kernel
theorem d_Law_law_335 : decode code 335 = .ok (.if_icmp .eq 5, 3) := by decide +kernel
theorem d_Law_law_338 : decode code 338 = .ok (.iconst 0, 1) := by decide +kernel
theorem d_Law_law_339 : decode code 339 = .ok (.ireturn, 1) := by decide +kernel
theorem d_Law_law_340 : decode code 340 = .ok (.iload 6, 2) := by decide +kernel
theorem d_Law_law_342 : decode code 342 = .ok (.ifCond .ne 15, 3) := by decide +kernel
theorem d_Law_law_345 : decode code 345 = .ok (.aload_n 3, 1) := by decide +kernel
theorem d_Law_law_346 : decode code 346 = .ok (.iconst 0, 1) := by decide +kernel
theorem d_Law_law_347 : decode code 347 = .ok (.laload, 1) := by decide +kernel
theorem d_Law_law_348 : decode code 348 = .ok (.iload 7, 2) := by decide +kernel
theorem d_Law_law_350 : decode code 350 = .ok (.i2l, 1) := by decide +kernel
theorem d_Law_law_351 : decode code 351 = .ok (.lcmp, 1) := by decide +kernel
theorem d_Law_law_352 : decode code 352 = .ok (.ifCond .eq 5, 3) := by decide +kernel
theorem d_Law_law_355 : decode code 355 = .ok (.iconst 0, 1) := by decide +kernel
theorem d_Law_law_356 : decode code 356 = .ok (.ireturn, 1) := by decide +kernel
theorem d_Law_law_357 : decode code 357 = .ok (.goto 592, 3) := by decide +kernel
theorem d_Law_law_360 : decode code 360 = .ok (.aload_n 1, 1) := by decide +kernel
theorem d_Law_law_361 : decode code 361 = .ok (.aload_n 0, 1) := by decide +kernel
theorem d_Law_law_362 : decode code 362 = .ok (.iload 5, 2) := by decide +kernel
theorem d_Law_law_364 : decode code 364 = .ok (.iconst 1, 1) := by decide +kernel
theorem d_Law_law_365 : decode code 365 = .ok (.iadd, 1) := by decide +kernel
theorem d_Law_law_366 : decode code 366 = .ok (.iaload, 1) := by decide +kernel
theorem d_Law_law_367 : decode code 367 = .ok (.aload_n 3, 1) := by decide +kernel
theorem d_Law_law_368 : decode code 368 = .ok (.invokestatic 81, 3) := by decide +kernel
theorem d_Law_law_371 : decode code 371 = .ok (.istore 6, 2) := by decide +kernel
theorem d_Law_law_373 : decode code 373 = .ok (.aload_n 2, 1) := by decide +kernel
theorem d_Law_law_374 : decode code 374 = .ok (.aload_n 0, 1) := by decide +kernel
theorem d_Law_law_375 : decode code 375 = .ok (.iload 5, 2) := by decide +kernel
theorem d_Law_law_377 : decode code 377 = .ok (.iconst 1, 1) := by decide +kernel
theorem d_Law_law_378 : decode code 378 = .ok (.iadd, 1) := by decide +kernel
theorem d_Law_law_379 : decode code 379 = .ok (.iaload, 1) := by decide +kernel
theorem d_Law_law_380 : decode code 380 = .ok (.invokevirtual 84, 3) := by decide +kernel
theorem d_Law_law_383 : decode code 383 = .ok (.istore 7, 2) := by decide +kernel
theorem d_Law_law_385 : decode code 385 = .ok (.aload_n 2, 1) := by decide +kernel
theorem d_Law_law_386 : decode code 386 = .ok (.invokevirtual 70, 3) := by decide +kernel
theorem d_Law_law_389 : decode code 389 = .ok (.iload 6, 2) := by decide +kernel
theorem d_Law_law_391 : decode code 391 = .ok (.if_icmp .eq 5, 3) := by decide +kernel
theorem d_Law_law_394 : decode code 394 = .ok (.iconst 0, 1) := by decide +kernel
theorem d_Law_law_395 : decode code 395 = .ok (.ireturn, 1) := by decide +kernel
theorem d_Law_law_396 : decode code 396 = .ok (.iload 6, 2) := by decide +kernel
theorem d_Law_law_398 : decode code 398 = .ok (.ifCond .ne 15, 3) := by decide +kernel
theorem d_Law_law_401 : decode code 401 = .ok (.aload_n 3, 1) := by decide +kernel
theorem d_Law_law_402 : decode code 402 = .ok (.iconst 0, 1) := by decide +kernel
theorem d_Law_law_403 : decode code 403 = .ok (.laload, 1) := by decide +kernel
theorem d_Law_law_404 : decode code 404 = .ok (.iload 7, 2) := by decide +kernel
theorem d_Law_law_406 : decode code 406 = .ok (.i2l, 1) := by decide +kernel
theorem d_Law_law_407 : decode code 407 = .ok (.lcmp, 1) := by decide +kernel
theorem d_Law_law_408 : decode code 408 = .ok (.ifCond .eq 5, 3) := by decide +kernel
theorem d_Law_law_411 : decode code 411 = .ok (.iconst 0, 1) := by decide +kernel
theorem d_Law_law_412 : decode code 412 = .ok (.ireturn, 1) := by decide +kernel
theorem d_Law_law_413 : decode code 413 = .ok (.goto 536, 3) := by decide +kernel
theorem d_Law_law_416 : decode code 416 = .ok (.aload_n 1, 1) := by decide +kernel
theorem d_Law_law_417 : decode code 417 = .ok (.aload_n 3, 1) := by decide +kernel
theorem d_Law_law_418 : decode code 418 = .ok (.invokestatic 85, 3) := by decide +kernel
theorem d_Law_law_421 : decode code 421 = .ok (.istore 6, 2) := by decide +kernel
theorem d_Law_law_423 : decode code 423 = .ok (.aload_n 2, 1) := by decide +kernel
theorem d_Law_law_424 : decode code 424 = .ok (.invokevirtual 88, 3) := by decide +kernel
theorem d_Law_law_427 : decode code 427 = .ok (.istore 7, 2) := by decide +kernel
theorem d_Law_law_429 : decode code 429 = .ok (.aload_n 2, 1) := by decide +kernel
theorem d_Law_law_430 : decode code 430 = .ok (.invokevirtual 70, 3) := by decide +kernel
theorem d_Law_law_433 : decode code 433 = .ok (.iload 6, 2) := by decide +kernel
theorem d_Law_law_435 : decode code 435 = .ok (.if_icmp .eq 5, 3) := by decide +kernel
theorem d_Law_law_438 : decode code 438 = .ok (.iconst 0, 1) := by decide +kernel
theorem d_Law_law_439 : decode code 439 = .ok (.ireturn, 1) := by decide +kernel
theorem d_Law_law_440 : decode code 440 = .ok (.iload 6, 2) := by decide +kernel
theorem d_Law_law_442 : decode code 442 = .ok (.ifCond .ne 15, 3) := by decide +kernel
theorem d_Law_law_445 : decode code 445 = .ok (.aload_n 3, 1) := by decide +kernel
theorem d_Law_law_446 : decode code 446 = .ok (.iconst 0, 1) := by decide +kernel
theorem d_Law_law_447 : decode code 447 = .ok (.laload, 1) := by decide +kernel
theorem d_Law_law_448 : decode code 448 = .ok (.iload 7, 2) := by decide +kernel
theorem d_Law_law_450 : decode code 450 = .ok (.i2l, 1) := by decide +kernel
theorem d_Law_law_451 : decode code 451 = .ok (.lcmp, 1) := by decide +kernel
theorem d_Law_law_452 : decode code 452 = .ok (.ifCond .eq 5, 3) := by decide +kernel
theorem d_Law_law_455 : decode code 455 = .ok (.iconst 0, 1) := by decide +kernel
theorem d_Law_law_456 : decode code 456 = .ok (.ireturn, 1) := by decide +kernel
theorem d_Law_law_457 : decode code 457 = .ok (.goto 492, 3) := by decide +kernel
theorem d_Law_law_460 : decode code 460 = .ok (.aload_n 1, 1) := by decide +kernel
theorem d_Law_law_461 : decode code 461 = .ok (.aload_n 0, 1) := by decide +kernel
theorem d_Law_law_462 : decode code 462 = .ok (.iload 5, 2) := by decide +kernel
theorem d_Law_law_464 : decode code 464 = .ok (.iconst 1, 1) := by decide +kernel
theorem d_Law_law_465 : decode code 465 = .ok (.iadd, 1) := by decide +kernel
theorem d_Law_law_466 : decode code 466 = .ok (.iaload, 1) := by decide +kernel
theorem d_Law_law_467 : decode code 467 = .ok (.aload_n 3, 1) := by decide +kernel
theorem d_Law_law_468 : decode code 468 = .ok (.invokestatic 89, 3) := by decide +kernel
theorem d_Law_law_471 : decode code 471 = .ok (.istore 6, 2) := by decide +kernel
theorem d_Law_law_473 : decode code 473 = .ok (.aload_n 2, 1) := by decide +kernel
theorem d_Law_law_474 : decode code 474 = .ok (.aload_n 0, 1) := by decide +kernel
theorem d_Law_law_475 : decode code 475 = .ok (.iload 5, 2) := by decide +kernel
theorem d_Law_law_477 : decode code 477 = .ok (.iconst 1, 1) := by decide +kernel
theorem d_Law_law_478 : decode code 478 = .ok (.iadd, 1) := by decide +kernel
theorem d_Law_law_479 : decode code 479 = .ok (.iaload, 1) := by decide +kernel
theorem d_Law_law_480 : decode code 480 = .ok (.invokevirtual 91, 3) := by decide +kernel
theorem d_Law_law_483 : decode code 483 = .ok (.istore 7, 2) := by decide +kernel
theorem d_Law_law_485 : decode code 485 = .ok (.aload_n 2, 1) := by decide +kernel
theorem d_Law_law_486 : decode code 486 = .ok (.invokevirtual 70, 3) := by decide +kernel
theorem d_Law_law_489 : decode code 489 = .ok (.iload 6, 2) := by decide +kernel
theorem d_Law_law_491 : decode code 491 = .ok (.if_icmp .eq 5, 3) := by decide +kernel
theorem d_Law_law_494 : decode code 494 = .ok (.iconst 0, 1) := by decide +kernel
theorem d_Law_law_495 : decode code 495 = .ok (.ireturn, 1) := by decide +kernel
theorem d_Law_law_496 : decode code 496 = .ok (.iload 6, 2) := by decide +kernel
theorem d_Law_law_498 : decode code 498 = .ok (.ifCond .ne 15, 3) := by decide +kernel
theorem d_Law_law_501 : decode code 501 = .ok (.aload_n 3, 1) := by decide +kernel
theorem d_Law_law_502 : decode code 502 = .ok (.iconst 0, 1) := by decide +kernel
theorem d_Law_law_503 : decode code 503 = .ok (.laload, 1) := by decide +kernel
theorem d_Law_law_504 : decode code 504 = .ok (.iload 7, 2) := by decide +kernel
theorem d_Law_law_506 : decode code 506 = .ok (.i2l, 1) := by decide +kernel
theorem d_Law_law_507 : decode code 507 = .ok (.lcmp, 1) := by decide +kernel
theorem d_Law_law_508 : decode code 508 = .ok (.ifCond .eq 5, 3) := by decide +kernel
theorem d_Law_law_511 : decode code 511 = .ok (.iconst 0, 1) := by decide +kernel
theorem d_Law_law_512 : decode code 512 = .ok (.ireturn, 1) := by decide +kernel
theorem d_Law_law_513 : decode code 513 = .ok (.goto 436, 3) := by decide +kernel
theorem d_Law_law_516 : decode code 516 = .ok (.aload_n 1, 1) := by decide +kernel
theorem d_Law_law_517 : decode code 517 = .ok (.aload_n 0, 1) := by decide +kernel
theorem d_Law_law_518 : decode code 518 = .ok (.iload 5, 2) := by decide +kernel
theorem d_Law_law_520 : decode code 520 = .ok (.iconst 1, 1) := by decide +kernel
theorem d_Law_law_521 : decode code 521 = .ok (.iadd, 1) := by decide +kernel
theorem d_Law_law_522 : decode code 522 = .ok (.iaload, 1) := by decide +kernel
theorem d_Law_law_523 : decode code 523 = .ok (.aload_n 0, 1) := by decide +kernel
theorem d_Law_law_524 : decode code 524 = .ok (.iload 5, 2) := by decide +kernel
theorem d_Law_law_526 : decode code 526 = .ok (.iconst 2, 1) := by decide +kernel
theorem d_Law_law_527 : decode code 527 = .ok (.iadd, 1) := by decide +kernel
theorem d_Law_law_528 : decode code 528 = .ok (.iaload, 1) := by decide +kernel
theorem d_Law_law_529 : decode code 529 = .ok (.aload_n 3, 1) := by decide +kernel
theorem d_Law_law_530 : decode code 530 = .ok (.invokestatic 92, 3) := by decide +kernel
theorem d_Law_law_533 : decode code 533 = .ok (.istore 6, 2) := by decide +kernel
theorem d_Law_law_535 : decode code 535 = .ok (.aload_n 2, 1) := by decide +kernel
theorem d_Law_law_536 : decode code 536 = .ok (.aload_n 0, 1) := by decide +kernel
theorem d_Law_law_537 : decode code 537 = .ok (.iload 5, 2) := by decide +kernel
theorem d_Law_law_539 : decode code 539 = .ok (.iconst 1, 1) := by decide +kernel
theorem d_Law_law_540 : decode code 540 = .ok (.iadd, 1) := by decide +kernel
theorem d_Law_law_541 : decode code 541 = .ok (.iaload, 1) := by decide +kernel
theorem d_Law_law_542 : decode code 542 = .ok (.aload_n 0, 1) := by decide +kernel
theorem d_Law_law_543 : decode code 543 = .ok (.iload 5, 2) := by decide +kernel
theorem d_Law_law_545 : decode code 545 = .ok (.iconst 2, 1) := by decide +kernel
theorem d_Law_law_546 : decode code 546 = .ok (.iadd, 1) := by decide +kernel
theorem d_Law_law_547 : decode code 547 = .ok (.iaload, 1) := by decide +kernel
theorem d_Law_law_548 : decode code 548 = .ok (.invokevirtual 94, 3) := by decide +kernel
theorem d_Law_law_551 : decode code 551 = .ok (.istore 7, 2) := by decide +kernel
theorem d_Law_law_553 : decode code 553 = .ok (.aload_n 2, 1) := by decide +kernel
theorem d_Law_law_554 : decode code 554 = .ok (.invokevirtual 70, 3) := by decide +kernel
theorem d_Law_law_557 : decode code 557 = .ok (.iload 6, 2) := by decide +kernel
theorem d_Law_law_559 : decode code 559 = .ok (.if_icmp .eq 5, 3) := by decide +kernel
theorem d_Law_law_562 : decode code 562 = .ok (.iconst 0, 1) := by decide +kernel
theorem d_Law_law_563 : decode code 563 = .ok (.ireturn, 1) := by decide +kernel
theorem d_Law_law_564 : decode code 564 = .ok (.iload 6, 2) := by decide +kernel
theorem d_Law_law_566 : decode code 566 = .ok (.ifCond .ne 15, 3) := by decide +kernel
theorem d_Law_law_569 : decode code 569 = .ok (.aload_n 3, 1) := by decide +kernel
theorem d_Law_law_570 : decode code 570 = .ok (.iconst 0, 1) := by decide +kernel
theorem d_Law_law_571 : decode code 571 = .ok (.laload, 1) := by decide +kernel
theorem d_Law_law_572 : decode code 572 = .ok (.iload 7, 2) := by decide +kernel
theorem d_Law_law_574 : decode code 574 = .ok (.i2l, 1) := by decide +kernel
theorem d_Law_law_575 : decode code 575 = .ok (.lcmp, 1) := by decide +kernel
theorem d_Law_law_576 : decode code 576 = .ok (.ifCond .eq 5, 3) := by decide +kernel
theorem d_Law_law_579 : decode code 579 = .ok (.iconst 0, 1) := by decide +kernel
theorem d_Law_law_580 : decode code 580 = .ok (.ireturn, 1) := by decide +kernel
theorem d_Law_law_581 : decode code 581 = .ok (.goto 368, 3) := by decide +kernel
theorem d_Law_law_584 : decode code 584 = .ok (.aload_n 1, 1) := by decide +kernel
theorem d_Law_law_585 : decode code 585 = .ok (.aload_n 0, 1) := by decide +kernel
theorem d_Law_law_586 : decode code 586 = .ok (.iload 5, 2) := by decide +kernel
theorem d_Law_law_588 : decode code 588 = .ok (.iconst 1, 1) := by decide +kernel
theorem d_Law_law_589 : decode code 589 = .ok (.iadd, 1) := by decide +kernel
theorem d_Law_law_590 : decode code 590 = .ok (.iaload, 1) := by decide +kernel
theorem d_Law_law_591 : decode code 591 = .ok (.aload_n 3, 1) := by decide +kernel
theorem d_Law_law_592 : decode code 592 = .ok (.invokestatic 95, 3) := by decide +kernel
theorem d_Law_law_595 : decode code 595 = .ok (.istore 6, 2) := by decide +kernel
theorem d_Law_law_597 : decode code 597 = .ok (.aload_n 2, 1) := by decide +kernel
theorem d_Law_law_598 : decode code 598 = .ok (.aload_n 0, 1) := by decide +kernel
theorem d_Law_law_599 : decode code 599 = .ok (.iload 5, 2) := by decide +kernel
theorem d_Law_law_601 : decode code 601 = .ok (.iconst 1, 1) := by decide +kernel
theorem d_Law_law_602 : decode code 602 = .ok (.iadd, 1) := by decide +kernel
theorem d_Law_law_603 : decode code 603 = .ok (.iaload, 1) := by decide +kernel
theorem d_Law_law_604 : decode code 604 = .ok (.invokevirtual 97, 3) := by decide +kernel
theorem d_Law_law_607 : decode code 607 = .ok (.istore 7, 2) := by decide +kernel
theorem d_Law_law_609 : decode code 609 = .ok (.aload_n 2, 1) := by decide +kernel
theorem d_Law_law_610 : decode code 610 = .ok (.invokevirtual 70, 3) := by decide +kernel
theorem d_Law_law_613 : decode code 613 = .ok (.iload 6, 2) := by decide +kernel
theorem d_Law_law_615 : decode code 615 = .ok (.if_icmp .eq 5, 3) := by decide +kernel
theorem d_Law_law_618 : decode code 618 = .ok (.iconst 0, 1) := by decide +kernel
theorem d_Law_law_619 : decode code 619 = .ok (.ireturn, 1) := by decide +kernel
theorem d_Law_law_620 : decode code 620 = .ok (.iload 6, 2) := by decide +kernel
theorem d_Law_law_622 : decode code 622 = .ok (.ifCond .ne 15, 3) := by decide +kernel
theorem d_Law_law_625 : decode code 625 = .ok (.aload_n 3, 1) := by decide +kernel
theorem d_Law_law_626 : decode code 626 = .ok (.iconst 0, 1) := by decide +kernel
theorem d_Law_law_627 : decode code 627 = .ok (.laload, 1) := by decide +kernel
theorem d_Law_law_628 : decode code 628 = .ok (.iload 7, 2) := by decide +kernel
theorem d_Law_law_630 : decode code 630 = .ok (.i2l, 1) := by decide +kernel
theorem d_Law_law_631 : decode code 631 = .ok (.lcmp, 1) := by decide +kernel
theorem d_Law_law_632 : decode code 632 = .ok (.ifCond .eq 5, 3) := by decide +kernel
theorem d_Law_law_635 : decode code 635 = .ok (.iconst 0, 1) := by decide +kernel
theorem d_Law_law_636 : decode code 636 = .ok (.ireturn, 1) := by decide +kernel
theorem d_Law_law_637 : decode code 637 = .ok (.goto 312, 3) := by decide +kernel
theorem d_Law_law_640 : decode code 640 = .ok (.aload_n 1, 1) := by decide +kernel
theorem d_Law_law_641 : decode code 641 = .ok (.aload_n 0, 1) := by decide +kernel
theorem d_Law_law_642 : decode code 642 = .ok (.iload 5, 2) := by decide +kernel
theorem d_Law_law_644 : decode code 644 = .ok (.iconst 1, 1) := by decide +kernel
theorem d_Law_law_645 : decode code 645 = .ok (.iadd, 1) := by decide +kernel
theorem d_Law_law_646 : decode code 646 = .ok (.iaload, 1) := by decide +kernel
theorem d_Law_law_647 : decode code 647 = .ok (.aload_n 0, 1) := by decide +kernel
theorem d_Law_law_648 : decode code 648 = .ok (.iload 5, 2) := by decide +kernel
theorem d_Law_law_650 : decode code 650 = .ok (.iconst 2, 1) := by decide +kernel
theorem d_Law_law_651 : decode code 651 = .ok (.iadd, 1) := by decide +kernel
theorem d_Law_law_652 : decode code 652 = .ok (.iaload, 1) := by decide +kernel
theorem d_Law_law_653 : decode code 653 = .ok (.aload_n 0, 1) := by decide +kernel
theorem d_Law_law_654 : decode code 654 = .ok (.iload 5, 2) := by decide +kernel
theorem d_Law_law_656 : decode code 656 = .ok (.iconst 3, 1) := by decide +kernel
theorem d_Law_law_657 : decode code 657 = .ok (.iadd, 1) := by decide +kernel
theorem d_Law_law_658 : decode code 658 = .ok (.iaload, 1) := by decide +kernel
theorem d_Law_law_659 : decode code 659 = .ok (.aload_n 3, 1) := by decide +kernel
theorem d_Law_law_660 : decode code 660 = .ok (.invokestatic 98, 3) := by decide +kernel
theorem d_Law_law_663 : decode code 663 = .ok (.istore 6, 2) := by decide +kernel
theorem d_Law_law_665 : decode code 665 = .ok (.aload_n 2, 1) := by decide +kernel
theorem d_Law_law_666 : decode code 666 = .ok (.aload_n 0, 1) := by decide +kernel
theorem d_Law_law_667 : decode code 667 = .ok (.iload 5, 2) := by decide +kernel
theorem d_Law_law_669 : decode code 669 = .ok (.iconst 1, 1) := by decide +kernel
theorem d_Law_law_670 : decode code 670 = .ok (.iadd, 1) := by decide +kernel
theorem d_Law_law_671 : decode code 671 = .ok (.iaload, 1) := by decide +kernel
theorem d_Law_law_672 : decode code 672 = .ok (.aload_n 0, 1) := by decide +kernel
theorem d_Law_law_673 : decode code 673 = .ok (.iload 5, 2) := by decide +kernel
theorem d_Law_law_675 : decode code 675 = .ok (.iconst 2, 1) := by decide +kernel
theorem d_Law_law_676 : decode code 676 = .ok (.iadd, 1) := by decide +kernel
theorem d_Law_law_677 : decode code 677 = .ok (.iaload, 1) := by decide +kernel
theorem d_Law_law_678 : decode code 678 = .ok (.aload_n 0, 1) := by decide +kernel
theorem d_Law_law_679 : decode code 679 = .ok (.iload 5, 2) := by decide +kernel
theorem d_Law_law_681 : decode code 681 = .ok (.iconst 3, 1) := by decide +kernel
theorem d_Law_law_682 : decode code 682 = .ok (.iadd, 1) := by decide +kernel
theorem d_Law_law_683 : decode code 683 = .ok (.iaload, 1) := by decide +kernel
theorem d_Law_law_684 : decode code 684 = .ok (.invokevirtual 100, 3) := by decide +kernel
theorem d_Law_law_687 : decode code 687 = .ok (.istore 7, 2) := by decide +kernel
theorem d_Law_law_689 : decode code 689 = .ok (.aload_n 2, 1) := by decide +kernel
theorem d_Law_law_690 : decode code 690 = .ok (.invokevirtual 70, 3) := by decide +kernel
theorem d_Law_law_693 : decode code 693 = .ok (.iload 6, 2) := by decide +kernel
theorem d_Law_law_695 : decode code 695 = .ok (.if_icmp .eq 5, 3) := by decide +kernel
theorem d_Law_law_698 : decode code 698 = .ok (.iconst 0, 1) := by decide +kernel
theorem d_Law_law_699 : decode code 699 = .ok (.ireturn, 1) := by decide +kernel
theorem d_Law_law_700 : decode code 700 = .ok (.iload 6, 2) := by decide +kernel
theorem d_Law_law_702 : decode code 702 = .ok (.ifCond .ne 15, 3) := by decide +kernel
theorem d_Law_law_705 : decode code 705 = .ok (.aload_n 3, 1) := by decide +kernel
theorem d_Law_law_706 : decode code 706 = .ok (.iconst 0, 1) := by decide +kernel
theorem d_Law_law_707 : decode code 707 = .ok (.laload, 1) := by decide +kernel
theorem d_Law_law_708 : decode code 708 = .ok (.iload 7, 2) := by decide +kernel
theorem d_Law_law_710 : decode code 710 = .ok (.i2l, 1) := by decide +kernel
theorem d_Law_law_711 : decode code 711 = .ok (.lcmp, 1) := by decide +kernel
theorem d_Law_law_712 : decode code 712 = .ok (.ifCond .eq 5, 3) := by decide +kernel
theorem d_Law_law_715 : decode code 715 = .ok (.iconst 0, 1) := by decide +kernel
theorem d_Law_law_716 : decode code 716 = .ok (.ireturn, 1) := by decide +kernel
theorem d_Law_law_717 : decode code 717 = .ok (.goto 232, 3) := by decide +kernel
theorem d_Law_law_720 : decode code 720 = .ok (.aload_n 1, 1) := by decide +kernel
theorem d_Law_law_721 : decode code 721 = .ok (.aload_n 0, 1) := by decide +kernel
theorem d_Law_law_722 : decode code 722 = .ok (.iload 5, 2) := by decide +kernel
theorem d_Law_law_724 : decode code 724 = .ok (.iconst 1, 1) := by decide +kernel
theorem d_Law_law_725 : decode code 725 = .ok (.iadd, 1) := by decide +kernel
theorem d_Law_law_726 : decode code 726 = .ok (.iaload, 1) := by decide +kernel
theorem d_Law_law_727 : decode code 727 = .ok (.aload_n 0, 1) := by decide +kernel
theorem d_Law_law_728 : decode code 728 = .ok (.iload 5, 2) := by decide +kernel
theorem d_Law_law_730 : decode code 730 = .ok (.iconst 2, 1) := by decide +kernel
theorem d_Law_law_731 : decode code 731 = .ok (.iadd, 1) := by decide +kernel
theorem d_Law_law_732 : decode code 732 = .ok (.iaload, 1) := by decide +kernel
theorem d_Law_law_733 : decode code 733 = .ok (.aload 4, 2) := by decide +kernel
theorem d_Law_law_735 : decode code 735 = .ok (.invokestatic 101, 3) := by decide +kernel
theorem d_Law_law_738 : decode code 738 = .ok (.istore 6, 2) := by decide +kernel
theorem d_Law_law_740 : decode code 740 = .ok (.aload_n 2, 1) := by decide +kernel
theorem d_Law_law_741 : decode code 741 = .ok (.aload_n 0, 1) := by decide +kernel
theorem d_Law_law_742 : decode code 742 = .ok (.iload 5, 2) := by decide +kernel
theorem d_Law_law_744 : decode code 744 = .ok (.iconst 1, 1) := by decide +kernel
theorem d_Law_law_745 : decode code 745 = .ok (.iadd, 1) := by decide +kernel
theorem d_Law_law_746 : decode code 746 = .ok (.iaload, 1) := by decide +kernel
theorem d_Law_law_747 : decode code 747 = .ok (.aload_n 0, 1) := by decide +kernel
theorem d_Law_law_748 : decode code 748 = .ok (.iload 5, 2) := by decide +kernel
theorem d_Law_law_750 : decode code 750 = .ok (.iconst 2, 1) := by decide +kernel
theorem d_Law_law_751 : decode code 751 = .ok (.iadd, 1) := by decide +kernel
theorem d_Law_law_752 : decode code 752 = .ok (.iaload, 1) := by decide +kernel
theorem d_Law_law_753 : decode code 753 = .ok (.invokevirtual 104, 3) := by decide +kernel
theorem d_Law_law_756 : decode code 756 = .ok (.dstore 7, 2) := by decide +kernel
theorem d_Law_law_758 : decode code 758 = .ok (.aload_n 2, 1) := by decide +kernel
theorem d_Law_law_759 : decode code 759 = .ok (.invokevirtual 70, 3) := by decide +kernel
theorem d_Law_law_762 : decode code 762 = .ok (.iload 6, 2) := by decide +kernel
theorem d_Law_law_764 : decode code 764 = .ok (.if_icmp .eq 5, 3) := by decide +kernel
theorem d_Law_law_767 : decode code 767 = .ok (.iconst 0, 1) := by decide +kernel
theorem d_Law_law_768 : decode code 768 = .ok (.ireturn, 1) := by decide +kernel
theorem d_Law_law_769 : decode code 769 = .ok (.iload 6, 2) := by decide +kernel
theorem d_Law_law_771 : decode code 771 = .ok (.ifCond .ne 35, 3) := by decide +kernel
theorem d_Law_law_774 : decode code 774 = .ok (.aload 4, 2) := by decide +kernel
theorem d_Law_law_776 : decode code 776 = .ok (.iconst 0, 1) := by decide +kernel
theorem d_Law_law_777 : decode code 777 = .ok (.daload, 1) := by decide +kernel
theorem d_Law_law_778 : decode code 778 = .ok (.dload 7, 2) := by decide +kernel
theorem d_Law_law_780 : decode code 780 = .ok (.dcmp .l, 1) := by decide +kernel
theorem d_Law_law_781 : decode code 781 = .ok (.ifCond .eq 25, 3) := by decide +kernel
theorem d_Law_law_784 : decode code 784 = .ok (.aload 4, 2) := by decide +kernel
theorem d_Law_law_786 : decode code 786 = .ok (.iconst 0, 1) := by decide +kernel
theorem d_Law_law_787 : decode code 787 = .ok (.daload, 1) := by decide +kernel
theorem d_Law_law_788 : decode code 788 = .ok (.aload 4, 2) := by decide +kernel
theorem d_Law_law_790 : decode code 790 = .ok (.iconst 0, 1) := by decide +kernel
theorem d_Law_law_791 : decode code 791 = .ok (.daload, 1) := by decide +kernel
theorem d_Law_law_792 : decode code 792 = .ok (.dcmp .l, 1) := by decide +kernel
theorem d_Law_law_793 : decode code 793 = .ok (.ifCond .eq 11, 3) := by decide +kernel
theorem d_Law_law_796 : decode code 796 = .ok (.dload 7, 2) := by decide +kernel
theorem d_Law_law_798 : decode code 798 = .ok (.dload 7, 2) := by decide +kernel
theorem d_Law_law_800 : decode code 800 = .ok (.dcmp .l, 1) := by decide +kernel
theorem d_Law_law_801 : decode code 801 = .ok (.ifCond .ne 5, 3) := by decide +kernel
theorem d_Law_law_804 : decode code 804 = .ok (.iconst 0, 1) := by decide +kernel
theorem d_Law_law_805 : decode code 805 = .ok (.ireturn, 1) := by decide +kernel
theorem d_Law_law_806 : decode code 806 = .ok (.goto 143, 3) := by decide +kernel
theorem d_Law_law_809 : decode code 809 = .ok (.aload_n 1, 1) := by decide +kernel
theorem d_Law_law_810 : decode code 810 = .ok (.aload_n 0, 1) := by decide +kernel
theorem d_Law_law_811 : decode code 811 = .ok (.iload 5, 2) := by decide +kernel
theorem d_Law_law_813 : decode code 813 = .ok (.iconst 1, 1) := by decide +kernel
theorem d_Law_law_814 : decode code 814 = .ok (.iadd, 1) := by decide +kernel
theorem d_Law_law_815 : decode code 815 = .ok (.iaload, 1) := by decide +kernel
theorem d_Law_law_816 : decode code 816 = .ok (.ifCond .eq 7, 3) := by decide +kernel
theorem d_Law_law_819 : decode code 819 = .ok (.iconst 1, 1) := by decide +kernel
theorem d_Law_law_820 : decode code 820 = .ok (.goto 4, 3) := by decide +kernel
theorem d_Law_law_823 : decode code 823 = .ok (.iconst 0, 1) := by decide +kernel
theorem d_Law_law_824 : decode code 824 = .ok (.aload_n 0, 1) := by decide +kernel
theorem d_Law_law_825 : decode code 825 = .ok (.iload 5, 2) := by decide +kernel
theorem d_Law_law_827 : decode code 827 = .ok (.iconst 2, 1) := by decide +kernel
theorem d_Law_law_828 : decode code 828 = .ok (.iadd, 1) := by decide +kernel
theorem d_Law_law_829 : decode code 829 = .ok (.iaload, 1) := by decide +kernel
theorem d_Law_law_830 : decode code 830 = .ok (.aload_n 3, 1) := by decide +kernel
theorem d_Law_law_831 : decode code 831 = .ok (.invokestatic 105, 3) := by decide +kernel
theorem d_Law_law_834 : decode code 834 = .ok (.istore 6, 2) := by decide +kernel
theorem d_Law_law_836 : decode code 836 = .ok (.aload_n 2, 1) := by decide +kernel
theorem d_Law_law_837 : decode code 837 = .ok (.aload_n 0, 1) := by decide +kernel
theorem d_Law_law_838 : decode code 838 = .ok (.iload 5, 2) := by decide +kernel
theorem d_Law_law_840 : decode code 840 = .ok (.iconst 1, 1) := by decide +kernel
theorem d_Law_law_841 : decode code 841 = .ok (.iadd, 1) := by decide +kernel
theorem d_Law_law_842 : decode code 842 = .ok (.iaload, 1) := by decide +kernel
theorem d_Law_law_843 : decode code 843 = .ok (.ifCond .eq 7, 3) := by decide +kernel
theorem d_Law_law_846 : decode code 846 = .ok (.iconst 1, 1) := by decide +kernel
theorem d_Law_law_847 : decode code 847 = .ok (.goto 4, 3) := by decide +kernel
theorem d_Law_law_850 : decode code 850 = .ok (.iconst 0, 1) := by decide +kernel
theorem d_Law_law_851 : decode code 851 = .ok (.aload_n 0, 1) := by decide +kernel
theorem d_Law_law_852 : decode code 852 = .ok (.iload 5, 2) := by decide +kernel
theorem d_Law_law_854 : decode code 854 = .ok (.iconst 2, 1) := by decide +kernel
theorem d_Law_law_855 : decode code 855 = .ok (.iadd, 1) := by decide +kernel
theorem d_Law_law_856 : decode code 856 = .ok (.iaload, 1) := by decide +kernel
theorem d_Law_law_857 : decode code 857 = .ok (.invokevirtual 108, 3) := by decide +kernel
theorem d_Law_law_860 : decode code 860 = .ok (.istore 7, 2) := by decide +kernel
theorem d_Law_law_862 : decode code 862 = .ok (.aload_n 2, 1) := by decide +kernel
theorem d_Law_law_863 : decode code 863 = .ok (.invokevirtual 70, 3) := by decide +kernel
theorem d_Law_law_866 : decode code 866 = .ok (.iload 6, 2) := by decide +kernel
theorem d_Law_law_868 : decode code 868 = .ok (.if_icmp .eq 5, 3) := by decide +kernel
theorem d_Law_law_871 : decode code 871 = .ok (.iconst 0, 1) := by decide +kernel
theorem d_Law_law_872 : decode code 872 = .ok (.ireturn, 1) := by decide +kernel
theorem d_Law_law_873 : decode code 873 = .ok (.iload 6, 2) := by decide +kernel
theorem d_Law_law_875 : decode code 875 = .ok (.ifCond .ne 15, 3) := by decide +kernel
theorem d_Law_law_878 : decode code 878 = .ok (.aload_n 3, 1) := by decide +kernel
theorem d_Law_law_879 : decode code 879 = .ok (.iconst 0, 1) := by decide +kernel
theorem d_Law_law_880 : decode code 880 = .ok (.laload, 1) := by decide +kernel
theorem d_Law_law_881 : decode code 881 = .ok (.iload 7, 2) := by decide +kernel
theorem d_Law_law_883 : decode code 883 = .ok (.i2l, 1) := by decide +kernel
theorem d_Law_law_884 : decode code 884 = .ok (.lcmp, 1) := by decide +kernel
theorem d_Law_law_885 : decode code 885 = .ok (.ifCond .eq 5, 3) := by decide +kernel
theorem d_Law_law_888 : decode code 888 = .ok (.iconst 0, 1) := by decide +kernel
theorem d_Law_law_889 : decode code 889 = .ok (.ireturn, 1) := by decide +kernel
theorem d_Law_law_890 : decode code 890 = .ok (.goto 59, 3) := by decide +kernel
theorem d_Law_law_893 : decode code 893 = .ok (.aload_n 1, 1) := by decide +kernel
theorem d_Law_law_894 : decode code 894 = .ok (.aload_n 0, 1) := by decide +kernel
theorem d_Law_law_895 : decode code 895 = .ok (.iload 5, 2) := by decide +kernel
theorem d_Law_law_897 : decode code 897 = .ok (.iconst 1, 1) := by decide +kernel
theorem d_Law_law_898 : decode code 898 = .ok (.iadd, 1) := by decide +kernel
theorem d_Law_law_899 : decode code 899 = .ok (.iaload, 1) := by decide +kernel
theorem d_Law_law_900 : decode code 900 = .ok (.aload_n 3, 1) := by decide +kernel
theorem d_Law_law_901 : decode code 901 = .ok (.invokestatic 109, 3) := by decide +kernel
theorem d_Law_law_904 : decode code 904 = .ok (.istore 6, 2) := by decide +kernel
theorem d_Law_law_906 : decode code 906 = .ok (.aload_n 2, 1) := by decide +kernel
theorem d_Law_law_907 : decode code 907 = .ok (.aload_n 0, 1) := by decide +kernel
theorem d_Law_law_908 : decode code 908 = .ok (.iload 5, 2) := by decide +kernel
theorem d_Law_law_910 : decode code 910 = .ok (.iconst 1, 1) := by decide +kernel
theorem d_Law_law_911 : decode code 911 = .ok (.iadd, 1) := by decide +kernel
theorem d_Law_law_912 : decode code 912 = .ok (.iaload, 1) := by decide +kernel
theorem d_Law_law_913 : decode code 913 = .ok (.invokevirtual 111, 3) := by decide +kernel
theorem d_Law_law_916 : decode code 916 = .ok (.istore 7, 2) := by decide +kernel
theorem d_Law_law_918 : decode code 918 = .ok (.aload_n 2, 1) := by decide +kernel
theorem d_Law_law_919 : decode code 919 = .ok (.invokevirtual 70, 3) := by decide +kernel
theorem d_Law_law_922 : decode code 922 = .ok (.iload 6, 2) := by decide +kernel
theorem d_Law_law_924 : decode code 924 = .ok (.if_icmp .eq 5, 3) := by decide +kernel
theorem d_Law_law_927 : decode code 927 = .ok (.iconst 0, 1) := by decide +kernel
theorem d_Law_law_928 : decode code 928 = .ok (.ireturn, 1) := by decide +kernel
theorem d_Law_law_929 : decode code 929 = .ok (.iload 6, 2) := by decide +kernel
theorem d_Law_law_931 : decode code 931 = .ok (.ifCond .ne 15, 3) := by decide +kernel
theorem d_Law_law_934 : decode code 934 = .ok (.aload_n 3, 1) := by decide +kernel
theorem d_Law_law_935 : decode code 935 = .ok (.iconst 0, 1) := by decide +kernel
theorem d_Law_law_936 : decode code 936 = .ok (.laload, 1) := by decide +kernel
theorem d_Law_law_937 : decode code 937 = .ok (.iload 7, 2) := by decide +kernel
theorem d_Law_law_939 : decode code 939 = .ok (.i2l, 1) := by decide +kernel
theorem d_Law_law_940 : decode code 940 = .ok (.lcmp, 1) := by decide +kernel
theorem d_Law_law_941 : decode code 941 = .ok (.ifCond .eq 5, 3) := by decide +kernel
theorem d_Law_law_944 : decode code 944 = .ok (.iconst 0, 1) := by decide +kernel
theorem d_Law_law_945 : decode code 945 = .ok (.ireturn, 1) := by decide +kernel
theorem d_Law_law_946 : decode code 946 = .ok (.goto 3, 3) := by decide +kernel
theorem d_Law_law_949 : decode code 949 = .ok (.iinc 5 6, 3) := by decide +kernel
theorem d_Law_law_952 : decode code 952 = .ok (.goto (-924), 3) := by decide +kernel
theorem d_Law_law_955 : decode code 955 = .ok (.iconst 1, 1) := by decide +kernel
theorem d_Law_law_956 : decode code 956 = .ok (.ireturn, 1) := by decide +kernel
