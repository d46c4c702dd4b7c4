theorem dX12_message_438 : decode cX12_message 438 = .ok (.aload_n 0, 1) := by decide +kernel
theorem dX12_message_439 : decode cX12_message 439 = .ok (.getfield 210, 3) := by decide +kernel
theorem dX12_message_442 : decode cX12_message 442 = .ok (.bipush 8, 2) := by decide +kernel
theorem dX12_message_444 : decode cX12_message 444 = .ok (.baload, 1) := by decide +kernel
theorem dX12_message_445 : decode cX12_message 445 = .ok (.ifCond .eq 13, 3) := by decide +kernel
theorem dX12_message_448 : decode cX12_message 448 = .ok (.aload_n 0, 1) := by decide +kernel
theorem dX12_message_449 : decode cX12_message 449 = .ok (.getfield 219, 3) := by decide +kernel
theorem dX12_message_452 : decode cX12_message 452 = .ok (.bipush 8, 2) := by decide +kernel
theorem dX12_message_454 : decode cX12_message 454 = .ok (.iaload, 1) := by decide +kernel
theorem dX12_message_455 : decode cX12_message 455 = .ok (.goto 4, 3) := by decide +kernel
theorem dX12_message_458 : decode cX12_message 458 = .ok (.iconst (-1), 1) := by decide +kernel
theorem dX12_message_459 : decode cX12_message 459 = .ok (.iastore, 1) := by decide +kernel
theorem dX12_message_460 : decode cX12_message 460 = .ok (.aload_n 0, 1) := by decide +kernel
theorem dX12_message_461 : decode cX12_message 461 = .ok (.getfield 210, 3) := by decide +kernel
theorem dX12_message_464 : decode cX12_message 464 = .ok (.bipush 8, 2) := by decide +kernel
theorem dX12_message_466 : decode cX12_message 466 = .ok (.baload, 1) := by decide +kernel
theorem dX12_message_467 : decode cX12_message 467 = .ok (.ifCond .eq 26, 3) := by decide +kernel
theorem dX12_message_470 : decode cX12_message 470 = .ok (.aload_n 0, 1) := by decide +kernel
theorem dX12_message_471 : decode cX12_message 471 = .ok (.iload 6, 2) := by decide +kernel
theorem dX12_message_473 : decode cX12_message 473 = .ok (.aload_n 0, 1) := by decide +kernel
theorem dX12_message_474 : decode cX12_message 474 = .ok (.getfield 216, 3) := by decide +kernel
theorem dX12_message_477 : decode cX12_message 477 = .ok (.bipush 8, 2) := by decide +kernel
theorem dX12_message_479 : decode cX12_message 479 = .ok (.iaload, 1) := by decide +kernel
theorem dX12_message_480 : decode cX12_message 480 = .ok (.aload_n 0, 1) := by decide +kernel
theorem dX12_message_481 : decode cX12_message 481 = .ok (.getfield 219, 3) := by decide +kernel
theorem dX12_message_484 : decode cX12_message 484 = .ok (.bipush 8, 2) := by decide +kernel
theorem dX12_message_486 : decode cX12_message 486 = .ok (.iaload, 1) := by decide +kernel
theorem dX12_message_487 : decode cX12_message 487 = .ok (.invokevirtual 479, 3) := by decide +kernel
theorem dX12_message_490 : decode cX12_message 490 = .ok (.goto 5, 3) := by decide +kernel
theorem dX12_message_493 : decode cX12_message 493 = .ok (.iload 6, 2) := by decide +kernel
theorem dX12_message_495 : decode cX12_message 495 = .ok (.istore 6, 2) := by decide +kernel
theorem dX12_message_497 : decode cX12_message 497 = .ok (.aload_n 0, 1) := by decide +kernel
theorem dX12_message_498 : decode cX12_message 498 = .ok (.getfield 183, 3) := by decide +kernel
theorem dX12_message_501 : decode cX12_message 501 = .ok (.iload 5, 2) := by decide +kernel
theorem dX12_message_503 : decode cX12_message 503 = .ok (.iload 6, 2) := by decide +kernel
theorem dX12_message_505 : decode cX12_message 505 = .ok (.iastore, 1) := by decide +kernel
theorem dX12_message_506 : decode cX12_message 506 = .ok (.aload_n 0, 1) := by decide +kernel
theorem dX12_message_507 : decode cX12_message 507 = .ok (.getfield 186, 3) := by decide +kernel
theorem dX12_message_510 : decode cX12_message 510 = .ok (.iload 5, 2) := by decide +kernel
theorem dX12_message_512 : decode cX12_message 512 = .ok (.aload_n 0, 1) := by decide +kernel
theorem dX12_message_513 : decode cX12_message 513 = .ok (.getfield 210, 3) := by decide +kernel
theorem dX12_message_516 : decode cX12_message 516 = .ok (.bipush 9, 2) := by decide +kernel
theorem dX12_message_518 : decode cX12_message 518 = .ok (.baload, 1) := by decide +kernel
theorem dX12_message_519 : decode cX12_message 519 = .ok (.ifCond .eq 13, 3) := by decide +kernel
theorem dX12_message_522 : decode cX12_message 522 = .ok (.aload_n 0, 1) := by decide +kernel
theorem dX12_message_523 : decode cX12_message 523 = .ok (.getfield 219, 3) := by decide +kernel
theorem dX12_message_526 : decode cX12_message 526 = .ok (.bipush 9, 2) := by decide +kernel
theorem dX12_message_528 : decode cX12_message 528 = .ok (.iaload, 1) := by decide +kernel
theorem dX12_message_529 : decode cX12_message 529 = .ok (.goto 4, 3) := by decide +kernel
theorem dX12_message_532 : decode cX12_message 532 = .ok (.iconst (-1), 1) := by decide +kernel
theorem dX12_message_533 : decode cX12_message 533 = .ok (.iastore, 1) := by decide +kernel
theorem dX12_message_534 : decode cX12_message 534 = .ok (.aload_n 0, 1) := by decide +kernel
theorem dX12_message_535 : decode cX12_message 535 = .ok (.getfield 210, 3) := by decide +kernel
theorem dX12_message_538 : decode cX12_message 538 = .ok (.bipush 9, 2) := by decide +kernel
theorem dX12_message_540 : decode cX12_message 540 = .ok (.baload, 1) := by decide +kernel
theorem dX12_message_541 : decode cX12_message 541 = .ok (.ifCond .eq 26, 3) := by decide +kernel
theorem dX12_message_544 : decode cX12_message 544 = .ok (.aload_n 0, 1) := by decide +kernel
theorem dX12_message_545 : decode cX12_message 545 = .ok (.iload 6, 2) := by decide +kernel
theorem dX12_message_547 : decode cX12_message 547 = .ok (.aload_n 0, 1) := by decide +kernel
theorem dX12_message_548 : decode cX12_message 548 = .ok (.getfield 216, 3) := by decide +kernel
theorem dX12_message_551 : decode cX12_message 551 = .ok (.bipush 9, 2) := by decide +kernel
theorem dX12_message_553 : decode cX12_message 553 = .ok (.iaload, 1) := by decide +kernel
theorem dX12_message_554 : decode cX12_message 554 = .ok (.aload_n 0, 1) := by decide +kernel
theorem dX12_message_555 : decode cX12_message 555 = .ok (.getfield 219, 3) := by decide +kernel
theorem dX12_message_558 : decode cX12_message 558 = .ok (.bipush 9, 2) := by decide +kernel
theorem dX12_message_560 : decode cX12_message 560 = .ok (.iaload, 1) := by decide +kernel
theorem dX12_message_561 : decode cX12_message 561 = .ok (.invokevirtual 479, 3) := by decide +kernel
theorem dX12_message_564 : decode cX12_message 564 = .ok (.goto 5, 3) := by decide +kernel
theorem dX12_message_567 : decode cX12_message 567 = .ok (.iload 6, 2) := by decide +kernel
theorem dX12_message_569 : decode cX12_message 569 = .ok (.istore 6, 2) := by decide +kernel
theorem dX12_message_571 : decode cX12_message 571 = .ok (.aload_n 0, 1) := by decide +kernel
theorem dX12_message_572 : decode cX12_message 572 = .ok (.getfield 189, 3) := by decide +kernel
theorem dX12_message_575 : decode cX12_message 575 = .ok (.iload 5, 2) := by decide +kernel
theorem dX12_message_577 : decode cX12_message 577 = .ok (.iload 6, 2) := by decide +kernel
theorem dX12_message_579 : decode cX12_message 579 = .ok (.iastore, 1) := by decide +kernel
theorem dX12_message_580 : decode cX12_message 580 = .ok (.aload_n 0, 1) := by decide +kernel
theorem dX12_message_581 : decode cX12_message 581 = .ok (.getfield 192, 3) := by decide +kernel
theorem dX12_message_584 : decode cX12_message 584 = .ok (.iload 5, 2) := by decide +kernel
theorem dX12_message_586 : decode cX12_message 586 = .ok (.aload_n 0, 1) := by decide +kernel
theorem dX12_message_587 : decode cX12_message 587 = .ok (.getfield 370, 3) := by decide +kernel
theorem dX12_message_590 : decode cX12_message 590 = .ok (.iastore, 1) := by decide +kernel
theorem dX12_message_591 : decode cX12_message 591 = .ok (.iconst 0, 1) := by decide +kernel
theorem dX12_message_592 : decode cX12_message 592 = .ok (.istore 7, 2) := by decide +kernel
theorem dX12_message_594 : decode cX12_message 594 = .ok (.iload 7, 2) := by decide +kernel
theorem dX12_message_596 : decode cX12_message 596 = .ok (.aload_n 0, 1) := by decide +kernel
theorem dX12_message_597 : decode cX12_message 597 = .ok (.getfield 370, 3) := by decide +kernel
theorem dX12_message_600 : decode cX12_message 600 = .ok (.if_icmp .ge 26, 3) := by decide +kernel
theorem dX12_message_603 : decode cX12_message 603 = .ok (.aload_n 0, 1) := by decide +kernel
theorem dX12_message_604 : decode cX12_message 604 = .ok (.getfield 150, 3) := by decide +kernel
theorem dX12_message_607 : decode cX12_message 607 = .ok (.iload 6, 2) := by decide +kernel
theorem dX12_message_609 : decode cX12_message 609 = .ok (.iinc 6 1, 3) := by decide +kernel
theorem dX12_message_612 : decode cX12_message 612 = .ok (.aload_n 0, 1) := by decide +kernel
theorem dX12_message_613 : decode cX12_message 613 = .ok (.getfield 222, 3) := by decide +kernel
theorem dX12_message_616 : decode cX12_message 616 = .ok (.iload 7, 2) := by decide +kernel
theorem dX12_message_618 : decode cX12_message 618 = .ok (.baload, 1) := by decide +kernel
theorem dX12_message_619 : decode cX12_message 619 = .ok (.bastore, 1) := by decide +kernel
theorem dX12_message_620 : decode cX12_message 620 = .ok (.iinc 7 1, 3) := by decide +kernel
theorem dX12_message_623 : decode cX12_message 623 = .ok (.goto (-29), 3) := by decide +kernel
theorem dX12_message_626 : decode cX12_message 626 = .ok (.aload_n 0, 1) := by decide +kernel
theorem dX12_message_627 : decode cX12_message 627 = .ok (.getfield 195, 3) := by decide +kernel
theorem dX12_message_630 : decode cX12_message 630 = .ok (.iload 5, 2) := by decide +kernel
theorem dX12_message_632 : decode cX12_message 632 = .ok (.iload_n 3, 1) := by decide +kernel
theorem dX12_message_633 : decode cX12_message 633 = .ok (.iastore, 1) := by decide +kernel
theorem dX12_message_634 : decode cX12_message 634 = .ok (.aload_n 0, 1) := by decide +kernel
theorem dX12_message_635 : decode cX12_message 635 = .ok (.getfield 198, 3) := by decide +kernel
theorem dX12_message_638 : decode cX12_message 638 = .ok (.iload 5, 2) := by decide +kernel
theorem dX12_message_640 : decode cX12_message 640 = .ok (.iload 4, 2) := by decide +kernel
theorem dX12_message_642 : decode cX12_message 642 = .ok (.iastore, 1) := by decide +kernel
theorem dX12_message_643 : decode cX12_message 643 = .ok (.aload_n 0, 1) := by decide +kernel
theorem dX12_message_644 : decode cX12_message 644 = .ok (.getfield 201, 3) := by decide +kernel
theorem dX12_message_647 : decode cX12_message 647 = .ok (.iload 5, 2) := by decide +kernel
theorem dX12_message_649 : decode cX12_message 649 = .ok (.aload_n 0, 1) := by decide +kernel
theorem dX12_message_650 : decode cX12_message 650 = .ok (.getfield 34, 3) := by decide +kernel
theorem dX12_message_653 : decode cX12_message 653 = .ok (.aload_n 0, 1) := by decide +kernel
theorem dX12_message_654 : decode cX12_message 654 = .ok (.getfield 271, 3) := by decide +kernel
theorem dX12_message_657 : decode cX12_message 657 = .ok (.iaload, 1) := by decide +kernel
theorem dX12_message_658 : decode cX12_message 658 = .ok (.ifCond .ge 7, 3) := by decide +kernel
theorem dX12_message_661 : decode cX12_message 661 = .ok (.iconst 0, 1) := by decide +kernel
theorem dX12_message_662 : decode cX12_message 662 = .ok (.goto 17, 3) := by decide +kernel
theorem dX12_message_665 : decode cX12_message 665 = .ok (.aload_n 0, 1) := by decide +kernel
theorem dX12_message_666 : decode cX12_message 666 = .ok (.getfield 49, 3) := by decide +kernel
theorem dX12_message_669 : decode cX12_message 669 = .ok (.aload_n 0, 1) := by decide +kernel
theorem dX12_message_670 : decode cX12_message 670 = .ok (.getfield 34, 3) := by decide +kernel
theorem dX12_message_673 : decode cX12_message 673 = .ok (.aload_n 0, 1) := by decide +kernel
theorem dX12_message_674 : decode cX12_message 674 = .ok (.getfield 271, 3) := by decide +kernel
theorem dX12_message_677 : decode cX12_message 677 = .ok (.iaload, 1) := by decide +kernel
theorem dX12_message_678 : decode cX12_message 678 = .ok (.iaload, 1) := by decide +kernel
theorem dX12_message_679 : decode cX12_message 679 = .ok (.iastore, 1) := by decide +kernel
theorem dX12_message_680 : decode cX12_message 680 = .ok (.iload 5, 2) := by decide +kernel
theorem dX12_message_682 : decode cX12_message 682 = .ok (.ireturn, 1) := by decide +kernel
theorem dX12_copy_0 : decode cX12_copy 0 = .ok (.iconst 0, 1) := by decide +kernel
theorem dX12_copy_1 : decode cX12_copy 1 = .ok (.istore 4, 2) := by decide +kernel
theorem dX12_copy_3 : decode cX12_copy 3 = .ok (.iload 4, 2) := by decide +kernel
theorem dX12_copy_5 : decode cX12_copy 5 = .ok (.iload_n 3, 1) := by decide +kernel
theorem dX12_copy_6 : decode cX12_copy 6 = .ok (.if_icmp .ge 27, 3) := by decide +kernel
theorem dX12_copy_9 : decode cX12_copy 9 = .ok (.aload_n 0, 1) := by decide +kernel
theorem dX12_copy_10 : decode cX12_copy 10 = .ok (.getfield 150, 3) := by decide +kernel
theorem dX12_copy_13 : decode cX12_copy 13 = .ok (.iload_n 1, 1) := by decide +kernel
theorem dX12_copy_14 : decode cX12_copy 14 = .ok (.iload 4, 2) := by decide +kernel
theorem dX12_copy_16 : decode cX12_copy 16 = .ok (.iadd, 1) := by decide +kernel
theorem dX12_copy_17 : decode cX12_copy 17 = .ok (.aload_n 0, 1) := by decide +kernel
theorem dX12_copy_18 : decode cX12_copy 18 = .ok (.getfield 31, 3) := by decide +kernel
theorem dX12_copy_21 : decode cX12_copy 21 = .ok (.iload_n 2, 1) := by decide +kernel
theorem dX12_copy_22 : decode cX12_copy 22 = .ok (.iload 4, 2) := by decide +kernel
theorem dX12_copy_24 : decode cX12_copy 24 = .ok (.iadd, 1) := by decide +kernel
theorem dX12_copy_25 : decode cX12_copy 25 = .ok (.baload, 1) := by decide +kernel
theorem dX12_copy_26 : decode cX12_copy 26 = .ok (.bastore, 1) := by decide +kernel
theorem dX12_copy_27 : decode cX12_copy 27 = .ok (.iinc 4 1, 3) := by decide +kernel
theorem dX12_copy_30 : decode cX12_copy 30 = .ok (.goto (-27), 3) := by decide +kernel
theorem dX12_copy_33 : decode cX12_copy 33 = .ok (.iload_n 1, 1) := by decide +kernel
theorem dX12_copy_34 : decode cX12_copy 34 = .ok (.iload_n 3, 1) := by decide +kernel
theorem dX12_copy_35 : decode cX12_copy 35 = .ok (.iadd, 1) := by decide +kernel
theorem dX12_copy_36 : decode cX12_copy 36 = .ok (.ireturn, 1) := by decide +kernel
theorem dX12_gone_0 : decode cX12_gone 0 = .ok (.aload_n 0, 1) := by decide +kernel
theorem dX12_gone_1 : decode cX12_gone 1 = .ok (.getfield 165, 3) := by decide +kernel
theorem dX12_gone_4 : decode cX12_gone 4 = .ok (.iload_n 1, 1) := by decide +kernel
theorem dX12_gone_5 : decode cX12_gone 5 = .ok (.laload, 1) := by decide +kernel
theorem dX12_gone_6 : decode cX12_gone 6 = .ok (.lconst 0, 1) := by decide +kernel
theorem dX12_gone_7 : decode cX12_gone 7 = .ok (.lcmp, 1) := by decide +kernel
theorem dX12_gone_8 : decode cX12_gone 8 = .ok (.ifCond .lt 29, 3) := by decide +kernel
theorem dX12_gone_11 : decode cX12_gone 11 = .ok (.aload_n 0, 1) := by decide +kernel
theorem dX12_gone_12 : decode cX12_gone 12 = .ok (.getfield 268, 3) := by decide +kernel
theorem dX12_gone_15 : decode cX12_gone 15 = .ok (.aload_n 0, 1) := by decide +kernel
theorem dX12_gone_16 : decode cX12_gone 16 = .ok (.getfield 168, 3) := by decide +kernel
theorem dX12_gone_19 : decode cX12_gone 19 = .ok (.iload_n 1, 1) := by decide +kernel
theorem dX12_gone_20 : decode cX12_gone 20 = .ok (.iaload, 1) := by decide +kernel
theorem dX12_gone_21 : decode cX12_gone 21 = .ok (.isub, 1) := by decide +kernel
theorem dX12_gone_22 : decode cX12_gone 22 = .ok (.i2l, 1) := by decide +kernel
theorem dX12_gone_23 : decode cX12_gone 23 = .ok (.aload_n 0, 1) := by decide +kernel
theorem dX12_gone_24 : decode cX12_gone 24 = .ok (.getfield 165, 3) := by decide +kernel
theorem dX12_gone_27 : decode cX12_gone 27 = .ok (.iload_n 1, 1) := by decide +kernel
theorem dX12_gone_28 : decode cX12_gone 28 = .ok (.laload, 1) := by decide +kernel
theorem dX12_gone_29 : decode cX12_gone 29 = .ok (.lcmp, 1) := by decide +kernel
theorem dX12_gone_30 : decode cX12_gone 30 = .ok (.ifCond .lt 7, 3) := by decide +kernel
theorem dX12_gone_33 : decode cX12_gone 33 = .ok (.iconst 1, 1) := by decide +kernel
theorem dX12_gone_34 : decode cX12_gone 34 = .ok (.goto 4, 3) := by decide +kernel
theorem dX12_gone_37 : decode cX12_gone 37 = .ok (.iconst 0, 1) := by decide +kernel
theorem dX12_gone_38 : decode cX12_gone 38 = .ok (.ireturn, 1) := by decide +kernel
theorem dX12_sameTopic_0 : decode cX12_sameTopic 0 = .ok (.aload_n 0, 1) := by decide +kernel
theorem dX12_sameTopic_1 : decode cX12_sameTopic 1 = .ok (.getfield 153, 3) := by decide +kernel
theorem dX12_sameTopic_4 : decode cX12_sameTopic 4 = .ok (.iload_n 1, 1) := by decide +kernel
theorem dX12_sameTopic_5 : decode cX12_sameTopic 5 = .ok (.iaload, 1) := by decide +kernel
theorem dX12_sameTopic_6 : decode cX12_sameTopic 6 = .ok (.aload_n 0, 1) := by decide +kernel
theorem dX12_sameTopic_7 : decode cX12_sameTopic 7 = .ok (.getfield 153, 3) := by decide +kernel
theorem dX12_sameTopic_10 : decode cX12_sameTopic 10 = .ok (.iload_n 2, 1) := by decide +kernel
theorem dX12_sameTopic_11 : decode cX12_sameTopic 11 = .ok (.iaload, 1) := by decide +kernel
theorem dX12_sameTopic_12 : decode cX12_sameTopic 12 = .ok (.if_icmp .ne 7, 3) := by decide +kernel
theorem dX12_sameTopic_15 : decode cX12_sameTopic 15 = .ok (.iconst 1, 1) := by decide +kernel
theorem dX12_sameTopic_16 : decode cX12_sameTopic 16 = .ok (.goto 4, 3) := by decide +kernel
theorem dX12_sameTopic_19 : decode cX12_sameTopic 19 = .ok (.iconst 0, 1) := by decide +kernel
theorem dX12_sameTopic_20 : decode cX12_sameTopic 20 = .ok (.istore_n 3, 1) := by decide +kernel
theorem dX12_sameTopic_21 : decode cX12_sameTopic 21 = .ok (.iconst 0, 1) := by decide +kernel
theorem dX12_sameTopic_22 : decode cX12_sameTopic 22 = .ok (.istore 4, 2) := by decide +kernel
theorem dX12_sameTopic_24 : decode cX12_sameTopic 24 = .ok (.iload 4, 2) := by decide +kernel
theorem dX12_sameTopic_26 : decode cX12_sameTopic 26 = .ok (.aload_n 0, 1) := by decide +kernel
theorem dX12_sameTopic_27 : decode cX12_sameTopic 27 = .ok (.getfield 153, 3) := by decide +kernel
theorem dX12_sameTopic_30 : decode cX12_sameTopic 30 = .ok (.iload_n 1, 1) := by decide +kernel
theorem dX12_sameTopic_31 : decode cX12_sameTopic 31 = .ok (.iaload, 1) := by decide +kernel
theorem dX12_sameTopic_32 : decode cX12_sameTopic 32 = .ok (.if_icmp .ge 48, 3) := by decide +kernel
theorem dX12_sameTopic_35 : decode cX12_sameTopic 35 = .ok (.iload_n 3, 1) := by decide +kernel
theorem dX12_sameTopic_36 : decode cX12_sameTopic 36 = .ok (.ifCond .eq 44, 3) := by decide +kernel
theorem dX12_sameTopic_39 : decode cX12_sameTopic 39 = .ok (.aload_n 0, 1) := by decide +kernel
theorem dX12_sameTopic_40 : decode cX12_sameTopic 40 = .ok (.getfield 150, 3) := by decide +kernel
theorem dX12_sameTopic_43 : decode cX12_sameTopic 43 = .ok (.sipush 480, 3) := by decide +kernel
theorem dX12_sameTopic_46 : decode cX12_sameTopic 46 = .ok (.iload_n 1, 1) := by decide +kernel
theorem dX12_sameTopic_47 : decode cX12_sameTopic 47 = .ok (.imul, 1) := by decide +kernel
theorem dX12_sameTopic_48 : decode cX12_sameTopic 48 = .ok (.iload 4, 2) := by decide +kernel
theorem dX12_sameTopic_50 : decode cX12_sameTopic 50 = .ok (.iadd, 1) := by decide +kernel
theorem dX12_sameTopic_51 : decode cX12_sameTopic 51 = .ok (.baload, 1) := by decide +kernel
theorem dX12_sameTopic_52 : decode cX12_sameTopic 52 = .ok (.aload_n 0, 1) := by decide +kernel
theorem dX12_sameTopic_53 : decode cX12_sameTopic 53 = .ok (.getfield 150, 3) := by decide +kernel
theorem dX12_sameTopic_56 : decode cX12_sameTopic 56 = .ok (.sipush 480, 3) := by decide +kernel
theorem dX12_sameTopic_59 : decode cX12_sameTopic 59 = .ok (.iload_n 2, 1) := by decide +kernel
theorem dX12_sameTopic_60 : decode cX12_sameTopic 60 = .ok (.imul, 1) := by decide +kernel
theorem dX12_sameTopic_61 : decode cX12_sameTopic 61 = .ok (.iload 4, 2) := by decide +kernel
theorem dX12_sameTopic_63 : decode cX12_sameTopic 63 = .ok (.iadd, 1) := by decide +kernel
theorem dX12_sameTopic_64 : decode cX12_sameTopic 64 = .ok (.baload, 1) := by decide +kernel
theorem dX12_sameTopic_65 : decode cX12_sameTopic 65 = .ok (.if_icmp .ne 7, 3) := by decide +kernel
theorem dX12_sameTopic_68 : decode cX12_sameTopic 68 = .ok (.iconst 1, 1) := by decide +kernel
theorem dX12_sameTopic_69 : decode cX12_sameTopic 69 = .ok (.goto 4, 3) := by decide +kernel
theorem dX12_sameTopic_72 : decode cX12_sameTopic 72 = .ok (.iconst 0, 1) := by decide +kernel
theorem dX12_sameTopic_73 : decode cX12_sameTopic 73 = .ok (.istore_n 3, 1) := by decide +kernel
theorem dX12_sameTopic_74 : decode cX12_sameTopic 74 = .ok (.iinc 4 1, 3) := by decide +kernel
theorem dX12_sameTopic_77 : decode cX12_sameTopic 77 = .ok (.goto (-53), 3) := by decide +kernel
theorem dX12_sameTopic_80 : decode cX12_sameTopic 80 = .ok (.iload_n 3, 1) := by decide +kernel
theorem dX12_sameTopic_81 : decode cX12_sameTopic 81 = .ok (.ireturn, 1) := by decide +kernel
theorem dX12_purge_0 : decode cX12_purge 0 = .ok (.iconst 0, 1) := by decide +kernel
theorem dX12_purge_1 : decode cX12_purge 1 = .ok (.istore_n 1, 1) := by decide +kernel
theorem dX12_purge_2 : decode cX12_purge 2 = .ok (.iconst 0, 1) := by decide +kernel
theorem dX12_purge_3 : decode cX12_purge 3 = .ok (.istore_n 2, 1) := by decide +kernel
theorem dX12_purge_4 : decode cX12_purge 4 = .ok (.iload_n 2, 1) := by decide +kernel
theorem dX12_purge_5 : decode cX12_purge 5 = .ok (.aload_n 0, 1) := by decide +kernel
theorem dX12_purge_6 : decode cX12_purge 6 = .ok (.getfield 476, 3) := by decide +kernel
theorem dX12_purge_9 : decode cX12_purge 9 = .ok (.if_icmp .ge 37, 3) := by decide +kernel
theorem dX12_purge_12 : decode cX12_purge 12 = .ok (.aload_n 0, 1) := by decide +kernel
theorem dX12_purge_13 : decode cX12_purge 13 = .ok (.aload_n 0, 1) := by decide +kernel
theorem dX12_purge_14 : decode cX12_purge 14 = .ok (.getfield 207, 3) := by decide +kernel
theorem dX12_purge_17 : decode cX12_purge 17 = .ok (.iload_n 2, 1) := by decide +kernel
theorem dX12_purge_18 : decode cX12_purge 18 = .ok (.iaload, 1) := by decide +kernel
theorem dX12_purge_19 : decode cX12_purge 19 = .ok (.invokevirtual 483, 3) := by decide +kernel
theorem dX12_purge_22 : decode cX12_purge 22 = .ok (.ifCond .ne 18, 3) := by decide +kernel
theorem dX12_purge_25 : decode cX12_purge 25 = .ok (.aload_n 0, 1) := by decide +kernel
theorem dX12_purge_26 : decode cX12_purge 26 = .ok (.getfield 207, 3) := by decide +kernel
theorem dX12_purge_29 : decode cX12_purge 29 = .ok (.iload_n 1, 1) := by decide +kernel
theorem dX12_purge_30 : decode cX12_purge 30 = .ok (.iinc 1 1, 3) := by decide +kernel
theorem dX12_purge_33 : decode cX12_purge 33 = .ok (.aload_n 0, 1) := by decide +kernel
theorem dX12_purge_34 : decode cX12_purge 34 = .ok (.getfield 207, 3) := by decide +kernel
theorem dX12_purge_37 : decode cX12_purge 37 = .ok (.iload_n 2, 1) := by decide +kernel
theorem dX12_purge_38 : decode cX12_purge 38 = .ok (.iaload, 1) := by decide +kernel
theorem dX12_purge_39 : decode cX12_purge 39 = .ok (.iastore, 1) := by decide +kernel
theorem dX12_purge_40 : decode cX12_purge 40 = .ok (.iinc 2 1, 3) := by decide +kernel
theorem dX12_purge_43 : decode cX12_purge 43 = .ok (.goto (-39), 3) := by decide +kernel
theorem dX12_purge_46 : decode cX12_purge 46 = .ok (.aload_n 0, 1) := by decide +kernel
theorem dX12_purge_47 : decode cX12_purge 47 = .ok (.iload_n 1, 1) := by decide +kernel
theorem dX12_purge_48 : decode cX12_purge 48 = .ok (.putfield 476, 3) := by decide +kernel
theorem dX12_purge_51 : decode cX12_purge 51 = .ok (.return_, 1) := by decide +kernel
theorem dX12_keep_0 : decode cX12_keep 0 = .ok (.aload_n 0, 1) := by decide +kernel
theorem dX12_keep_1 : decode cX12_keep 1 = .ok (.invokevirtual 486, 3) := by decide +kernel
theorem dX12_keep_4 : decode cX12_keep 4 = .ok (.iconst 0, 1) := by decide +kernel
theorem dX12_keep_5 : decode cX12_keep 5 = .ok (.istore_n 2, 1) := by decide +kernel
theorem dX12_keep_6 : decode cX12_keep 6 = .ok (.iload_n 2, 1) := by decide +kernel
theorem dX12_keep_7 : decode cX12_keep 7 = .ok (.aload_n 0, 1) := by decide +kernel
theorem dX12_keep_8 : decode cX12_keep 8 = .ok (.getfield 476, 3) := by decide +kernel
theorem dX12_keep_11 : decode cX12_keep 11 = .ok (.if_icmp .ge 23, 3) := by decide +kernel
theorem dX12_keep_14 : decode cX12_keep 14 = .ok (.aload_n 0, 1) := by decide +kernel
theorem dX12_keep_15 : decode cX12_keep 15 = .ok (.aload_n 0, 1) := by decide +kernel
theorem dX12_keep_16 : decode cX12_keep 16 = .ok (.getfield 207, 3) := by decide +kernel
theorem dX12_keep_19 : decode cX12_keep 19 = .ok (.iload_n 2, 1) := by decide +kernel
theorem dX12_keep_20 : decode cX12_keep 20 = .ok (.iaload, 1) := by decide +kernel
theorem dX12_keep_21 : decode cX12_keep 21 = .ok (.iload_n 1, 1) := by decide +kernel
theorem dX12_keep_22 : decode cX12_keep 22 = .ok (.invokevirtual 489, 3) := by decide +kernel
theorem dX12_keep_25 : decode cX12_keep 25 = .ok (.ifCond .ne 9, 3) := by decide +kernel
theorem dX12_keep_28 : decode cX12_keep 28 = .ok (.iinc 2 1, 3) := by decide +kernel
theorem dX12_keep_31 : decode cX12_keep 31 = .ok (.goto (-25), 3) := by decide +kernel
theorem dX12_keep_34 : decode cX12_keep 34 = .ok (.aload_n 0, 1) := by decide +kernel
theorem dX12_keep_35 : decode cX12_keep 35 = .ok (.getfield 159, 3) := by decide +kernel
theorem dX12_keep_38 : decode cX12_keep 38 = .ok (.iload_n 1, 1) := by decide +kernel
theorem dX12_keep_39 : decode cX12_keep 39 = .ok (.iaload, 1) := by decide +kernel
theorem dX12_keep_40 : decode cX12_keep 40 = .ok (.ifCond .ne 55, 3) := by decide +kernel
theorem dX12_keep_43 : decode cX12_keep 43 = .ok (.iload_n 2, 1) := by decide +kernel
theorem dX12_keep_44 : decode cX12_keep 44 = .ok (.aload_n 0, 1) := by decide +kernel
theorem dX12_keep_45 : decode cX12_keep 45 = .ok (.getfield 476, 3) := by decide +kernel
theorem dX12_keep_48 : decode cX12_keep 48 = .ok (.if_icmp .ge 45, 3) := by decide +kernel
theorem dX12_keep_51 : decode cX12_keep 51 = .ok (.iload_n 2, 1) := by decide +kernel
theorem dX12_keep_52 : decode cX12_keep 52 = .ok (.istore_n 3, 1) := by decide +kernel
theorem dX12_keep_53 : decode cX12_keep 53 = .ok (.iload_n 3, 1) := by decide +kernel
theorem dX12_keep_54 : decode cX12_keep 54 = .ok (.iconst 1, 1) := by decide +kernel
theorem dX12_keep_55 : decode cX12_keep 55 = .ok (.iadd, 1) := by decide +kernel
theorem dX12_keep_56 : decode cX12_keep 56 = .ok (.aload_n 0, 1) := by decide +kernel
theorem dX12_keep_57 : decode cX12_keep 57 = .ok (.getfield 476, 3) := by decide +kernel
theorem dX12_keep_60 : decode cX12_keep 60 = .ok (.if_icmp .ge 23, 3) := by decide +kernel
theorem dX12_keep_63 : decode cX12_keep 63 = .ok (.aload_n 0, 1) := by decide +kernel
theorem dX12_keep_64 : decode cX12_keep 64 = .ok (.getfield 207, 3) := by decide +kernel
theorem dX12_keep_67 : decode cX12_keep 67 = .ok (.iload_n 3, 1) := by decide +kernel
theorem dX12_keep_68 : decode cX12_keep 68 = .ok (.aload_n 0, 1) := by decide +kernel
theorem dX12_keep_69 : decode cX12_keep 69 = .ok (.getfield 207, 3) := by decide +kernel
theorem dX12_keep_72 : decode cX12_keep 72 = .ok (.iload_n 3, 1) := by decide +kernel
theorem dX12_keep_73 : decode cX12_keep 73 = .ok (.iconst 1, 1) := by decide +kernel
theorem dX12_keep_74 : decode cX12_keep 74 = .ok (.iadd, 1) := by decide +kernel
theorem dX12_keep_75 : decode cX12_keep 75 = .ok (.iaload, 1) := by decide +kernel
theorem dX12_keep_76 : decode cX12_keep 76 = .ok (.iastore, 1) := by decide +kernel
theorem dX12_keep_77 : decode cX12_keep 77 = .ok (.iinc 3 1, 3) := by decide +kernel
theorem dX12_keep_80 : decode cX12_keep 80 = .ok (.goto (-27), 3) := by decide +kernel
theorem dX12_keep_83 : decode cX12_keep 83 = .ok (.aload_n 0, 1) := by decide +kernel
theorem dX12_keep_84 : decode cX12_keep 84 = .ok (.dup, 1) := by decide +kernel
theorem dX12_keep_85 : decode cX12_keep 85 = .ok (.getfield 476, 3) := by decide +kernel
theorem dX12_keep_88 : decode cX12_keep 88 = .ok (.iconst 1, 1) := by decide +kernel
theorem dX12_keep_89 : decode cX12_keep 89 = .ok (.isub, 1) := by decide +kernel
theorem dX12_keep_90 : decode cX12_keep 90 = .ok (.putfield 476, 3) := by decide +kernel
theorem dX12_keep_93 : decode cX12_keep 93 = .ok (.iconst 1, 1) := by decide +kernel
theorem dX12_keep_94 : decode cX12_keep 94 = .ok (.ireturn, 1) := by decide +kernel
theorem dX12_keep_95 : decode cX12_keep 95 = .ok (.iload_n 2, 1) := by decide +kernel
theorem dX12_keep_96 : decode cX12_keep 96 = .ok (.bipush 16, 2) := by decide +kernel
theorem dX12_keep_98 : decode cX12_keep 98 = .ok (.if_icmp .ne 5, 3) := by decide +kernel
theorem dX12_keep_101 : decode cX12_keep 101 = .ok (.iconst 0, 1) := by decide +kernel
theorem dX12_keep_102 : decode cX12_keep 102 = .ok (.ireturn, 1) := by decide +kernel
theorem dX12_keep_103 : decode cX12_keep 103 = .ok (.aload_n 0, 1) := by decide +kernel
theorem dX12_keep_104 : decode cX12_keep 104 = .ok (.getfield 207, 3) := by decide +kernel
theorem dX12_keep_107 : decode cX12_keep 107 = .ok (.iload_n 2, 1) := by decide +kernel
theorem dX12_keep_108 : decode cX12_keep 108 = .ok (.iload_n 1, 1) := by decide +kernel
theorem dX12_keep_109 : decode cX12_keep 109 = .ok (.iastore, 1) := by decide +kernel
theorem dX12_keep_110 : decode cX12_keep 110 = .ok (.iload_n 2, 1) := by decide +kernel
theorem dX12_keep_111 : decode cX12_keep 111 = .ok (.aload_n 0, 1) := by decide +kernel
theorem dX12_keep_112 : decode cX12_keep 112 = .ok (.getfield 476, 3) := by decide +kernel
theorem dX12_keep_115 : decode cX12_keep 115 = .ok (.if_icmp .ne 13, 3) := by decide +kernel
theorem dX12_keep_118 : decode cX12_keep 118 = .ok (.aload_n 0, 1) := by decide +kernel
theorem dX12_keep_119 : decode cX12_keep 119 = .ok (.dup, 1) := by decide +kernel
theorem dX12_keep_120 : decode cX12_keep 120 = .ok (.getfield 476, 3) := by decide +kernel
theorem dX12_keep_123 : decode cX12_keep 123 = .ok (.iconst 1, 1) := by decide +kernel
theorem dX12_keep_124 : decode cX12_keep 124 = .ok (.iadd, 1) := by decide +kernel
theorem dX12_keep_125 : decode cX12_keep 125 = .ok (.putfield 476, 3) := by decide +kernel
theorem dX12_keep_128 : decode cX12_keep 128 = .ok (.iconst 1, 1) := by decide +kernel
theorem dX12_keep_129 : decode cX12_keep 129 = .ok (.ireturn, 1) := by decide +kernel
theorem dX12_answer_0 : decode cX12_answer 0 = .ok (.aload_n 0, 1) := by decide +kernel
theorem dX12_answer_1 : decode cX12_answer 1 = .ok (.iconst 0, 1) := by decide +kernel
theorem dX12_answer_2 : decode cX12_answer 2 = .ok (.putfield 306, 3) := by decide +kernel
theorem dX12_answer_5 : decode cX12_answer 5 = .ok (.aload_n 0, 1) := by decide +kernel
theorem dX12_answer_6 : decode cX12_answer 6 = .ok (.iload_n 1, 1) := by decide +kernel
theorem dX12_answer_7 : decode cX12_answer 7 = .ok (.invokevirtual 309, 3) := by decide +kernel
theorem dX12_answer_10 : decode cX12_answer 10 = .ok (.aload_n 0, 1) := by decide +kernel
theorem dX12_answer_11 : decode cX12_answer 11 = .ok (.iload_n 3, 1) := by decide +kernel
theorem dX12_answer_12 : decode cX12_answer 12 = .ok (.ifCond .ne 7, 3) := by decide +kernel
theorem dX12_answer_15 : decode cX12_answer 15 = .ok (.iconst 2, 1) := by decide +kernel
theorem dX12_answer_16 : decode cX12_answer 16 = .ok (.goto 4, 3) := by decide +kernel
theorem dX12_answer_19 : decode cX12_answer 19 = .ok (.iconst 3, 1) := by decide +kernel
theorem dX12_answer_20 : decode cX12_answer 20 = .ok (.invokevirtual 309, 3) := by decide +kernel
theorem dX12_answer_23 : decode cX12_answer 23 = .ok (.aload_n 0, 1) := by decide +kernel
theorem dX12_answer_24 : decode cX12_answer 24 = .ok (.iload_n 2, 1) := by decide +kernel
theorem dX12_answer_25 : decode cX12_answer 25 = .ok (.bipush 8, 2) := by decide +kernel
theorem dX12_answer_27 : decode cX12_answer 27 = .ok (.ishr, 1) := by decide +kernel
theorem dX12_answer_28 : decode cX12_answer 28 = .ok (.invokevirtual 309, 3) := by decide +kernel
theorem dX12_answer_31 : decode cX12_answer 31 = .ok (.aload_n 0, 1) := by decide +kernel
theorem dX12_answer_32 : decode cX12_answer 32 = .ok (.iload_n 2, 1) := by decide +kernel
theorem dX12_answer_33 : decode cX12_answer 33 = .ok (.invokevirtual 309, 3) := by decide +kernel
theorem dX12_answer_36 : decode cX12_answer 36 = .ok (.iload_n 3, 1) := by decide +kernel
theorem dX12_answer_37 : decode cX12_answer 37 = .ok (.ifCond .eq 8, 3) := by decide +kernel
theorem dX12_answer_40 : decode cX12_answer 40 = .ok (.aload_n 0, 1) := by decide +kernel
theorem dX12_answer_41 : decode cX12_answer 41 = .ok (.iload_n 3, 1) := by decide +kernel
theorem dX12_answer_42 : decode cX12_answer 42 = .ok (.invokevirtual 309, 3) := by decide +kernel
theorem dX12_answer_45 : decode cX12_answer 45 = .ok (.aload_n 0, 1) := by decide +kernel
theorem dX12_answer_46 : decode cX12_answer 46 = .ok (.aload_n 0, 1) := by decide +kernel
theorem dX12_answer_47 : decode cX12_answer 47 = .ok (.getfield 271, 3) := by decide +kernel
theorem dX12_answer_50 : decode cX12_answer 50 = .ok (.invokevirtual 312, 3) := by decide +kernel
theorem dX12_answer_53 : decode cX12_answer 53 = .ok (.return_, 1) := by decide +kernel
theorem dX12_publish_0 : decode cX12_publish 0 = .ok (.aload_n 0, 1) := by decide +kernel
theorem dX12_publish_1 : decode cX12_publish 1 = .ok (.getfield 34, 3) := by decide +kernel
theorem dX12_publish_4 : decode cX12_publish 4 = .ok (.aload_n 0, 1) := by decide +kernel
theorem dX12_publish_5 : decode cX12_publish 5 = .ok (.getfield 271, 3) := by decide +kernel
theorem dX12_publish_8 : decode cX12_publish 8 = .ok (.iaload, 1) := by decide +kernel
theorem dX12_publish_9 : decode cX12_publish 9 = .ok (.istore_n 3, 1) := by decide +kernel
theorem dX12_publish_10 : decode cX12_publish 10 = .ok (.aload_n 0, 1) := by decide +kernel
theorem dX12_publish_11 : decode cX12_publish 11 = .ok (.invokevirtual 388, 3) := by decide +kernel
theorem dX12_publish_14 : decode cX12_publish 14 = .ok (.aload_n 0, 1) := by decide +kernel
theorem dX12_publish_15 : decode cX12_publish 15 = .ok (.getfield 353, 3) := by decide +kernel
theorem dX12_publish_18 : decode cX12_publish 18 = .ok (.istore 4, 2) := by decide +kernel
theorem dX12_publish_20 : decode cX12_publish 20 = .ok (.aload_n 0, 1) := by decide +kernel
theorem dX12_publish_21 : decode cX12_publish 21 = .ok (.getfield 356, 3) := by decide +kernel
theorem dX12_publish_24 : decode cX12_publish 24 = .ok (.istore 5, 2) := by decide +kernel
theorem dX12_publish_26 : decode cX12_publish 26 = .ok (.aload_n 0, 1) := by decide +kernel
theorem dX12_publish_27 : decode cX12_publish 27 = .ok (.getfield 283, 3) := by decide +kernel
theorem dX12_publish_30 : decode cX12_publish 30 = .ok (.ifCond .ne 29, 3) := by decide +kernel
theorem dX12_publish_33 : decode cX12_publish 33 = .ok (.iload 5, 2) := by decide +kernel
theorem dX12_publish_35 : decode cX12_publish 35 = .ok (.ifCond .le 24, 3) := by decide +kernel
theorem dX12_publish_38 : decode cX12_publish 38 = .ok (.aload_n 0, 1) := by decide +kernel
theorem dX12_publish_39 : decode cX12_publish 39 = .ok (.getfield 31, 3) := by decide +kernel
theorem dX12_publish_42 : decode cX12_publish 42 = .ok (.iload 4, 2) := by decide +kernel
theorem dX12_publish_44 : decode cX12_publish 44 = .ok (.iload 5, 2) := by decide +kernel
theorem dX12_publish_46 : decode cX12_publish 46 = .ok (.invokestatic 427, 3) := by decide +kernel
theorem dX12_publish_49 : decode cX12_publish 49 = .ok (.ifCond .ne 10, 3) := by decide +kernel
theorem dX12_publish_52 : decode cX12_publish 52 = .ok (.aload_n 0, 1) := by decide +kernel
theorem dX12_publish_53 : decode cX12_publish 53 = .ok (.sipush 144, 3) := by decide +kernel
theorem dX12_publish_56 : decode cX12_publish 56 = .ok (.invokevirtual 343, 3) := by decide +kernel
theorem dX12_publish_59 : decode cX12_publish 59 = .ok (.iconst 0, 1) := by decide +kernel
theorem dX12_publish_60 : decode cX12_publish 60 = .ok (.istore 6, 2) := by decide +kernel
theorem dX12_publish_62 : decode cX12_publish 62 = .ok (.iload_n 1, 1) := by decide +kernel
theorem dX12_publish_63 : decode cX12_publish 63 = .ok (.ifCond .le 28, 3) := by decide +kernel
theorem dX12_publish_66 : decode cX12_publish 66 = .ok (.aload_n 0, 1) := by decide +kernel
theorem dX12_publish_67 : decode cX12_publish 67 = .ok (.invokevirtual 350, 3) := by decide +kernel
theorem dX12_publish_70 : decode cX12_publish 70 = .ok (.istore 6, 2) := by decide +kernel
theorem dX12_publish_72 : decode cX12_publish 72 = .ok (.aload_n 0, 1) := by decide +kernel
theorem dX12_publish_73 : decode cX12_publish 73 = .ok (.getfield 283, 3) := by decide +kernel
theorem dX12_publish_76 : decode cX12_publish 76 = .ok (.ifCond .ne 15, 3) := by decide +kernel
theorem dX12_publish_79 : decode cX12_publish 79 = .ok (.iload 6, 2) := by decide +kernel
theorem dX12_publish_81 : decode cX12_publish 81 = .ok (.ifCond .ne 10, 3) := by decide +kernel
theorem dX12_publish_84 : decode cX12_publish 84 = .ok (.aload_n 0, 1) := by decide +kernel
theorem dX12_publish_85 : decode cX12_publish 85 = .ok (.sipush 130, 3) := by decide +kernel
theorem dX12_publish_88 : decode cX12_publish 88 = .ok (.invokevirtual 343, 3) := by decide +kernel
theorem dX12_publish_91 : decode cX12_publish 91 = .ok (.aload_n 0, 1) := by decide +kernel
theorem dX12_publish_92 : decode cX12_publish 92 = .ok (.getfield 283, 3) := by decide +kernel
theorem dX12_publish_95 : decode cX12_publish 95 = .ok (.ifCond .eq 4, 3) := by decide +kernel
theorem dX12_publish_98 : decode cX12_publish 98 = .ok (.return_, 1) := by decide +kernel
theorem dX12_publish_99 : decode cX12_publish 99 = .ok (.aload_n 0, 1) := by decide +kernel
theorem dX12_publish_100 : decode cX12_publish 100 = .ok (.iconst 1, 1) := by decide +kernel
theorem dX12_publish_101 : decode cX12_publish 101 = .ok (.invokestatic 381, 3) := by decide +kernel
theorem dX12_publish_104 : decode cX12_publish 104 = .ok (.iconst 2, 1) := by decide +kernel
theorem dX12_publish_105 : decode cX12_publish 105 = .ok (.invokestatic 381, 3) := by decide +kernel
theorem dX12_publish_108 : decode cX12_publish 108 = .ok (.lor, 1) := by decide +kernel
theorem dX12_publish_109 : decode cX12_publish 109 = .ok (.iconst 3, 1) := by decide +kernel
theorem dX12_publish_110 : decode cX12_publish 110 = .ok (.invokestatic 381, 3) := by decide +kernel
theorem dX12_publish_113 : decode cX12_publish 113 = .ok (.lor, 1) := by decide +kernel
theorem dX12_publish_114 : decode cX12_publish 114 = .ok (.bipush 8, 2) := by decide +kernel
theorem dX12_publish_116 : decode cX12_publish 116 = .ok (.invokestatic 381, 3) := by decide +kernel
theorem dX12_publish_119 : decode cX12_publish 119 = .ok (.lor, 1) := by decide +kernel
theorem dX12_publish_120 : decode cX12_publish 120 = .ok (.bipush 9, 2) := by decide +kernel
theorem dX12_publish_122 : decode cX12_publish 122 = .ok (.invokestatic 381, 3) := by decide +kernel
theorem dX12_publish_125 : decode cX12_publish 125 = .ok (.lor, 1) := by decide +kernel
theorem dX12_publish_126 : decode cX12_publish 126 = .ok (.bipush 35, 2) := by decide +kernel
theorem dX12_publish_128 : decode cX12_publish 128 = .ok (.invokestatic 381, 3) := by decide +kernel
theorem dX12_publish_131 : decode cX12_publish 131 = .ok (.lor, 1) := by decide +kernel
theorem dX12_publish_132 : decode cX12_publish 132 = .ok (.bipush 38, 2) := by decide +kernel
theorem dX12_publish_134 : decode cX12_publish 134 = .ok (.invokestatic 381, 3) := by decide +kernel
theorem dX12_publish_137 : decode cX12_publish 137 = .ok (.lor, 1) := by decide +kernel
theorem dX12_publish_138 : decode cX12_publish 138 = .ok (.invokevirtual 419, 3) := by decide +kernel
theorem dX12_publish_141 : decode cX12_publish 141 = .ok (.aload_n 0, 1) := by decide +kernel
theorem dX12_publish_142 : decode cX12_publish 142 = .ok (.getfield 283, 3) := by decide +kernel
theorem dX12_publish_145 : decode cX12_publish 145 = .ok (.ifCond .ne 44, 3) := by decide +kernel
theorem dX12_publish_148 : decode cX12_publish 148 = .ok (.aload_n 0, 1) := by decide +kernel
theorem dX12_publish_149 : decode cX12_publish 149 = .ok (.getfield 210, 3) := by decide +kernel
theorem dX12_publish_152 : decode cX12_publish 152 = .ok (.bipush 8, 2) := by decide +kernel
theorem dX12_publish_154 : decode cX12_publish 154 = .ok (.baload, 1) := by decide +kernel
theorem dX12_publish_155 : decode cX12_publish 155 = .ok (.ifCond .eq 34, 3) := by decide +kernel
theorem dX12_publish_158 : decode cX12_publish 158 = .ok (.aload_n 0, 1) := by decide +kernel
theorem dX12_publish_159 : decode cX12_publish 159 = .ok (.getfield 31, 3) := by decide +kernel
theorem dX12_publish_162 : decode cX12_publish 162 = .ok (.aload_n 0, 1) := by decide +kernel
theorem dX12_publish_163 : decode cX12_publish 163 = .ok (.getfield 216, 3) := by decide +kernel
theorem dX12_publish_166 : decode cX12_publish 166 = .ok (.bipush 8, 2) := by decide +kernel
theorem dX12_publish_168 : decode cX12_publish 168 = .ok (.iaload, 1) := by decide +kernel
theorem dX12_publish_169 : decode cX12_publish 169 = .ok (.aload_n 0, 1) := by decide +kernel
theorem dX12_publish_170 : decode cX12_publish 170 = .ok (.getfield 219, 3) := by decide +kernel
theorem dX12_publish_173 : decode cX12_publish 173 = .ok (.bipush 8, 2) := by decide +kernel
theorem dX12_publish_175 : decode cX12_publish 175 = .ok (.iaload, 1) := by decide +kernel
theorem dX12_publish_176 : decode cX12_publish 176 = .ok (.invokestatic 427, 3) := by decide +kernel
theorem dX12_publish_179 : decode cX12_publish 179 = .ok (.ifCond .ne 10, 3) := by decide +kernel
theorem dX12_publish_182 : decode cX12_publish 182 = .ok (.aload_n 0, 1) := by decide +kernel
theorem dX12_publish_183 : decode cX12_publish 183 = .ok (.sipush 130, 3) := by decide +kernel
theorem dX12_publish_186 : decode cX12_publish 186 = .ok (.invokevirtual 343, 3) := by decide +kernel
theorem dX12_publish_189 : decode cX12_publish 189 = .ok (.aload_n 0, 1) := by decide +kernel
theorem dX12_publish_190 : decode cX12_publish 190 = .ok (.getfield 283, 3) := by decide +kernel
theorem dX12_publish_193 : decode cX12_publish 193 = .ok (.ifCond .ne 46, 3) := by decide +kernel
theorem dX12_publish_196 : decode cX12_publish 196 = .ok (.aload_n 0, 1) := by decide +kernel
theorem dX12_publish_197 : decode cX12_publish 197 = .ok (.getfield 210, 3) := by decide +kernel
theorem dX12_publish_200 : decode cX12_publish 200 = .ok (.bipush 35, 2) := by decide +kernel
theorem dX12_publish_202 : decode cX12_publish 202 = .ok (.baload, 1) := by decide +kernel
theorem dX12_publish_203 : decode cX12_publish 203 = .ok (.ifCond .eq 36, 3) := by decide +kernel
theorem dX12_publish_206 : decode cX12_publish 206 = .ok (.aload_n 0, 1) := by decide +kernel
theorem dX12_publish_207 : decode cX12_publish 207 = .ok (.getfield 213, 3) := by decide +kernel
theorem dX12_publish_210 : decode cX12_publish 210 = .ok (.bipush 35, 2) := by decide +kernel
theorem dX12_publish_212 : decode cX12_publish 212 = .ok (.laload, 1) := by decide +kernel
theorem dX12_publish_213 : decode cX12_publish 213 = .ok (.lconst 0, 1) := by decide +kernel
theorem dX12_publish_214 : decode cX12_publish 214 = .ok (.lcmp, 1) := by decide +kernel
theorem dX12_publish_215 : decode cX12_publish 215 = .ok (.ifCond .eq 17, 3) := by decide +kernel
theorem dX12_publish_218 : decode cX12_publish 218 = .ok (.aload_n 0, 1) := by decide +kernel
theorem dX12_publish_219 : decode cX12_publish 219 = .ok (.getfield 213, 3) := by decide +kernel
theorem dX12_publish_222 : decode cX12_publish 222 = .ok (.bipush 35, 2) := by decide +kernel
theorem dX12_publish_224 : decode cX12_publish 224 = .ok (.laload, 1) := by decide +kernel
theorem dX12_publish_225 : decode cX12_publish 225 = .ok (.ldc2_w 492, 3) := by decide +kernel
theorem dX12_publish_228 : decode cX12_publish 228 = .ok (.lcmp, 1) := by decide +kernel
theorem dX12_publish_229 : decode cX12_publish 229 = .ok (.ifCond .le 10, 3) := by decide +kernel
theorem dX12_publish_232 : decode cX12_publish 232 = .ok (.aload_n 0, 1) := by decide +kernel
theorem dX12_publish_233 : decode cX12_publish 233 = .ok (.sipush 148, 3) := by decide +kernel
theorem dX12_publish_236 : decode cX12_publish 236 = .ok (.invokevirtual 343, 3) := by decide +kernel
theorem dX12_publish_239 : decode cX12_publish 239 = .ok (.aload_n 0, 1) := by decide +kernel
theorem dX12_publish_240 : decode cX12_publish 240 = .ok (.getfield 283, 3) := by decide +kernel
theorem dX12_publish_243 : decode cX12_publish 243 = .ok (.ifCond .eq 4, 3) := by decide +kernel
theorem dX12_publish_246 : decode cX12_publish 246 = .ok (.return_, 1) := by decide +kernel
theorem dX12_publish_247 : decode cX12_publish 247 = .ok (.aload_n 0, 1) := by decide +kernel
theorem dX12_publish_248 : decode cX12_publish 248 = .ok (.getfield 210, 3) := by decide +kernel
theorem dX12_publish_251 : decode cX12_publish 251 = .ok (.bipush 35, 2) := by decide +kernel
theorem dX12_publish_253 : decode cX12_publish 253 = .ok (.baload, 1) := by decide +kernel
theorem dX12_publish_254 : decode cX12_publish 254 = .ok (.ifCond .eq 23, 3) := by decide +kernel
theorem dX12_publish_257 : decode cX12_publish 257 = .ok (.iconst 4, 1) := by decide +kernel
theorem dX12_publish_258 : decode cX12_publish 258 = .ok (.aload_n 0, 1) := by decide +kernel
theorem dX12_publish_259 : decode cX12_publish 259 = .ok (.getfield 271, 3) := by decide +kernel
theorem dX12_publish_262 : decode cX12_publish 262 = .ok (.imul, 1) := by decide +kernel
theorem dX12_publish_263 : decode cX12_publish 263 = .ok (.aload_n 0, 1) := by decide +kernel
theorem dX12_publish_264 : decode cX12_publish 264 = .ok (.getfield 213, 3) := by decide +kernel
theorem dX12_publish_267 : decode cX12_publish 267 = .ok (.bipush 35, 2) := by decide +kernel
theorem dX12_publish_269 : decode cX12_publish 269 = .ok (.laload, 1) := by decide +kernel
theorem dX12_publish_270 : decode cX12_publish 270 = .ok (.l2i, 1) := by decide +kernel
theorem dX12_publish_271 : decode cX12_publish 271 = .ok (.iadd, 1) := by decide +kernel
theorem dX12_publish_272 : decode cX12_publish 272 = .ok (.iconst 1, 1) := by decide +kernel
theorem dX12_publish_273 : decode cX12_publish 273 = .ok (.isub, 1) := by decide +kernel
theorem dX12_publish_274 : decode cX12_publish 274 = .ok (.goto 4, 3) := by decide +kernel
theorem dX12_publish_277 : decode cX12_publish 277 = .ok (.iconst (-1), 1) := by decide +kernel
theorem dX12_publish_278 : decode cX12_publish 278 = .ok (.istore 7, 2) := by decide +kernel
theorem dX12_publish_280 : decode cX12_publish 280 = .ok (.iload 5, 2) := by decide +kernel
theorem dX12_publish_282 : decode cX12_publish 282 = .ok (.ifCond .ne 26, 3) := by decide +kernel
theorem dX12_publish_285 : decode cX12_publish 285 = .ok (.iload 7, 2) := by decide +kernel
theorem dX12_publish_287 : decode cX12_publish 287 = .ok (.ifCond .lt 13, 3) := by decide +kernel
theorem dX12_publish_290 : decode cX12_publish 290 = .ok (.aload_n 0, 1) := by decide +kernel
theorem dX12_publish_291 : decode cX12_publish 291 = .ok (.getfield 40, 3) := by decide +kernel
theorem dX12_publish_294 : decode cX12_publish 294 = .ok (.iload 7, 2) := by decide +kernel
theorem dX12_publish_296 : decode cX12_publish 296 = .ok (.iaload, 1) := by decide +kernel
theorem dX12_publish_297 : decode cX12_publish 297 = .ok (.ifCond .ne 11, 3) := by decide +kernel
theorem dX12_publish_300 : decode cX12_publish 300 = .ok (.aload_n 0, 1) := by decide +kernel
theorem dX12_publish_301 : decode cX12_publish 301 = .ok (.sipush 130, 3) := by decide +kernel
theorem dX12_publish_304 : decode cX12_publish 304 = .ok (.invokevirtual 343, 3) := by decide +kernel
theorem dX12_publish_307 : decode cX12_publish 307 = .ok (.return_, 1) := by decide +kernel
theorem dX12_publish_308 : decode cX12_publish 308 = .ok (.aload_n 0, 1) := by decide +kernel
theorem dX12_publish_309 : decode cX12_publish 309 = .ok (.iload 5, 2) := by decide +kernel
theorem dX12_publish_311 : decode cX12_publish 311 = .ok (.ifCond .ne 13, 3) := by decide +kernel
theorem dX12_publish_314 : decode cX12_publish 314 = .ok (.aload_n 0, 1) := by decide +kernel
theorem dX12_publish_315 : decode cX12_publish 315 = .ok (.getfield 40, 3) := by decide +kernel
theorem dX12_publish_318 : decode cX12_publish 318 = .ok (.iload 7, 2) := by decide +kernel
theorem dX12_publish_320 : decode cX12_publish 320 = .ok (.iaload, 1) := by decide +kernel
theorem dX12_publish_321 : decode cX12_publish 321 = .ok (.goto 5, 3) := by decide +kernel
theorem dX12_publish_324 : decode cX12_publish 324 = .ok (.iload 5, 2) := by decide +kernel
theorem dX12_publish_326 : decode cX12_publish 326 = .ok (.putfield 443, 3) := by decide +kernel
theorem dX12_publish_329 : decode cX12_publish 329 = .ok (.iconst 0, 1) := by decide +kernel
theorem dX12_publish_330 : decode cX12_publish 330 = .ok (.istore 8, 2) := by decide +kernel
theorem dX12_publish_332 : decode cX12_publish 332 = .ok (.iload 8, 2) := by decide +kernel
theorem dX12_publish_334 : decode cX12_publish 334 = .ok (.aload_n 0, 1) := by decide +kernel
theorem dX12_publish_335 : decode cX12_publish 335 = .ok (.getfield 443, 3) := by decide +kernel
theorem dX12_publish_338 : decode cX12_publish 338 = .ok (.if_icmp .ge 47, 3) := by decide +kernel
theorem dX12_publish_341 : decode cX12_publish 341 = .ok (.aload_n 0, 1) := by decide +kernel
theorem dX12_publish_342 : decode cX12_publish 342 = .ok (.getfield 246, 3) := by decide +kernel
theorem dX12_publish_345 : decode cX12_publish 345 = .ok (.iload 8, 2) := by decide +kernel
theorem dX12_publish_347 : decode cX12_publish 347 = .ok (.iload 5, 2) := by decide +kernel
theorem dX12_publish_349 : decode cX12_publish 349 = .ok (.ifCond .ne 19, 3) := by decide +kernel
theorem dX12_publish_352 : decode cX12_publish 352 = .ok (.aload_n 0, 1) := by decide +kernel
theorem dX12_publish_353 : decode cX12_publish 353 = .ok (.getfield 43, 3) := by decide +kernel
theorem dX12_publish_356 : decode cX12_publish 356 = .ok (.bipush 64, 2) := by decide +kernel
theorem dX12_publish_358 : decode cX12_publish 358 = .ok (.iload 7, 2) := by decide +kernel
theorem dX12_publish_360 : decode cX12_publish 360 = .ok (.imul, 1) := by decide +kernel
theorem dX12_publish_361 : decode cX12_publish 361 = .ok (.iload 8, 2) := by decide +kernel
theorem dX12_publish_363 : decode cX12_publish 363 = .ok (.iadd, 1) := by decide +kernel
theorem dX12_publish_364 : decode cX12_publish 364 = .ok (.baload, 1) := by decide +kernel
theorem dX12_publish_365 : decode cX12_publish 365 = .ok (.goto 13, 3) := by decide +kernel
theorem dX12_publish_368 : decode cX12_publish 368 = .ok (.aload_n 0, 1) := by decide +kernel
theorem dX12_publish_369 : decode cX12_publish 369 = .ok (.getfield 31, 3) := by decide +kernel
theorem dX12_publish_372 : decode cX12_publish 372 = .ok (.iload 4, 2) := by decide +kernel
theorem dX12_publish_374 : decode cX12_publish 374 = .ok (.iload 8, 2) := by decide +kernel
theorem dX12_publish_376 : decode cX12_publish 376 = .ok (.iadd, 1) := by decide +kernel
theorem dX12_publish_377 : decode cX12_publish 377 = .ok (.baload, 1) := by decide +kernel
theorem dX12_publish_378 : decode cX12_publish 378 = .ok (.bastore, 1) := by decide +kernel
theorem dX12_publish_379 : decode cX12_publish 379 = .ok (.iinc 8 1, 3) := by decide +kernel
theorem dX12_publish_382 : decode cX12_publish 382 = .ok (.goto (-50), 3) := by decide +kernel
theorem dX12_publish_385 : decode cX12_publish 385 = .ok (.iload 7, 2) := by decide +kernel
theorem dX12_publish_387 : decode cX12_publish 387 = .ok (.ifCond .lt 52, 3) := by decide +kernel
theorem dX12_publish_390 : decode cX12_publish 390 = .ok (.aload_n 0, 1) := by decide +kernel
theorem dX12_publish_391 : decode cX12_publish 391 = .ok (.getfield 40, 3) := by decide +kernel
theorem dX12_publish_394 : decode cX12_publish 394 = .ok (.iload 7, 2) := by decide +kernel
theorem dX12_publish_396 : decode cX12_publish 396 = .ok (.aload_n 0, 1) := by decide +kernel
theorem dX12_publish_397 : decode cX12_publish 397 = .ok (.getfield 443, 3) := by decide +kernel
theorem dX12_publish_400 : decode cX12_publish 400 = .ok (.iastore, 1) := by decide +kernel
theorem dX12_publish_401 : decode cX12_publish 401 = .ok (.iconst 0, 1) := by decide +kernel
theorem dX12_publish_402 : decode cX12_publish 402 = .ok (.istore 8, 2) := by decide +kernel
theorem dX12_publish_404 : decode cX12_publish 404 = .ok (.iload 8, 2) := by decide +kernel
theorem dX12_publish_406 : decode cX12_publish 406 = .ok (.aload_n 0, 1) := by decide +kernel
theorem dX12_publish_407 : decode cX12_publish 407 = .ok (.getfield 443, 3) := by decide +kernel
theorem dX12_publish_410 : decode cX12_publish 410 = .ok (.if_icmp .ge 29, 3) := by decide +kernel
theorem dX12_publish_413 : decode cX12_publish 413 = .ok (.aload_n 0, 1) := by decide +kernel
theorem dX12_publish_414 : decode cX12_publish 414 = .ok (.getfield 43, 3) := by decide +kernel
theorem dX12_publish_417 : decode cX12_publish 417 = .ok (.bipush 64, 2) := by decide +kernel
theorem dX12_publish_419 : decode cX12_publish 419 = .ok (.iload 7, 2) := by decide +kernel
theorem dX12_publish_421 : decode cX12_publish 421 = .ok (.imul, 1) := by decide +kernel
theorem dX12_publish_422 : decode cX12_publish 422 = .ok (.iload 8, 2) := by decide +kernel
theorem dX12_publish_424 : decode cX12_publish 424 = .ok (.iadd, 1) := by decide +kernel
theorem dX12_publish_425 : decode cX12_publish 425 = .ok (.aload_n 0, 1) := by decide +kernel
theorem dX12_publish_426 : decode cX12_publish 426 = .ok (.getfield 246, 3) := by decide +kernel
theorem dX12_publish_429 : decode cX12_publish 429 = .ok (.iload 8, 2) := by decide +kernel
theorem dX12_publish_431 : decode cX12_publish 431 = .ok (.baload, 1) := by decide +kernel
theorem dX12_publish_432 : decode cX12_publish 432 = .ok (.bastore, 1) := by decide +kernel
theorem dX12_publish_433 : decode cX12_publish 433 = .ok (.iinc 8 1, 3) := by decide +kernel
theorem dX12_publish_436 : decode cX12_publish 436 = .ok (.goto (-32), 3) := by decide +kernel
theorem dX12_publish_439 : decode cX12_publish 439 = .ok (.iload_n 1, 1) := by decide +kernel
theorem dX12_publish_440 : decode cX12_publish 440 = .ok (.iconst 2, 1) := by decide +kernel
theorem dX12_publish_441 : decode cX12_publish 441 = .ok (.if_icmp .ne 23, 3) := by decide +kernel
theorem dX12_publish_444 : decode cX12_publish 444 = .ok (.aload_n 0, 1) := by decide +kernel
theorem dX12_publish_445 : decode cX12_publish 445 = .ok (.iload_n 3, 1) := by decide +kernel
theorem dX12_publish_446 : decode cX12_publish 446 = .ok (.iload 6, 2) := by decide +kernel
theorem dX12_publish_448 : decode cX12_publish 448 = .ok (.invokevirtual 494, 3) := by decide +kernel
theorem dX12_publish_451 : decode cX12_publish 451 = .ok (.ifCond .lt 13, 3) := by decide +kernel
theorem dX12_publish_454 : decode cX12_publish 454 = .ok (.aload_n 0, 1) := by decide +kernel
theorem dX12_publish_455 : decode cX12_publish 455 = .ok (.bipush 80, 2) := by decide +kernel
theorem dX12_publish_457 : decode cX12_publish 457 = .ok (.iload 6, 2) := by decide +kernel
theorem dX12_publish_459 : decode cX12_publish 459 = .ok (.iconst 0, 1) := by decide +kernel
theorem dX12_publish_460 : decode cX12_publish 460 = .ok (.invokevirtual 497, 3) := by decide +kernel
theorem dX12_publish_463 : decode cX12_publish 463 = .ok (.return_, 1) := by decide +kernel
theorem dX12_publish_464 : decode cX12_publish 464 = .ok (.iload_n 1, 1) := by decide +kernel
theorem dX12_publish_465 : decode cX12_publish 465 = .ok (.iconst 2, 1) := by decide +kernel
theorem dX12_publish_466 : decode cX12_publish 466 = .ok (.if_icmp .ne 22, 3) := by decide +kernel
theorem dX12_publish_469 : decode cX12_publish 469 = .ok (.aload_n 0, 1) := by decide +kernel
theorem dX12_publish_470 : decode cX12_publish 470 = .ok (.getfield 143, 3) := by decide +kernel
theorem dX12_publish_473 : decode cX12_publish 473 = .ok (.iload_n 3, 1) := by decide +kernel
theorem dX12_publish_474 : decode cX12_publish 474 = .ok (.iaload, 1) := by decide +kernel
theorem dX12_publish_475 : decode cX12_publish 475 = .ok (.bipush 8, 2) := by decide +kernel
theorem dX12_publish_477 : decode cX12_publish 477 = .ok (.if_icmp .ne 11, 3) := by decide +kernel
theorem dX12_publish_480 : decode cX12_publish 480 = .ok (.aload_n 0, 1) := by decide +kernel
theorem dX12_publish_481 : decode cX12_publish 481 = .ok (.sipush 147, 3) := by decide +kernel
theorem dX12_publish_484 : decode cX12_publish 484 = .ok (.invokevirtual 343, 3) := by decide +kernel
theorem dX12_publish_487 : decode cX12_publish 487 = .ok (.return_, 1) := by decide +kernel
theorem dX12_publish_488 : decode cX12_publish 488 = .ok (.aload_n 0, 1) := by decide +kernel
theorem dX12_publish_489 : decode cX12_publish 489 = .ok (.aload_n 0, 1) := by decide +kernel
theorem dX12_publish_490 : decode cX12_publish 490 = .ok (.getfield 274, 3) := by decide +kernel
theorem dX12_publish_493 : decode cX12_publish 493 = .ok (.aload_n 0, 1) := by decide +kernel
theorem dX12_publish_494 : decode cX12_publish 494 = .ok (.getfield 277, 3) := by decide +kernel
theorem dX12_publish_497 : decode cX12_publish 497 = .ok (.aload_n 0, 1) := by decide +kernel
theorem dX12_publish_498 : decode cX12_publish 498 = .ok (.getfield 274, 3) := by decide +kernel
theorem dX12_publish_501 : decode cX12_publish 501 = .ok (.isub, 1) := by decide +kernel
theorem dX12_publish_502 : decode cX12_publish 502 = .ok (.iload_n 1, 1) := by decide +kernel
theorem dX12_publish_503 : decode cX12_publish 503 = .ok (.iload_n 2, 1) := by decide +kernel
theorem dX12_publish_504 : decode cX12_publish 504 = .ok (.invokevirtual 446, 3) := by decide +kernel
theorem dX12_publish_507 : decode cX12_publish 507 = .ok (.istore 8, 2) := by decide +kernel
theorem dX12_publish_509 : decode cX12_publish 509 = .ok (.iload_n 2, 1) := by decide +kernel
theorem dX12_publish_510 : decode cX12_publish 510 = .ok (.iconst 1, 1) := by decide +kernel
theorem dX12_publish_511 : decode cX12_publish 511 = .ok (.if_icmp .ne 38, 3) := by decide +kernel
theorem dX12_publish_514 : decode cX12_publish 514 = .ok (.aload_n 0, 1) := by decide +kernel
theorem dX12_publish_515 : decode cX12_publish 515 = .ok (.iload 8, 2) := by decide +kernel
theorem dX12_publish_517 : decode cX12_publish 517 = .ok (.invokevirtual 328, 3) := by decide +kernel
theorem dX12_publish_520 : decode cX12_publish 520 = .ok (.ifCond .ne 29, 3) := by decide +kernel
theorem dX12_publish_523 : decode cX12_publish 523 = .ok (.iload_n 1, 1) := by decide +kernel
theorem dX12_publish_524 : decode cX12_publish 524 = .ok (.ifCond .le 24, 3) := by decide +kernel
theorem dX12_publish_527 : decode cX12_publish 527 = .ok (.aload_n 0, 1) := by decide +kernel
theorem dX12_publish_528 : decode cX12_publish 528 = .ok (.iload_n 1, 1) := by decide +kernel
theorem dX12_publish_529 : decode cX12_publish 529 = .ok (.iconst 1, 1) := by decide +kernel
theorem dX12_publish_530 : decode cX12_publish 530 = .ok (.if_icmp .ne 8, 3) := by decide +kernel
theorem dX12_publish_533 : decode cX12_publish 533 = .ok (.bipush 64, 2) := by decide +kernel
theorem dX12_publish_535 : decode cX12_publish 535 = .ok (.goto 5, 3) := by decide +kernel
theorem dX12_publish_538 : decode cX12_publish 538 = .ok (.bipush 80, 2) := by decide +kernel
theorem dX12_publish_540 : decode cX12_publish 540 = .ok (.iload 6, 2) := by decide +kernel
theorem dX12_publish_542 : decode cX12_publish 542 = .ok (.sipush 151, 3) := by decide +kernel
theorem dX12_publish_545 : decode cX12_publish 545 = .ok (.invokevirtual 497, 3) := by decide +kernel
theorem dX12_publish_548 : decode cX12_publish 548 = .ok (.return_, 1) := by decide +kernel
theorem dX12_publish_549 : decode cX12_publish 549 = .ok (.aload_n 0, 1) := by decide +kernel
theorem dX12_publish_550 : decode cX12_publish 550 = .ok (.iload 8, 2) := by decide +kernel
theorem dX12_publish_552 : decode cX12_publish 552 = .ok (.invokevirtual 331, 3) := by decide +kernel
theorem dX12_publish_555 : decode cX12_publish 555 = .ok (.istore 9, 2) := by decide +kernel
theorem dX12_publish_557 : decode cX12_publish 557 = .ok (.iload_n 1, 1) := by decide +kernel
theorem dX12_publish_558 : decode cX12_publish 558 = .ok (.iconst 2, 1) := by decide +kernel
theorem dX12_publish_559 : decode cX12_publish 559 = .ok (.if_icmp .ne 26, 3) := by decide +kernel
theorem dX12_publish_562 : decode cX12_publish 562 = .ok (.aload_n 0, 1) := by decide +kernel
theorem dX12_publish_563 : decode cX12_publish 563 = .ok (.getfield 146, 3) := by decide +kernel
theorem dX12_publish_566 : decode cX12_publish 566 = .ok (.bipush 8, 2) := by decide +kernel
theorem dX12_publish_568 : decode cX12_publish 568 = .ok (.iload_n 3, 1) := by decide +kernel
theorem dX12_publish_569 : decode cX12_publish 569 = .ok (.imul, 1) := by decide +kernel
theorem dX12_publish_570 : decode cX12_publish 570 = .ok (.aload_n 0, 1) := by decide +kernel
theorem dX12_publish_571 : decode cX12_publish 571 = .ok (.getfield 143, 3) := by decide +kernel
theorem dX12_publish_574 : decode cX12_publish 574 = .ok (.iload_n 3, 1) := by decide +kernel
theorem dX12_publish_575 : decode cX12_publish 575 = .ok (.dup2, 1) := by decide +kernel
theorem dX12_publish_576 : decode cX12_publish 576 = .ok (.iaload, 1) := by decide +kernel
theorem dX12_publish_577 : decode cX12_publish 577 = .ok (.dup_x2, 1) := by decide +kernel
theorem dX12_publish_578 : decode cX12_publish 578 = .ok (.iconst 1, 1) := by decide +kernel
theorem dX12_publish_579 : decode cX12_publish 579 = .ok (.iadd, 1) := by decide +kernel
theorem dX12_publish_580 : decode cX12_publish 580 = .ok (.iastore, 1) := by decide +kernel
theorem dX12_publish_581 : decode cX12_publish 581 = .ok (.iadd, 1) := by decide +kernel
theorem dX12_publish_582 : decode cX12_publish 582 = .ok (.iload 6, 2) := by decide +kernel
theorem dX12_publish_584 : decode cX12_publish 584 = .ok (.iastore, 1) := by decide +kernel
theorem dX12_publish_585 : decode cX12_publish 585 = .ok (.iload_n 1, 1) := by decide +kernel
theorem dX12_publish_586 : decode cX12_publish 586 = .ok (.ifCond .le 32, 3) := by decide +kernel
theorem dX12_publish_589 : decode cX12_publish 589 = .ok (.aload_n 0, 1) := by decide +kernel
theorem dX12_publish_590 : decode cX12_publish 590 = .ok (.iload_n 1, 1) := by decide +kernel
theorem dX12_publish_591 : decode cX12_publish 591 = .ok (.iconst 1, 1) := by decide +kernel
theorem dX12_publish_592 : decode cX12_publish 592 = .ok (.if_icmp .ne 8, 3) := by decide +kernel
theorem dX12_publish_595 : decode cX12_publish 595 = .ok (.bipush 64, 2) := by decide +kernel
theorem dX12_publish_597 : decode cX12_publish 597 = .ok (.goto 5, 3) := by decide +kernel
theorem dX12_publish_600 : decode cX12_publish 600 = .ok (.bipush 80, 2) := by decide +kernel
theorem dX12_publish_602 : decode cX12_publish 602 = .ok (.iload 6, 2) := by decide +kernel
theorem dX12_publish_604 : decode cX12_publish 604 = .ok (.iload 9, 2) := by decide +kernel
theorem dX12_publish_606 : decode cX12_publish 606 = .ok (.ifCond .eq 7, 3) := by decide +kernel
theorem dX12_publish_609 : decode cX12_publish 609 = .ok (.iconst 0, 1) := by decide +kernel
theorem dX12_publish_610 : decode cX12_publish 610 = .ok (.goto 5, 3) := by decide +kernel
theorem dX12_publish_613 : decode cX12_publish 613 = .ok (.bipush 16, 2) := by decide +kernel
theorem dX12_publish_615 : decode cX12_publish 615 = .ok (.invokevirtual 497, 3) := by decide +kernel
theorem dX12_publish_618 : decode cX12_publish 618 = .ok (.return_, 1) := by decide +kernel
theorem dX12_holds_0 : decode cX12_holds 0 = .ok (.iconst 0, 1) := by decide +kernel
theorem dX12_holds_1 : decode cX12_holds 1 = .ok (.istore_n 3, 1) := by decide +kernel
theorem dX12_holds_2 : decode cX12_holds 2 = .ok (.iload_n 3, 1) := by decide +kernel
theorem dX12_holds_3 : decode cX12_holds 3 = .ok (.aload_n 0, 1) := by decide +kernel
theorem dX12_holds_4 : decode cX12_holds 4 = .ok (.getfield 143, 3) := by decide +kernel
theorem dX12_holds_7 : decode cX12_holds 7 = .ok (.iload_n 1, 1) := by decide +kernel
theorem dX12_holds_8 : decode cX12_holds 8 = .ok (.iaload, 1) := by decide +kernel
theorem dX12_holds_9 : decode cX12_holds 9 = .ok (.if_icmp .ge 26, 3) := by decide +kernel
theorem dX12_holds_12 : decode cX12_holds 12 = .ok (.aload_n 0, 1) := by decide +kernel
theorem dX12_holds_13 : decode cX12_holds 13 = .ok (.getfield 146, 3) := by decide +kernel
theorem dX12_holds_16 : decode cX12_holds 16 = .ok (.bipush 8, 2) := by decide +kernel
theorem dX12_holds_18 : decode cX12_holds 18 = .ok (.iload_n 1, 1) := by decide +kernel
theorem dX12_holds_19 : decode cX12_holds 19 = .ok (.imul, 1) := by decide +kernel
theorem dX12_holds_20 : decode cX12_holds 20 = .ok (.iload_n 3, 1) := by decide +kernel
theorem dX12_holds_21 : decode cX12_holds 21 = .ok (.iadd, 1) := by decide +kernel
theorem dX12_holds_22 : decode cX12_holds 22 = .ok (.iaload, 1) := by decide +kernel
theorem dX12_holds_23 : decode cX12_holds 23 = .ok (.iload_n 2, 1) := by decide +kernel
theorem dX12_holds_24 : decode cX12_holds 24 = .ok (.if_icmp .ne 5, 3) := by decide +kernel
theorem dX12_holds_27 : decode cX12_holds 27 = .ok (.iload_n 3, 1) := by decide +kernel
theorem dX12_holds_28 : decode cX12_holds 28 = .ok (.ireturn, 1) := by decide +kernel
theorem dX12_holds_29 : decode cX12_holds 29 = .ok (.iinc 3 1, 3) := by decide +kernel
theorem dX12_holds_32 : decode cX12_holds 32 = .ok (.goto (-30), 3) := by decide +kernel
theorem dX12_holds_35 : decode cX12_holds 35 = .ok (.iconst (-1), 1) := by decide +kernel
theorem dX12_holds_36 : decode cX12_holds 36 = .ok (.ireturn, 1) := by decide +kernel
theorem dX12_sameFilter_0 : decode cX12_sameFilter 0 = .ok (.aload_n 0, 1) := by decide +kernel
theorem dX12_sameFilter_1 : decode cX12_sameFilter 1 = .ok (.getfield 89, 3) := by decide +kernel
theorem dX12_sameFilter_4 : decode cX12_sameFilter 4 = .ok (.iload_n 1, 1) := by decide +kernel
theorem dX12_sameFilter_5 : decode cX12_sameFilter 5 = .ok (.iaload, 1) := by decide +kernel
theorem dX12_sameFilter_6 : decode cX12_sameFilter 6 = .ok (.aload_n 0, 1) := by decide +kernel
theorem dX12_sameFilter_7 : decode cX12_sameFilter 7 = .ok (.getfield 89, 3) := by decide +kernel
theorem dX12_sameFilter_10 : decode cX12_sameFilter 10 = .ok (.iload_n 2, 1) := by decide +kernel
theorem dX12_sameFilter_11 : decode cX12_sameFilter 11 = .ok (.iaload, 1) := by decide +kernel
theorem dX12_sameFilter_12 : decode cX12_sameFilter 12 = .ok (.if_icmp .ne 7, 3) := by decide +kernel
theorem dX12_sameFilter_15 : decode cX12_sameFilter 15 = .ok (.iconst 1, 1) := by decide +kernel
theorem dX12_sameFilter_16 : decode cX12_sameFilter 16 = .ok (.goto 4, 3) := by decide +kernel
theorem dX12_sameFilter_19 : decode cX12_sameFilter 19 = .ok (.iconst 0, 1) := by decide +kernel
theorem dX12_sameFilter_20 : decode cX12_sameFilter 20 = .ok (.istore_n 3, 1) := by decide +kernel
theorem dX12_sameFilter_21 : decode cX12_sameFilter 21 = .ok (.iconst 0, 1) := by decide +kernel
theorem dX12_sameFilter_22 : decode cX12_sameFilter 22 = .ok (.istore 4, 2) := by decide +kernel
theorem dX12_sameFilter_24 : decode cX12_sameFilter 24 = .ok (.iload 4, 2) := by decide +kernel
theorem dX12_sameFilter_26 : decode cX12_sameFilter 26 = .ok (.aload_n 0, 1) := by decide +kernel
theorem dX12_sameFilter_27 : decode cX12_sameFilter 27 = .ok (.getfield 89, 3) := by decide +kernel
theorem dX12_sameFilter_30 : decode cX12_sameFilter 30 = .ok (.iload_n 1, 1) := by decide +kernel
theorem dX12_sameFilter_31 : decode cX12_sameFilter 31 = .ok (.iaload, 1) := by decide +kernel
theorem dX12_sameFilter_32 : decode cX12_sameFilter 32 = .ok (.if_icmp .ge 46, 3) := by decide +kernel
theorem dX12_sameFilter_35 : decode cX12_sameFilter 35 = .ok (.iload_n 3, 1) := by decide +kernel
theorem dX12_sameFilter_36 : decode cX12_sameFilter 36 = .ok (.ifCond .eq 42, 3) := by decide +kernel
theorem dX12_sameFilter_39 : decode cX12_sameFilter 39 = .ok (.aload_n 0, 1) := by decide +kernel
theorem dX12_sameFilter_40 : decode cX12_sameFilter 40 = .ok (.getfield 92, 3) := by decide +kernel
theorem dX12_sameFilter_43 : decode cX12_sameFilter 43 = .ok (.bipush 64, 2) := by decide +kernel
theorem dX12_sameFilter_45 : decode cX12_sameFilter 45 = .ok (.iload_n 1, 1) := by decide +kernel
theorem dX12_sameFilter_46 : decode cX12_sameFilter 46 = .ok (.imul, 1) := by decide +kernel
theorem dX12_sameFilter_47 : decode cX12_sameFilter 47 = .ok (.iload 4, 2) := by decide +kernel
theorem dX12_sameFilter_49 : decode cX12_sameFilter 49 = .ok (.iadd, 1) := by decide +kernel
theorem dX12_sameFilter_50 : decode cX12_sameFilter 50 = .ok (.baload, 1) := by decide +kernel
theorem dX12_sameFilter_51 : decode cX12_sameFilter 51 = .ok (.aload_n 0, 1) := by decide +kernel
theorem dX12_sameFilter_52 : decode cX12_sameFilter 52 = .ok (.getfield 92, 3) := by decide +kernel
theorem dX12_sameFilter_55 : decode cX12_sameFilter 55 = .ok (.bipush 64, 2) := by decide +kernel
theorem dX12_sameFilter_57 : decode cX12_sameFilter 57 = .ok (.iload_n 2, 1) := by decide +kernel
theorem dX12_sameFilter_58 : decode cX12_sameFilter 58 = .ok (.imul, 1) := by decide +kernel
theorem dX12_sameFilter_59 : decode cX12_sameFilter 59 = .ok (.iload 4, 2) := by decide +kernel
theorem dX12_sameFilter_61 : decode cX12_sameFilter 61 = .ok (.iadd, 1) := by decide +kernel
theorem dX12_sameFilter_62 : decode cX12_sameFilter 62 = .ok (.baload, 1) := by decide +kernel
theorem dX12_sameFilter_63 : decode cX12_sameFilter 63 = .ok (.if_icmp .ne 7, 3) := by decide +kernel
theorem dX12_sameFilter_66 : decode cX12_sameFilter 66 = .ok (.iconst 1, 1) := by decide +kernel
theorem dX12_sameFilter_67 : decode cX12_sameFilter 67 = .ok (.goto 4, 3) := by decide +kernel
theorem dX12_sameFilter_70 : decode cX12_sameFilter 70 = .ok (.iconst 0, 1) := by decide +kernel
theorem dX12_sameFilter_71 : decode cX12_sameFilter 71 = .ok (.istore_n 3, 1) := by decide +kernel
theorem dX12_sameFilter_72 : decode cX12_sameFilter 72 = .ok (.iinc 4 1, 3) := by decide +kernel
theorem dX12_sameFilter_75 : decode cX12_sameFilter 75 = .ok (.goto (-51), 3) := by decide +kernel
theorem dX12_sameFilter_78 : decode cX12_sameFilter 78 = .ok (.iload_n 3, 1) := by decide +kernel
theorem dX12_sameFilter_79 : decode cX12_sameFilter 79 = .ok (.ireturn, 1) := by decide +kernel
theorem dX12_isShared_0 : decode cX12_isShared 0 = .ok (.aload_n 0, 1) := by decide +kernel
theorem dX12_isShared_1 : decode cX12_isShared 1 = .ok (.getfield 92, 3) := by decide +kernel
theorem dX12_isShared_4 : decode cX12_isShared 4 = .ok (.bipush 64, 2) := by decide +kernel
theorem dX12_isShared_6 : decode cX12_isShared 6 = .ok (.iload_n 1, 1) := by decide +kernel
theorem dX12_isShared_7 : decode cX12_isShared 7 = .ok (.imul, 1) := by decide +kernel
theorem dX12_isShared_8 : decode cX12_isShared 8 = .ok (.aload_n 0, 1) := by decide +kernel
theorem dX12_isShared_9 : decode cX12_isShared 9 = .ok (.getfield 89, 3) := by decide +kernel
theorem dX12_isShared_12 : decode cX12_isShared 12 = .ok (.iload_n 1, 1) := by decide +kernel
theorem dX12_isShared_13 : decode cX12_isShared 13 = .ok (.iaload, 1) := by decide +kernel
theorem dX12_isShared_14 : decode cX12_isShared 14 = .ok (.invokestatic 501, 3) := by decide +kernel
theorem dX12_isShared_17 : decode cX12_isShared 17 = .ok (.ifCond .le 7, 3) := by decide +kernel
theorem dX12_isShared_20 : decode cX12_isShared 20 = .ok (.iconst 1, 1) := by decide +kernel
theorem dX12_isShared_21 : decode cX12_isShared 21 = .ok (.goto 4, 3) := by decide +kernel
theorem dX12_isShared_24 : decode cX12_isShared 24 = .ok (.iconst 0, 1) := by decide +kernel
theorem dX12_isShared_25 : decode cX12_isShared 25 = .ok (.ireturn, 1) := by decide +kernel
theorem dX12_takes_0 : decode cX12_takes 0 = .ok (.aload_n 0, 1) := by decide +kernel
theorem dX12_takes_1 : decode cX12_takes 1 = .ok (.getfield 92, 3) := by decide +kernel
theorem dX12_takes_4 : decode cX12_takes 4 = .ok (.bipush 64, 2) := by decide +kernel
theorem dX12_takes_6 : decode cX12_takes 6 = .ok (.iload_n 1, 1) := by decide +kernel
theorem dX12_takes_7 : decode cX12_takes 7 = .ok (.imul, 1) := by decide +kernel
theorem dX12_takes_8 : decode cX12_takes 8 = .ok (.aload_n 0, 1) := by decide +kernel
theorem dX12_takes_9 : decode cX12_takes 9 = .ok (.getfield 89, 3) := by decide +kernel
theorem dX12_takes_12 : decode cX12_takes 12 = .ok (.iload_n 1, 1) := by decide +kernel
theorem dX12_takes_13 : decode cX12_takes 13 = .ok (.iaload, 1) := by decide +kernel
theorem dX12_takes_14 : decode cX12_takes 14 = .ok (.invokestatic 501, 3) := by decide +kernel
theorem dX12_takes_17 : decode cX12_takes 17 = .ok (.istore_n 3, 1) := by decide +kernel
theorem dX12_takes_18 : decode cX12_takes 18 = .ok (.aload_n 0, 1) := by decide +kernel
theorem dX12_takes_19 : decode cX12_takes 19 = .ok (.bipush 64, 2) := by decide +kernel
theorem dX12_takes_21 : decode cX12_takes 21 = .ok (.iload_n 1, 1) := by decide +kernel
theorem dX12_takes_22 : decode cX12_takes 22 = .ok (.imul, 1) := by decide +kernel
theorem dX12_takes_23 : decode cX12_takes 23 = .ok (.iload_n 3, 1) := by decide +kernel
theorem dX12_takes_24 : decode cX12_takes 24 = .ok (.iadd, 1) := by decide +kernel
theorem dX12_takes_25 : decode cX12_takes 25 = .ok (.aload_n 0, 1) := by decide +kernel
theorem dX12_takes_26 : decode cX12_takes 26 = .ok (.getfield 89, 3) := by decide +kernel
theorem dX12_takes_29 : decode cX12_takes 29 = .ok (.iload_n 1, 1) := by decide +kernel
theorem dX12_takes_30 : decode cX12_takes 30 = .ok (.iaload, 1) := by decide +kernel
theorem dX12_takes_31 : decode cX12_takes 31 = .ok (.iload_n 3, 1) := by decide +kernel
theorem dX12_takes_32 : decode cX12_takes 32 = .ok (.isub, 1) := by decide +kernel
theorem dX12_takes_33 : decode cX12_takes 33 = .ok (.iload_n 2, 1) := by decide +kernel
theorem dX12_takes_34 : decode cX12_takes 34 = .ok (.invokevirtual 504, 3) := by decide +kernel
theorem dX12_takes_37 : decode cX12_takes 37 = .ok (.ireturn, 1) := by decide +kernel
theorem dX12_distribute_0 : decode cX12_distribute 0 = .ok (.aload_n 0, 1) := by decide +kernel
theorem dX12_distribute_1 : decode cX12_distribute 1 = .ok (.dup, 1) := by decide +kernel
theorem dX12_distribute_2 : decode cX12_distribute 2 = .ok (.getfield 508, 3) := by decide +kernel
theorem dX12_distribute_5 : decode cX12_distribute 5 = .ok (.iconst 1, 1) := by decide +kernel
theorem dX12_distribute_6 : decode cX12_distribute 6 = .ok (.iadd, 1) := by decide +kernel
theorem dX12_distribute_7 : decode cX12_distribute 7 = .ok (.putfield 508, 3) := by decide +kernel
theorem dX12_distribute_10 : decode cX12_distribute 10 = .ok (.iconst 0, 1) := by decide +kernel
theorem dX12_distribute_11 : decode cX12_distribute 11 = .ok (.istore_n 2, 1) := by decide +kernel
theorem dX12_distribute_12 : decode cX12_distribute 12 = .ok (.iconst 0, 1) := by decide +kernel
theorem dX12_distribute_13 : decode cX12_distribute 13 = .ok (.istore_n 3, 1) := by decide +kernel
theorem dX12_distribute_14 : decode cX12_distribute 14 = .ok (.iload_n 3, 1) := by decide +kernel
theorem dX12_distribute_15 : decode cX12_distribute 15 = .ok (.bipush 12, 2) := by decide +kernel
theorem dX12_distribute_17 : decode cX12_distribute 17 = .ok (.if_icmp .ge 181, 3) := by decide +kernel
theorem dX12_distribute_20 : decode cX12_distribute 20 = .ok (.iconst 0, 1) := by decide +kernel
theorem dX12_distribute_21 : decode cX12_distribute 21 = .ok (.istore 4, 2) := by decide +kernel
theorem dX12_distribute_23 : decode cX12_distribute 23 = .ok (.aload_n 0, 1) := by decide +kernel
theorem dX12_distribute_24 : decode cX12_distribute 24 = .ok (.getfield 46, 3) := by decide +kernel
theorem dX12_distribute_27 : decode cX12_distribute 27 = .ok (.iload_n 3, 1) := by decide +kernel
theorem dX12_distribute_28 : decode cX12_distribute 28 = .ok (.baload, 1) := by decide +kernel
theorem dX12_distribute_29 : decode cX12_distribute 29 = .ok (.ifCond .eq 163, 3) := by decide +kernel
theorem dX12_distribute_32 : decode cX12_distribute 32 = .ok (.iload 4, 2) := by decide +kernel
theorem dX12_distribute_34 : decode cX12_distribute 34 = .ok (.aload_n 0, 1) := by decide +kernel
theorem dX12_distribute_35 : decode cX12_distribute 35 = .ok (.getfield 86, 3) := by decide +kernel
theorem dX12_distribute_38 : decode cX12_distribute 38 = .ok (.iload_n 3, 1) := by decide +kernel
theorem dX12_distribute_39 : decode cX12_distribute 39 = .ok (.iaload, 1) := by decide +kernel
theorem dX12_distribute_40 : decode cX12_distribute 40 = .ok (.if_icmp .ge 152, 3) := by decide +kernel
theorem dX12_distribute_43 : decode cX12_distribute 43 = .ok (.bipush 8, 2) := by decide +kernel
theorem dX12_distribute_45 : decode cX12_distribute 45 = .ok (.iload_n 3, 1) := by decide +kernel
theorem dX12_distribute_46 : decode cX12_distribute 46 = .ok (.imul, 1) := by decide +kernel
theorem dX12_distribute_47 : decode cX12_distribute 47 = .ok (.iload 4, 2) := by decide +kernel
theorem dX12_distribute_49 : decode cX12_distribute 49 = .ok (.iadd, 1) := by decide +kernel
theorem dX12_distribute_50 : decode cX12_distribute 50 = .ok (.istore 5, 2) := by decide +kernel
theorem dX12_distribute_52 : decode cX12_distribute 52 = .ok (.aload_n 0, 1) := by decide +kernel
theorem dX12_distribute_53 : decode cX12_distribute 53 = .ok (.iload 5, 2) := by decide +kernel
theorem dX12_distribute_55 : decode cX12_distribute 55 = .ok (.iload_n 1, 1) := by decide +kernel
theorem dX12_distribute_56 : decode cX12_distribute 56 = .ok (.invokevirtual 511, 3) := by decide +kernel
theorem dX12_distribute_59 : decode cX12_distribute 59 = .ok (.ifCond .ne 6, 3) := by decide +kernel
theorem dX12_distribute_62 : decode cX12_distribute 62 = .ok (.goto 124, 3) := by decide +kernel
theorem dX12_distribute_65 : decode cX12_distribute 65 = .ok (.aload_n 0, 1) := by decide +kernel
theorem dX12_distribute_66 : decode cX12_distribute 66 = .ok (.iload 5, 2) := by decide +kernel
theorem dX12_distribute_68 : decode cX12_distribute 68 = .ok (.invokevirtual 514, 3) := by decide +kernel
theorem dX12_distribute_71 : decode cX12_distribute 71 = .ok (.istore 6, 2) := by decide +kernel
theorem dX12_distribute_73 : decode cX12_distribute 73 = .ok (.iload 6, 2) := by decide +kernel
theorem dX12_distribute_75 : decode cX12_distribute 75 = .ok (.ifCond .ne 33, 3) := by decide +kernel
theorem dX12_distribute_78 : decode cX12_distribute 78 = .ok (.aload_n 0, 1) := by decide +kernel
theorem dX12_distribute_79 : decode cX12_distribute 79 = .ok (.getfield 95, 3) := by decide +kernel
theorem dX12_distribute_82 : decode cX12_distribute 82 = .ok (.iload 5, 2) := by decide +kernel
theorem dX12_distribute_84 : decode cX12_distribute 84 = .ok (.iaload, 1) := by decide +kernel
theorem dX12_distribute_85 : decode cX12_distribute 85 = .ok (.iconst 4, 1) := by decide +kernel
theorem dX12_distribute_86 : decode cX12_distribute 86 = .ok (.iand, 1) := by decide +kernel
theorem dX12_distribute_87 : decode cX12_distribute 87 = .ok (.ifCond .eq 21, 3) := by decide +kernel
theorem dX12_distribute_90 : decode cX12_distribute 90 = .ok (.aload_n 0, 1) := by decide +kernel
theorem dX12_distribute_91 : decode cX12_distribute 91 = .ok (.getfield 49, 3) := by decide +kernel
theorem dX12_distribute_94 : decode cX12_distribute 94 = .ok (.iload_n 3, 1) := by decide +kernel
theorem dX12_distribute_95 : decode cX12_distribute 95 = .ok (.iaload, 1) := by decide +kernel
theorem dX12_distribute_96 : decode cX12_distribute 96 = .ok (.aload_n 0, 1) := by decide +kernel
theorem dX12_distribute_97 : decode cX12_distribute 97 = .ok (.getfield 201, 3) := by decide +kernel
theorem dX12_distribute_100 : decode cX12_distribute 100 = .ok (.iload_n 1, 1) := by decide +kernel
theorem dX12_distribute_101 : decode cX12_distribute 101 = .ok (.iaload, 1) := by decide +kernel
theorem dX12_distribute_102 : decode cX12_distribute 102 = .ok (.if_icmp .ne 6, 3) := by decide +kernel
theorem dX12_distribute_105 : decode cX12_distribute 105 = .ok (.goto 81, 3) := by decide +kernel
theorem dX12_distribute_108 : decode cX12_distribute 108 = .ok (.iload 6, 2) := by decide +kernel
theorem dX12_distribute_110 : decode cX12_distribute 110 = .ok (.ifCond .eq 15, 3) := by decide +kernel
theorem dX12_distribute_113 : decode cX12_distribute 113 = .ok (.aload_n 0, 1) := by decide +kernel
theorem dX12_distribute_114 : decode cX12_distribute 114 = .ok (.iload 5, 2) := by decide +kernel
theorem dX12_distribute_116 : decode cX12_distribute 116 = .ok (.invokevirtual 517, 3) := by decide +kernel
theorem dX12_distribute_119 : decode cX12_distribute 119 = .ok (.ifCond .ne 6, 3) := by decide +kernel
theorem dX12_distribute_122 : decode cX12_distribute 122 = .ok (.goto 64, 3) := by decide +kernel
theorem dX12_distribute_125 : decode cX12_distribute 125 = .ok (.iload 6, 2) := by decide +kernel
theorem dX12_distribute_127 : decode cX12_distribute 127 = .ok (.ifCond .eq 12, 3) := by decide +kernel
theorem dX12_distribute_130 : decode cX12_distribute 130 = .ok (.aload_n 0, 1) := by decide +kernel
theorem dX12_distribute_131 : decode cX12_distribute 131 = .ok (.iload 5, 2) := by decide +kernel
theorem dX12_distribute_133 : decode cX12_distribute 133 = .ok (.invokevirtual 520, 3) := by decide +kernel
theorem dX12_distribute_136 : decode cX12_distribute 136 = .ok (.goto 5, 3) := by decide +kernel
theorem dX12_distribute_139 : decode cX12_distribute 139 = .ok (.iload 5, 2) := by decide +kernel
theorem dX12_distribute_141 : decode cX12_distribute 141 = .ok (.istore 7, 2) := by decide +kernel
theorem dX12_distribute_143 : decode cX12_distribute 143 = .ok (.aload_n 0, 1) := by decide +kernel
theorem dX12_distribute_144 : decode cX12_distribute 144 = .ok (.iload 7, 2) := by decide +kernel
theorem dX12_distribute_146 : decode cX12_distribute 146 = .ok (.iload_n 1, 1) := by decide +kernel
theorem dX12_distribute_147 : decode cX12_distribute 147 = .ok (.aload_n 0, 1) := by decide +kernel
theorem dX12_distribute_148 : decode cX12_distribute 148 = .ok (.getfield 95, 3) := by decide +kernel
theorem dX12_distribute_151 : decode cX12_distribute 151 = .ok (.iload 7, 2) := by decide +kernel
theorem dX12_distribute_153 : decode cX12_distribute 153 = .ok (.iaload, 1) := by decide +kernel
theorem dX12_distribute_154 : decode cX12_distribute 154 = .ok (.bipush 8, 2) := by decide +kernel
theorem dX12_distribute_156 : decode cX12_distribute 156 = .ok (.iand, 1) := by decide +kernel
theorem dX12_distribute_157 : decode cX12_distribute 157 = .ok (.ifCond .eq 12, 3) := by decide +kernel
theorem dX12_distribute_160 : decode cX12_distribute 160 = .ok (.aload_n 0, 1) := by decide +kernel
theorem dX12_distribute_161 : decode cX12_distribute 161 = .ok (.getfield 198, 3) := by decide +kernel
theorem dX12_distribute_164 : decode cX12_distribute 164 = .ok (.iload_n 1, 1) := by decide +kernel
theorem dX12_distribute_165 : decode cX12_distribute 165 = .ok (.iaload, 1) := by decide +kernel
theorem dX12_distribute_166 : decode cX12_distribute 166 = .ok (.goto 4, 3) := by decide +kernel
theorem dX12_distribute_169 : decode cX12_distribute 169 = .ok (.iconst 0, 1) := by decide +kernel
theorem dX12_distribute_170 : decode cX12_distribute 170 = .ok (.invokevirtual 524, 3) := by decide +kernel
theorem dX12_distribute_173 : decode cX12_distribute 173 = .ok (.aload_n 0, 1) := by decide +kernel
theorem dX12_distribute_174 : decode cX12_distribute 174 = .ok (.getfield 104, 3) := by decide +kernel
theorem dX12_distribute_177 : decode cX12_distribute 177 = .ok (.iload 7, 2) := by decide +kernel
theorem dX12_distribute_179 : decode cX12_distribute 179 = .ok (.aload_n 0, 1) := by decide +kernel
theorem dX12_distribute_180 : decode cX12_distribute 180 = .ok (.getfield 508, 3) := by decide +kernel
theorem dX12_distribute_183 : decode cX12_distribute 183 = .ok (.iastore, 1) := by decide +kernel
theorem dX12_distribute_184 : decode cX12_distribute 184 = .ok (.iconst 1, 1) := by decide +kernel
theorem dX12_distribute_185 : decode cX12_distribute 185 = .ok (.istore_n 2, 1) := by decide +kernel
theorem dX12_distribute_186 : decode cX12_distribute 186 = .ok (.iinc 4 1, 3) := by decide +kernel
theorem dX12_distribute_189 : decode cX12_distribute 189 = .ok (.goto (-166), 3) := by decide +kernel
theorem dX12_distribute_192 : decode cX12_distribute 192 = .ok (.iinc 3 1, 3) := by decide +kernel
theorem dX12_distribute_195 : decode cX12_distribute 195 = .ok (.goto (-181), 3) := by decide +kernel
theorem dX12_distribute_198 : decode cX12_distribute 198 = .ok (.iload_n 2, 1) := by decide +kernel
theorem dX12_distribute_199 : decode cX12_distribute 199 = .ok (.ireturn, 1) := by decide +kernel
theorem dX12_isFirst_0 : decode cX12_isFirst 0 = .ok (.iconst 0, 1) := by decide +kernel
theorem dX12_isFirst_1 : decode cX12_isFirst 1 = .ok (.istore_n 2, 1) := by decide +kernel
theorem dX12_isFirst_2 : decode cX12_isFirst 2 = .ok (.iload_n 2, 1) := by decide +kernel
theorem dX12_isFirst_3 : decode cX12_isFirst 3 = .ok (.iload_n 1, 1) := by decide +kernel
theorem dX12_isFirst_4 : decode cX12_isFirst 4 = .ok (.if_icmp .ge 48, 3) := by decide +kernel
theorem dX12_isFirst_7 : decode cX12_isFirst 7 = .ok (.aload_n 0, 1) := by decide +kernel
theorem dX12_isFirst_8 : decode cX12_isFirst 8 = .ok (.getfield 46, 3) := by decide +kernel
theorem dX12_isFirst_11 : decode cX12_isFirst 11 = .ok (.iload_n 2, 1) := by decide +kernel
theorem dX12_isFirst_12 : decode cX12_isFirst 12 = .ok (.bipush 8, 2) := by decide +kernel
theorem dX12_isFirst_14 : decode cX12_isFirst 14 = .ok (.idiv, 1) := by decide +kernel
theorem dX12_isFirst_15 : decode cX12_isFirst 15 = .ok (.baload, 1) := by decide +kernel
theorem dX12_isFirst_16 : decode cX12_isFirst 16 = .ok (.ifCond .eq 30, 3) := by decide +kernel
theorem dX12_isFirst_19 : decode cX12_isFirst 19 = .ok (.iload_n 2, 1) := by decide +kernel
theorem dX12_isFirst_20 : decode cX12_isFirst 20 = .ok (.bipush 8, 2) := by decide +kernel
theorem dX12_isFirst_22 : decode cX12_isFirst 22 = .ok (.irem, 1) := by decide +kernel
theorem dX12_isFirst_23 : decode cX12_isFirst 23 = .ok (.aload_n 0, 1) := by decide +kernel
theorem dX12_isFirst_24 : decode cX12_isFirst 24 = .ok (.getfield 86, 3) := by decide +kernel
theorem dX12_isFirst_27 : decode cX12_isFirst 27 = .ok (.iload_n 2, 1) := by decide +kernel
theorem dX12_isFirst_28 : decode cX12_isFirst 28 = .ok (.bipush 8, 2) := by decide +kernel
theorem dX12_isFirst_30 : decode cX12_isFirst 30 = .ok (.idiv, 1) := by decide +kernel
theorem dX12_isFirst_31 : decode cX12_isFirst 31 = .ok (.iaload, 1) := by decide +kernel
theorem dX12_isFirst_32 : decode cX12_isFirst 32 = .ok (.if_icmp .ge 14, 3) := by decide +kernel
theorem dX12_isFirst_35 : decode cX12_isFirst 35 = .ok (.aload_n 0, 1) := by decide +kernel
theorem dX12_isFirst_36 : decode cX12_isFirst 36 = .ok (.iload_n 1, 1) := by decide +kernel
theorem dX12_isFirst_37 : decode cX12_isFirst 37 = .ok (.iload_n 2, 1) := by decide +kernel
theorem dX12_isFirst_38 : decode cX12_isFirst 38 = .ok (.invokevirtual 527, 3) := by decide +kernel
theorem dX12_isFirst_41 : decode cX12_isFirst 41 = .ok (.ifCond .eq 5, 3) := by decide +kernel
theorem dX12_isFirst_44 : decode cX12_isFirst 44 = .ok (.iconst 0, 1) := by decide +kernel
theorem dX12_isFirst_45 : decode cX12_isFirst 45 = .ok (.ireturn, 1) := by decide +kernel
theorem dX12_isFirst_46 : decode cX12_isFirst 46 = .ok (.iinc 2 1, 3) := by decide +kernel
theorem dX12_isFirst_49 : decode cX12_isFirst 49 = .ok (.goto (-47), 3) := by decide +kernel
theorem dX12_isFirst_52 : decode cX12_isFirst 52 = .ok (.iconst 1, 1) := by decide +kernel
theorem dX12_isFirst_53 : decode cX12_isFirst 53 = .ok (.ireturn, 1) := by decide +kernel
theorem dX12_chosen_0 : decode cX12_chosen 0 = .ok (.iconst (-1), 1) := by decide +kernel
theorem dX12_chosen_1 : decode cX12_chosen 1 = .ok (.istore_n 2, 1) := by decide +kernel
theorem dX12_chosen_2 : decode cX12_chosen 2 = .ok (.iload_n 1, 1) := by decide +kernel
theorem dX12_chosen_3 : decode cX12_chosen 3 = .ok (.istore_n 3, 1) := by decide +kernel
theorem dX12_chosen_4 : decode cX12_chosen 4 = .ok (.iload_n 3, 1) := by decide +kernel
theorem dX12_chosen_5 : decode cX12_chosen 5 = .ok (.bipush 96, 2) := by decide +kernel
theorem dX12_chosen_7 : decode cX12_chosen 7 = .ok (.if_icmp .ge 129, 3) := by decide +kernel
theorem dX12_chosen_10 : decode cX12_chosen 10 = .ok (.iload_n 3, 1) := by decide +kernel
theorem dX12_chosen_11 : decode cX12_chosen 11 = .ok (.bipush 8, 2) := by decide +kernel
theorem dX12_chosen_13 : decode cX12_chosen 13 = .ok (.idiv, 1) := by decide +kernel
theorem dX12_chosen_14 : decode cX12_chosen 14 = .ok (.istore 4, 2) := by decide +kernel
theorem dX12_chosen_16 : decode cX12_chosen 16 = .ok (.aload_n 0, 1) := by decide +kernel
theorem dX12_chosen_17 : decode cX12_chosen 17 = .ok (.getfield 46, 3) := by decide +kernel
theorem dX12_chosen_20 : decode cX12_chosen 20 = .ok (.iload 4, 2) := by decide +kernel
theorem dX12_chosen_22 : decode cX12_chosen 22 = .ok (.baload, 1) := by decide +kernel
theorem dX12_chosen_23 : decode cX12_chosen 23 = .ok (.ifCond .eq 107, 3) := by decide +kernel
theorem dX12_chosen_26 : decode cX12_chosen 26 = .ok (.iload_n 3, 1) := by decide +kernel
theorem dX12_chosen_27 : decode cX12_chosen 27 = .ok (.bipush 8, 2) := by decide +kernel
theorem dX12_chosen_29 : decode cX12_chosen 29 = .ok (.irem, 1) := by decide +kernel
theorem dX12_chosen_30 : decode cX12_chosen 30 = .ok (.aload_n 0, 1) := by decide +kernel
theorem dX12_chosen_31 : decode cX12_chosen 31 = .ok (.getfield 86, 3) := by decide +kernel
theorem dX12_chosen_34 : decode cX12_chosen 34 = .ok (.iload 4, 2) := by decide +kernel
theorem dX12_chosen_36 : decode cX12_chosen 36 = .ok (.iaload, 1) := by decide +kernel
theorem dX12_chosen_37 : decode cX12_chosen 37 = .ok (.if_icmp .ge 93, 3) := by decide +kernel
theorem dX12_chosen_40 : decode cX12_chosen 40 = .ok (.aload_n 0, 1) := by decide +kernel
theorem dX12_chosen_41 : decode cX12_chosen 41 = .ok (.iload_n 1, 1) := by decide +kernel
theorem dX12_chosen_42 : decode cX12_chosen 42 = .ok (.iload_n 3, 1) := by decide +kernel
theorem dX12_chosen_43 : decode cX12_chosen 43 = .ok (.invokevirtual 527, 3) := by decide +kernel
theorem dX12_chosen_46 : decode cX12_chosen 46 = .ok (.ifCond .ne 6, 3) := by decide +kernel
theorem dX12_chosen_49 : decode cX12_chosen 49 = .ok (.goto 81, 3) := by decide +kernel
theorem dX12_chosen_52 : decode cX12_chosen 52 = .ok (.aload_n 0, 1) := by decide +kernel
theorem dX12_chosen_53 : decode cX12_chosen 53 = .ok (.getfield 58, 3) := by decide +kernel
theorem dX12_chosen_56 : decode cX12_chosen 56 = .ok (.iload 4, 2) := by decide +kernel
theorem dX12_chosen_58 : decode cX12_chosen 58 = .ok (.iaload, 1) := by decide +kernel
theorem dX12_chosen_59 : decode cX12_chosen 59 = .ok (.ifCond .lt 7, 3) := by decide +kernel
theorem dX12_chosen_62 : decode cX12_chosen 62 = .ok (.iconst 1, 1) := by decide +kernel
theorem dX12_chosen_63 : decode cX12_chosen 63 = .ok (.goto 4, 3) := by decide +kernel
theorem dX12_chosen_66 : decode cX12_chosen 66 = .ok (.iconst 0, 1) := by decide +kernel
theorem dX12_chosen_67 : decode cX12_chosen 67 = .ok (.istore 5, 2) := by decide +kernel
theorem dX12_chosen_69 : decode cX12_chosen 69 = .ok (.iload_n 2, 1) := by decide +kernel
theorem dX12_chosen_70 : decode cX12_chosen 70 = .ok (.ifCond .lt 19, 3) := by decide +kernel
theorem dX12_chosen_73 : decode cX12_chosen 73 = .ok (.aload_n 0, 1) := by decide +kernel
theorem dX12_chosen_74 : decode cX12_chosen 74 = .ok (.getfield 58, 3) := by decide +kernel
theorem dX12_chosen_77 : decode cX12_chosen 77 = .ok (.iload_n 2, 1) := by decide +kernel
theorem dX12_chosen_78 : decode cX12_chosen 78 = .ok (.bipush 8, 2) := by decide +kernel
theorem dX12_chosen_80 : decode cX12_chosen 80 = .ok (.idiv, 1) := by decide +kernel
theorem dX12_chosen_81 : decode cX12_chosen 81 = .ok (.iaload, 1) := by decide +kernel
theorem dX12_chosen_82 : decode cX12_chosen 82 = .ok (.ifCond .lt 7, 3) := by decide +kernel
theorem dX12_chosen_85 : decode cX12_chosen 85 = .ok (.iconst 1, 1) := by decide +kernel
theorem dX12_chosen_86 : decode cX12_chosen 86 = .ok (.goto 4, 3) := by decide +kernel
theorem dX12_chosen_89 : decode cX12_chosen 89 = .ok (.iconst 0, 1) := by decide +kernel
theorem dX12_chosen_90 : decode cX12_chosen 90 = .ok (.istore 6, 2) := by decide +kernel
theorem dX12_chosen_92 : decode cX12_chosen 92 = .ok (.iload_n 2, 1) := by decide +kernel
theorem dX12_chosen_93 : decode cX12_chosen 93 = .ok (.ifCond .lt 35, 3) := by decide +kernel
theorem dX12_chosen_96 : decode cX12_chosen 96 = .ok (.iload 5, 2) := by decide +kernel
theorem dX12_chosen_98 : decode cX12_chosen 98 = .ok (.ifCond .eq 8, 3) := by decide +kernel
theorem dX12_chosen_101 : decode cX12_chosen 101 = .ok (.iload 6, 2) := by decide +kernel
theorem dX12_chosen_103 : decode cX12_chosen 103 = .ok (.ifCond .eq 25, 3) := by decide +kernel
theorem dX12_chosen_106 : decode cX12_chosen 106 = .ok (.iload 5, 2) := by decide +kernel
theorem dX12_chosen_108 : decode cX12_chosen 108 = .ok (.iload 6, 2) := by decide +kernel
theorem dX12_chosen_110 : decode cX12_chosen 110 = .ok (.if_icmp .ne 20, 3) := by decide +kernel
theorem dX12_chosen_113 : decode cX12_chosen 113 = .ok (.aload_n 0, 1) := by decide +kernel
theorem dX12_chosen_114 : decode cX12_chosen 114 = .ok (.getfield 104, 3) := by decide +kernel
theorem dX12_chosen_117 : decode cX12_chosen 117 = .ok (.iload_n 3, 1) := by decide +kernel
theorem dX12_chosen_118 : decode cX12_chosen 118 = .ok (.iaload, 1) := by decide +kernel
theorem dX12_chosen_119 : decode cX12_chosen 119 = .ok (.aload_n 0, 1) := by decide +kernel
theorem dX12_chosen_120 : decode cX12_chosen 120 = .ok (.getfield 104, 3) := by decide +kernel
theorem dX12_chosen_123 : decode cX12_chosen 123 = .ok (.iload_n 2, 1) := by decide +kernel
theorem dX12_chosen_124 : decode cX12_chosen 124 = .ok (.iaload, 1) := by decide +kernel
theorem dX12_chosen_125 : decode cX12_chosen 125 = .ok (.if_icmp .ge 5, 3) := by decide +kernel
theorem dX12_chosen_128 : decode cX12_chosen 128 = .ok (.iload_n 3, 1) := by decide +kernel
theorem dX12_chosen_129 : decode cX12_chosen 129 = .ok (.istore_n 2, 1) := by decide +kernel
theorem dX12_chosen_130 : decode cX12_chosen 130 = .ok (.iinc 3 1, 3) := by decide +kernel
theorem dX12_chosen_133 : decode cX12_chosen 133 = .ok (.goto (-129), 3) := by decide +kernel
theorem dX12_chosen_136 : decode cX12_chosen 136 = .ok (.iload_n 2, 1) := by decide +kernel
theorem dX12_chosen_137 : decode cX12_chosen 137 = .ok (.ireturn, 1) := by decide +kernel
theorem dX12_mayGo_0 : decode cX12_mayGo 0 = .ok (.aload_n 0, 1) := by decide +kernel
theorem dX12_mayGo_1 : decode cX12_mayGo 1 = .ok (.getfield 58, 3) := by decide +kernel
theorem dX12_mayGo_4 : decode cX12_mayGo 4 = .ok (.iload_n 1, 1) := by decide +kernel
theorem dX12_mayGo_5 : decode cX12_mayGo 5 = .ok (.iaload, 1) := by decide +kernel
theorem dX12_mayGo_6 : decode cX12_mayGo 6 = .ok (.ifCond .lt 27, 3) := by decide +kernel
theorem dX12_mayGo_9 : decode cX12_mayGo 9 = .ok (.aload_n 0, 1) := by decide +kernel
theorem dX12_mayGo_10 : decode cX12_mayGo 10 = .ok (.getfield 107, 3) := by decide +kernel
theorem dX12_mayGo_13 : decode cX12_mayGo 13 = .ok (.iload_n 1, 1) := by decide +kernel
theorem dX12_mayGo_14 : decode cX12_mayGo 14 = .ok (.iaload, 1) := by decide +kernel
theorem dX12_mayGo_15 : decode cX12_mayGo 15 = .ok (.aload_n 0, 1) := by decide +kernel
theorem dX12_mayGo_16 : decode cX12_mayGo 16 = .ok (.getfield 65, 3) := by decide +kernel
theorem dX12_mayGo_19 : decode cX12_mayGo 19 = .ok (.iload_n 1, 1) := by decide +kernel
theorem dX12_mayGo_20 : decode cX12_mayGo 20 = .ok (.iaload, 1) := by decide +kernel
theorem dX12_mayGo_21 : decode cX12_mayGo 21 = .ok (.bipush 16, 2) := by decide +kernel
theorem dX12_mayGo_23 : decode cX12_mayGo 23 = .ok (.invokestatic 337, 3) := by decide +kernel
theorem dX12_mayGo_26 : decode cX12_mayGo 26 = .ok (.if_icmp .ge 7, 3) := by decide +kernel
theorem dX12_mayGo_29 : decode cX12_mayGo 29 = .ok (.iconst 1, 1) := by decide +kernel
theorem dX12_mayGo_30 : decode cX12_mayGo 30 = .ok (.goto 4, 3) := by decide +kernel
theorem dX12_mayGo_33 : decode cX12_mayGo 33 = .ok (.iconst 0, 1) := by decide +kernel
theorem dX12_mayGo_34 : decode cX12_mayGo 34 = .ok (.ireturn, 1) := by decide +kernel
theorem dX12_deliver_0 : decode cX12_deliver 0 = .ok (.iload_n 1, 1) := by decide +kernel
theorem dX12_deliver_1 : decode cX12_deliver 1 = .ok (.bipush 8, 2) := by decide +kernel
theorem dX12_deliver_3 : decode cX12_deliver 3 = .ok (.idiv, 1) := by decide +kernel
theorem dX12_deliver_4 : decode cX12_deliver 4 = .ok (.istore 4, 2) := by decide +kernel
theorem dX12_deliver_6 : decode cX12_deliver 6 = .ok (.aload_n 0, 1) := by decide +kernel
theorem dX12_deliver_7 : decode cX12_deliver 7 = .ok (.getfield 195, 3) := by decide +kernel
theorem dX12_deliver_10 : decode cX12_deliver 10 = .ok (.iload_n 2, 1) := by decide +kernel
theorem dX12_deliver_11 : decode cX12_deliver 11 = .ok (.iaload, 1) := by decide +kernel
theorem dX12_deliver_12 : decode cX12_deliver 12 = .ok (.aload_n 0, 1) := by decide +kernel
theorem dX12_deliver_13 : decode cX12_deliver 13 = .ok (.getfield 95, 3) := by decide +kernel
theorem dX12_deliver_16 : decode cX12_deliver 16 = .ok (.iload_n 1, 1) := by decide +kernel
theorem dX12_deliver_17 : decode cX12_deliver 17 = .ok (.iaload, 1) := by decide +kernel
theorem dX12_deliver_18 : decode cX12_deliver 18 = .ok (.iconst 3, 1) := by decide +kernel
theorem dX12_deliver_19 : decode cX12_deliver 19 = .ok (.iand, 1) := by decide +kernel
theorem dX12_deliver_20 : decode cX12_deliver 20 = .ok (.invokestatic 337, 3) := by decide +kernel
theorem dX12_deliver_23 : decode cX12_deliver 23 = .ok (.istore 5, 2) := by decide +kernel
theorem dX12_deliver_25 : decode cX12_deliver 25 = .ok (.aload_n 0, 1) := by decide +kernel
theorem dX12_deliver_26 : decode cX12_deliver 26 = .ok (.getfield 101, 3) := by decide +kernel
theorem dX12_deliver_29 : decode cX12_deliver 29 = .ok (.iload_n 1, 1) := by decide +kernel
theorem dX12_deliver_30 : decode cX12_deliver 30 = .ok (.dup2, 1) := by decide +kernel
theorem dX12_deliver_31 : decode cX12_deliver 31 = .ok (.iaload, 1) := by decide +kernel
theorem dX12_deliver_32 : decode cX12_deliver 32 = .ok (.iconst 1, 1) := by decide +kernel
theorem dX12_deliver_33 : decode cX12_deliver 33 = .ok (.iadd, 1) := by decide +kernel
theorem dX12_deliver_34 : decode cX12_deliver 34 = .ok (.iastore, 1) := by decide +kernel
theorem dX12_deliver_35 : decode cX12_deliver 35 = .ok (.iload 5, 2) := by decide +kernel
theorem dX12_deliver_37 : decode cX12_deliver 37 = .ok (.ifCond .ne 42, 3) := by decide +kernel
theorem dX12_deliver_40 : decode cX12_deliver 40 = .ok (.aload_n 0, 1) := by decide +kernel
theorem dX12_deliver_41 : decode cX12_deliver 41 = .ok (.getfield 58, 3) := by decide +kernel
theorem dX12_deliver_44 : decode cX12_deliver 44 = .ok (.iload 4, 2) := by decide +kernel
theorem dX12_deliver_46 : decode cX12_deliver 46 = .ok (.iaload, 1) := by decide +kernel
theorem dX12_deliver_47 : decode cX12_deliver 47 = .ok (.ifCond .lt 153, 3) := by decide +kernel
theorem dX12_deliver_50 : decode cX12_deliver 50 = .ok (.aload_n 0, 1) := by decide +kernel
theorem dX12_deliver_51 : decode cX12_deliver 51 = .ok (.iload_n 2, 1) := by decide +kernel
theorem dX12_deliver_52 : decode cX12_deliver 52 = .ok (.invokevirtual 483, 3) := by decide +kernel
theorem dX12_deliver_55 : decode cX12_deliver 55 = .ok (.ifCond .ne 145, 3) := by decide +kernel
theorem dX12_deliver_58 : decode cX12_deliver 58 = .ok (.aload_n 0, 1) := by decide +kernel
theorem dX12_deliver_59 : decode cX12_deliver 59 = .ok (.iload 4, 2) := by decide +kernel
theorem dX12_deliver_61 : decode cX12_deliver 61 = .ok (.iload_n 2, 1) := by decide +kernel
theorem dX12_deliver_62 : decode cX12_deliver 62 = .ok (.iconst 0, 1) := by decide +kernel
theorem dX12_deliver_63 : decode cX12_deliver 63 = .ok (.iload_n 3, 1) := by decide +kernel
theorem dX12_deliver_64 : decode cX12_deliver 64 = .ok (.aload_n 0, 1) := by decide +kernel
theorem dX12_deliver_65 : decode cX12_deliver 65 = .ok (.getfield 98, 3) := by decide +kernel
theorem dX12_deliver_68 : decode cX12_deliver 68 = .ok (.iload_n 1, 1) := by decide +kernel
theorem dX12_deliver_69 : decode cX12_deliver 69 = .ok (.iaload, 1) := by decide +kernel
theorem dX12_deliver_70 : decode cX12_deliver 70 = .ok (.iconst 0, 1) := by decide +kernel
theorem dX12_deliver_71 : decode cX12_deliver 71 = .ok (.iconst 0, 1) := by decide +kernel
theorem dX12_deliver_72 : decode cX12_deliver 72 = .ok (.invokevirtual 530, 3) := by decide +kernel
theorem dX12_deliver_75 : decode cX12_deliver 75 = .ok (.pop, 1) := by decide +kernel
theorem dX12_deliver_76 : decode cX12_deliver 76 = .ok (.goto 124, 3) := by decide +kernel
theorem dX12_deliver_79 : decode cX12_deliver 79 = .ok (.aload_n 0, 1) := by decide +kernel
theorem dX12_deliver_80 : decode cX12_deliver 80 = .ok (.getfield 128, 3) := by decide +kernel
theorem dX12_deliver_83 : decode cX12_deliver 83 = .ok (.iload 4, 2) := by decide +kernel
theorem dX12_deliver_85 : decode cX12_deliver 85 = .ok (.iaload, 1) := by decide +kernel
theorem dX12_deliver_86 : decode cX12_deliver 86 = .ok (.ifCond .ne 31, 3) := by decide +kernel
theorem dX12_deliver_89 : decode cX12_deliver 89 = .ok (.aload_n 0, 1) := by decide +kernel
theorem dX12_deliver_90 : decode cX12_deliver 90 = .ok (.iload 4, 2) := by decide +kernel
theorem dX12_deliver_92 : decode cX12_deliver 92 = .ok (.invokevirtual 534, 3) := by decide +kernel
theorem dX12_deliver_95 : decode cX12_deliver 95 = .ok (.ifCond .eq 22, 3) := by decide +kernel
theorem dX12_deliver_98 : decode cX12_deliver 98 = .ok (.aload_n 0, 1) := by decide +kernel
theorem dX12_deliver_99 : decode cX12_deliver 99 = .ok (.iload 4, 2) := by decide +kernel
theorem dX12_deliver_101 : decode cX12_deliver 101 = .ok (.iload_n 2, 1) := by decide +kernel
theorem dX12_deliver_102 : decode cX12_deliver 102 = .ok (.iload 5, 2) := by decide +kernel
theorem dX12_deliver_104 : decode cX12_deliver 104 = .ok (.iload_n 3, 1) := by decide +kernel
theorem dX12_deliver_105 : decode cX12_deliver 105 = .ok (.aload_n 0, 1) := by decide +kernel
theorem dX12_deliver_106 : decode cX12_deliver 106 = .ok (.getfield 98, 3) := by decide +kernel
theorem dX12_deliver_109 : decode cX12_deliver 109 = .ok (.iload_n 1, 1) := by decide +kernel
theorem dX12_deliver_110 : decode cX12_deliver 110 = .ok (.iaload, 1) := by decide +kernel
theorem dX12_deliver_111 : decode cX12_deliver 111 = .ok (.invokevirtual 537, 3) := by decide +kernel
theorem dX12_deliver_114 : decode cX12_deliver 114 = .ok (.goto 86, 3) := by decide +kernel
theorem dX12_deliver_117 : decode cX12_deliver 117 = .ok (.aload_n 0, 1) := by decide +kernel
theorem dX12_deliver_118 : decode cX12_deliver 118 = .ok (.getfield 128, 3) := by decide +kernel
theorem dX12_deliver_121 : decode cX12_deliver 121 = .ok (.iload 4, 2) := by decide +kernel
theorem dX12_deliver_123 : decode cX12_deliver 123 = .ok (.iaload, 1) := by decide +kernel
theorem dX12_deliver_124 : decode cX12_deliver 124 = .ok (.bipush 24, 2) := by decide +kernel
theorem dX12_deliver_126 : decode cX12_deliver 126 = .ok (.if_icmp .ge 64, 3) := by decide +kernel
theorem dX12_deliver_129 : decode cX12_deliver 129 = .ok (.bipush 24, 2) := by decide +kernel
theorem dX12_deliver_131 : decode cX12_deliver 131 = .ok (.iload 4, 2) := by decide +kernel
theorem dX12_deliver_133 : decode cX12_deliver 133 = .ok (.imul, 1) := by decide +kernel
theorem dX12_deliver_134 : decode cX12_deliver 134 = .ok (.aload_n 0, 1) := by decide +kernel
theorem dX12_deliver_135 : decode cX12_deliver 135 = .ok (.getfield 128, 3) := by decide +kernel
theorem dX12_deliver_138 : decode cX12_deliver 138 = .ok (.iload 4, 2) := by decide +kernel
theorem dX12_deliver_140 : decode cX12_deliver 140 = .ok (.dup2, 1) := by decide +kernel
theorem dX12_deliver_141 : decode cX12_deliver 141 = .ok (.iaload, 1) := by decide +kernel
theorem dX12_deliver_142 : decode cX12_deliver 142 = .ok (.dup_x2, 1) := by decide +kernel
theorem dX12_deliver_143 : decode cX12_deliver 143 = .ok (.iconst 1, 1) := by decide +kernel
theorem dX12_deliver_144 : decode cX12_deliver 144 = .ok (.iadd, 1) := by decide +kernel
theorem dX12_deliver_145 : decode cX12_deliver 145 = .ok (.iastore, 1) := by decide +kernel
theorem dX12_deliver_146 : decode cX12_deliver 146 = .ok (.iadd, 1) := by decide +kernel
theorem dX12_deliver_147 : decode cX12_deliver 147 = .ok (.istore 6, 2) := by decide +kernel
theorem dX12_deliver_149 : decode cX12_deliver 149 = .ok (.aload_n 0, 1) := by decide +kernel
theorem dX12_deliver_150 : decode cX12_deliver 150 = .ok (.getfield 131, 3) := by decide +kernel
theorem dX12_deliver_153 : decode cX12_deliver 153 = .ok (.iload 6, 2) := by decide +kernel
theorem dX12_deliver_155 : decode cX12_deliver 155 = .ok (.iload_n 2, 1) := by decide +kernel
theorem dX12_deliver_156 : decode cX12_deliver 156 = .ok (.iastore, 1) := by decide +kernel
theorem dX12_deliver_157 : decode cX12_deliver 157 = .ok (.aload_n 0, 1) := by decide +kernel
theorem dX12_deliver_158 : decode cX12_deliver 158 = .ok (.getfield 134, 3) := by decide +kernel
theorem dX12_deliver_161 : decode cX12_deliver 161 = .ok (.iload 6, 2) := by decide +kernel
theorem dX12_deliver_163 : decode cX12_deliver 163 = .ok (.iload 5, 2) := by decide +kernel
theorem dX12_deliver_165 : decode cX12_deliver 165 = .ok (.iastore, 1) := by decide +kernel
theorem dX12_deliver_166 : decode cX12_deliver 166 = .ok (.aload_n 0, 1) := by decide +kernel
theorem dX12_deliver_167 : decode cX12_deliver 167 = .ok (.getfield 137, 3) := by decide +kernel
theorem dX12_deliver_170 : decode cX12_deliver 170 = .ok (.iload 6, 2) := by decide +kernel
theorem dX12_deliver_172 : decode cX12_deliver 172 = .ok (.iload_n 3, 1) := by decide +kernel
theorem dX12_deliver_173 : decode cX12_deliver 173 = .ok (.iastore, 1) := by decide +kernel
theorem dX12_deliver_174 : decode cX12_deliver 174 = .ok (.aload_n 0, 1) := by decide +kernel
theorem dX12_deliver_175 : decode cX12_deliver 175 = .ok (.getfield 140, 3) := by decide +kernel
theorem dX12_deliver_178 : decode cX12_deliver 178 = .ok (.iload 6, 2) := by decide +kernel
theorem dX12_deliver_180 : decode cX12_deliver 180 = .ok (.aload_n 0, 1) := by decide +kernel
theorem dX12_deliver_181 : decode cX12_deliver 181 = .ok (.getfield 98, 3) := by decide +kernel
theorem dX12_deliver_184 : decode cX12_deliver 184 = .ok (.iload_n 1, 1) := by decide +kernel
theorem dX12_deliver_185 : decode cX12_deliver 185 = .ok (.iaload, 1) := by decide +kernel
theorem dX12_deliver_186 : decode cX12_deliver 186 = .ok (.iastore, 1) := by decide +kernel
theorem dX12_deliver_187 : decode cX12_deliver 187 = .ok (.goto 13, 3) := by decide +kernel
theorem dX12_deliver_190 : decode cX12_deliver 190 = .ok (.aload_n 0, 1) := by decide +kernel
theorem dX12_deliver_191 : decode cX12_deliver 191 = .ok (.dup, 1) := by decide +kernel
theorem dX12_deliver_192 : decode cX12_deliver 192 = .ok (.getfield 541, 3) := by decide +kernel
theorem dX12_deliver_195 : decode cX12_deliver 195 = .ok (.iconst 1, 1) := by decide +kernel
theorem dX12_deliver_196 : decode cX12_deliver 196 = .ok (.iadd, 1) := by decide +kernel
theorem dX12_deliver_197 : decode cX12_deliver 197 = .ok (.putfield 541, 3) := by decide +kernel
theorem dX12_deliver_200 : decode cX12_deliver 200 = .ok (.return_, 1) := by decide +kernel
theorem dX12_begin_0 : decode cX12_begin 0 = .ok (.aload_n 0, 1) := by decide +kernel
theorem dX12_begin_1 : decode cX12_begin 1 = .ok (.iload_n 2, 1) := by decide +kernel
theorem dX12_begin_2 : decode cX12_begin 2 = .ok (.invokevirtual 483, 3) := by decide +kernel
theorem dX12_begin_5 : decode cX12_begin 5 = .ok (.ifCond .eq 4, 3) := by decide +kernel
theorem dX12_begin_8 : decode cX12_begin 8 = .ok (.return_, 1) := by decide +kernel
theorem dX12_begin_9 : decode cX12_begin 9 = .ok (.iconst 1, 1) := by decide +kernel
theorem dX12_begin_10 : decode cX12_begin 10 = .ok (.istore 6, 2) := by decide +kernel
theorem dX12_begin_12 : decode cX12_begin 12 = .ok (.aload_n 0, 1) := by decide +kernel
theorem dX12_begin_13 : decode cX12_begin 13 = .ok (.iload_n 1, 1) := by decide +kernel
theorem dX12_begin_14 : decode cX12_begin 14 = .ok (.iload 6, 2) := by decide +kernel
theorem dX12_begin_16 : decode cX12_begin 16 = .ok (.invokevirtual 544, 3) := by decide +kernel
theorem dX12_begin_19 : decode cX12_begin 19 = .ok (.ifCond .lt 9, 3) := by decide +kernel
theorem dX12_begin_22 : decode cX12_begin 22 = .ok (.iinc 6 1, 3) := by decide +kernel
theorem dX12_begin_25 : decode cX12_begin 25 = .ok (.goto (-13), 3) := by decide +kernel
theorem dX12_begin_28 : decode cX12_begin 28 = .ok (.aload_n 0, 1) := by decide +kernel
theorem dX12_begin_29 : decode cX12_begin 29 = .ok (.iload_n 1, 1) := by decide +kernel
theorem dX12_begin_30 : decode cX12_begin 30 = .ok (.iload_n 2, 1) := by decide +kernel
theorem dX12_begin_31 : decode cX12_begin 31 = .ok (.iload_n 3, 1) := by decide +kernel
theorem dX12_begin_32 : decode cX12_begin 32 = .ok (.iload 4, 2) := by decide +kernel
theorem dX12_begin_34 : decode cX12_begin 34 = .ok (.iload 5, 2) := by decide +kernel
theorem dX12_begin_36 : decode cX12_begin 36 = .ok (.iload 6, 2) := by decide +kernel
theorem dX12_begin_38 : decode cX12_begin 38 = .ok (.iconst 0, 1) := by decide +kernel
theorem dX12_begin_39 : decode cX12_begin 39 = .ok (.invokevirtual 530, 3) := by decide +kernel
theorem dX12_begin_42 : decode cX12_begin 42 = .ok (.ifCond .ne 4, 3) := by decide +kernel
theorem dX12_begin_45 : decode cX12_begin 45 = .ok (.return_, 1) := by decide +kernel
theorem dX12_begin_46 : decode cX12_begin 46 = .ok (.bipush 16, 2) := by decide +kernel
theorem dX12_begin_48 : decode cX12_begin 48 = .ok (.iload_n 1, 1) := by decide +kernel
theorem dX12_begin_49 : decode cX12_begin 49 = .ok (.imul, 1) := by decide +kernel
theorem dX12_begin_50 : decode cX12_begin 50 = .ok (.aload_n 0, 1) := by decide +kernel
theorem dX12_begin_51 : decode cX12_begin 51 = .ok (.getfield 107, 3) := by decide +kernel
theorem dX12_begin_54 : decode cX12_begin 54 = .ok (.iload_n 1, 1) := by decide +kernel
theorem dX12_begin_55 : decode cX12_begin 55 = .ok (.dup2, 1) := by decide +kernel
theorem dX12_begin_56 : decode cX12_begin 56 = .ok (.iaload, 1) := by decide +kernel
theorem dX12_begin_57 : decode cX12_begin 57 = .ok (.dup_x2, 1) := by decide +kernel
theorem dX12_begin_58 : decode cX12_begin 58 = .ok (.iconst 1, 1) := by decide +kernel
theorem dX12_begin_59 : decode cX12_begin 59 = .ok (.iadd, 1) := by decide +kernel
theorem dX12_begin_60 : decode cX12_begin 60 = .ok (.iastore, 1) := by decide +kernel
theorem dX12_begin_61 : decode cX12_begin 61 = .ok (.iadd, 1) := by decide +kernel
theorem dX12_begin_62 : decode cX12_begin 62 = .ok (.istore 7, 2) := by decide +kernel
theorem dX12_begin_64 : decode cX12_begin 64 = .ok (.aload_n 0, 1) := by decide +kernel
theorem dX12_begin_65 : decode cX12_begin 65 = .ok (.getfield 110, 3) := by decide +kernel
theorem dX12_begin_68 : decode cX12_begin 68 = .ok (.iload 7, 2) := by decide +kernel
theorem dX12_begin_70 : decode cX12_begin 70 = .ok (.iload 6, 2) := by decide +kernel
theorem dX12_begin_72 : decode cX12_begin 72 = .ok (.iastore, 1) := by decide +kernel
theorem dX12_begin_73 : decode cX12_begin 73 = .ok (.aload_n 0, 1) := by decide +kernel
theorem dX12_begin_74 : decode cX12_begin 74 = .ok (.getfield 113, 3) := by decide +kernel
