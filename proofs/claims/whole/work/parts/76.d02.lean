theorem d_law_438 : decode code 438 = .ok (.aload_n 2, 1) := by decide +kernel
theorem d_law_439 : decode code 439 = .ok (.aload_n 0, 1) := by decide +kernel
theorem d_law_440 : decode code 440 = .ok (.iload 4, 2) := by decide +kernel
theorem d_law_442 : decode code 442 = .ok (.iconst 1, 1) := by decide +kernel
theorem d_law_443 : decode code 443 = .ok (.iadd, 1) := by decide +kernel
theorem d_law_444 : decode code 444 = .ok (.iaload, 1) := by decide +kernel
theorem d_law_445 : decode code 445 = .ok (.aload_n 0, 1) := by decide +kernel
theorem d_law_446 : decode code 446 = .ok (.iload 4, 2) := by decide +kernel
theorem d_law_448 : decode code 448 = .ok (.iconst 2, 1) := by decide +kernel
theorem d_law_449 : decode code 449 = .ok (.iadd, 1) := by decide +kernel
theorem d_law_450 : decode code 450 = .ok (.iaload, 1) := by decide +kernel
theorem d_law_451 : decode code 451 = .ok (.aload_n 0, 1) := by decide +kernel
theorem d_law_452 : decode code 452 = .ok (.iload 4, 2) := by decide +kernel
theorem d_law_454 : decode code 454 = .ok (.iconst 3, 1) := by decide +kernel
theorem d_law_455 : decode code 455 = .ok (.iadd, 1) := by decide +kernel
theorem d_law_456 : decode code 456 = .ok (.iaload, 1) := by decide +kernel
theorem d_law_457 : decode code 457 = .ok (.invokevirtual 100, 3) := by decide +kernel
theorem d_law_460 : decode code 460 = .ok (.istore 6, 2) := by decide +kernel
theorem d_law_462 : decode code 462 = .ok (.aload_n 2, 1) := by decide +kernel
theorem d_law_463 : decode code 463 = .ok (.invokevirtual 66, 3) := by decide +kernel
theorem d_law_466 : decode code 466 = .ok (.iload 5, 2) := by decide +kernel
theorem d_law_468 : decode code 468 = .ok (.if_icmp .eq 5, 3) := by decide +kernel
theorem d_law_471 : decode code 471 = .ok (.iconst 0, 1) := by decide +kernel
theorem d_law_472 : decode code 472 = .ok (.ireturn, 1) := by decide +kernel
theorem d_law_473 : decode code 473 = .ok (.iload 5, 2) := by decide +kernel
theorem d_law_475 : decode code 475 = .ok (.ifCond .ne 15, 3) := by decide +kernel
theorem d_law_478 : decode code 478 = .ok (.aload_n 3, 1) := by decide +kernel
theorem d_law_479 : decode code 479 = .ok (.iconst 0, 1) := by decide +kernel
theorem d_law_480 : decode code 480 = .ok (.laload, 1) := by decide +kernel
theorem d_law_481 : decode code 481 = .ok (.iload 6, 2) := by decide +kernel
theorem d_law_483 : decode code 483 = .ok (.i2l, 1) := by decide +kernel
theorem d_law_484 : decode code 484 = .ok (.lcmp, 1) := by decide +kernel
theorem d_law_485 : decode code 485 = .ok (.ifCond .eq 5, 3) := by decide +kernel
theorem d_law_488 : decode code 488 = .ok (.iconst 0, 1) := by decide +kernel
theorem d_law_489 : decode code 489 = .ok (.ireturn, 1) := by decide +kernel
theorem d_law_490 : decode code 490 = .ok (.goto 566, 3) := by decide +kernel
theorem d_law_493 : decode code 493 = .ok (.aload_n 1, 1) := by decide +kernel
theorem d_law_494 : decode code 494 = .ok (.aload_n 0, 1) := by decide +kernel
theorem d_law_495 : decode code 495 = .ok (.iload 4, 2) := by decide +kernel
theorem d_law_497 : decode code 497 = .ok (.iconst 1, 1) := by decide +kernel
theorem d_law_498 : decode code 498 = .ok (.iadd, 1) := by decide +kernel
theorem d_law_499 : decode code 499 = .ok (.iaload, 1) := by decide +kernel
theorem d_law_500 : decode code 500 = .ok (.aload_n 3, 1) := by decide +kernel
theorem d_law_501 : decode code 501 = .ok (.invokestatic 101, 3) := by decide +kernel
theorem d_law_504 : decode code 504 = .ok (.istore 5, 2) := by decide +kernel
theorem d_law_506 : decode code 506 = .ok (.aload_n 2, 1) := by decide +kernel
theorem d_law_507 : decode code 507 = .ok (.aload_n 0, 1) := by decide +kernel
theorem d_law_508 : decode code 508 = .ok (.iload 4, 2) := by decide +kernel
theorem d_law_510 : decode code 510 = .ok (.iconst 1, 1) := by decide +kernel
theorem d_law_511 : decode code 511 = .ok (.iadd, 1) := by decide +kernel
theorem d_law_512 : decode code 512 = .ok (.iaload, 1) := by decide +kernel
theorem d_law_513 : decode code 513 = .ok (.invokevirtual 103, 3) := by decide +kernel
theorem d_law_516 : decode code 516 = .ok (.istore 6, 2) := by decide +kernel
theorem d_law_518 : decode code 518 = .ok (.aload_n 2, 1) := by decide +kernel
theorem d_law_519 : decode code 519 = .ok (.invokevirtual 66, 3) := by decide +kernel
theorem d_law_522 : decode code 522 = .ok (.iload 5, 2) := by decide +kernel
theorem d_law_524 : decode code 524 = .ok (.if_icmp .eq 5, 3) := by decide +kernel
theorem d_law_527 : decode code 527 = .ok (.iconst 0, 1) := by decide +kernel
theorem d_law_528 : decode code 528 = .ok (.ireturn, 1) := by decide +kernel
theorem d_law_529 : decode code 529 = .ok (.iload 5, 2) := by decide +kernel
theorem d_law_531 : decode code 531 = .ok (.ifCond .ne 15, 3) := by decide +kernel
theorem d_law_534 : decode code 534 = .ok (.aload_n 3, 1) := by decide +kernel
theorem d_law_535 : decode code 535 = .ok (.iconst 0, 1) := by decide +kernel
theorem d_law_536 : decode code 536 = .ok (.laload, 1) := by decide +kernel
theorem d_law_537 : decode code 537 = .ok (.iload 6, 2) := by decide +kernel
theorem d_law_539 : decode code 539 = .ok (.i2l, 1) := by decide +kernel
theorem d_law_540 : decode code 540 = .ok (.lcmp, 1) := by decide +kernel
theorem d_law_541 : decode code 541 = .ok (.ifCond .eq 5, 3) := by decide +kernel
theorem d_law_544 : decode code 544 = .ok (.iconst 0, 1) := by decide +kernel
theorem d_law_545 : decode code 545 = .ok (.ireturn, 1) := by decide +kernel
theorem d_law_546 : decode code 546 = .ok (.goto 510, 3) := by decide +kernel
theorem d_law_549 : decode code 549 = .ok (.aload_n 1, 1) := by decide +kernel
theorem d_law_550 : decode code 550 = .ok (.aload_n 0, 1) := by decide +kernel
theorem d_law_551 : decode code 551 = .ok (.iload 4, 2) := by decide +kernel
theorem d_law_553 : decode code 553 = .ok (.iconst 1, 1) := by decide +kernel
theorem d_law_554 : decode code 554 = .ok (.iadd, 1) := by decide +kernel
theorem d_law_555 : decode code 555 = .ok (.iaload, 1) := by decide +kernel
theorem d_law_556 : decode code 556 = .ok (.aload_n 3, 1) := by decide +kernel
theorem d_law_557 : decode code 557 = .ok (.invokestatic 104, 3) := by decide +kernel
theorem d_law_560 : decode code 560 = .ok (.istore 5, 2) := by decide +kernel
theorem d_law_562 : decode code 562 = .ok (.aload_n 2, 1) := by decide +kernel
theorem d_law_563 : decode code 563 = .ok (.aload_n 0, 1) := by decide +kernel
theorem d_law_564 : decode code 564 = .ok (.iload 4, 2) := by decide +kernel
theorem d_law_566 : decode code 566 = .ok (.iconst 1, 1) := by decide +kernel
theorem d_law_567 : decode code 567 = .ok (.iadd, 1) := by decide +kernel
theorem d_law_568 : decode code 568 = .ok (.iaload, 1) := by decide +kernel
theorem d_law_569 : decode code 569 = .ok (.invokevirtual 106, 3) := by decide +kernel
theorem d_law_572 : decode code 572 = .ok (.istore 6, 2) := by decide +kernel
theorem d_law_574 : decode code 574 = .ok (.aload_n 2, 1) := by decide +kernel
theorem d_law_575 : decode code 575 = .ok (.invokevirtual 66, 3) := by decide +kernel
theorem d_law_578 : decode code 578 = .ok (.iload 5, 2) := by decide +kernel
theorem d_law_580 : decode code 580 = .ok (.if_icmp .eq 5, 3) := by decide +kernel
theorem d_law_583 : decode code 583 = .ok (.iconst 0, 1) := by decide +kernel
theorem d_law_584 : decode code 584 = .ok (.ireturn, 1) := by decide +kernel
theorem d_law_585 : decode code 585 = .ok (.iload 5, 2) := by decide +kernel
theorem d_law_587 : decode code 587 = .ok (.ifCond .ne 15, 3) := by decide +kernel
theorem d_law_590 : decode code 590 = .ok (.aload_n 3, 1) := by decide +kernel
theorem d_law_591 : decode code 591 = .ok (.iconst 0, 1) := by decide +kernel
theorem d_law_592 : decode code 592 = .ok (.laload, 1) := by decide +kernel
theorem d_law_593 : decode code 593 = .ok (.iload 6, 2) := by decide +kernel
theorem d_law_595 : decode code 595 = .ok (.i2l, 1) := by decide +kernel
theorem d_law_596 : decode code 596 = .ok (.lcmp, 1) := by decide +kernel
theorem d_law_597 : decode code 597 = .ok (.ifCond .eq 5, 3) := by decide +kernel
theorem d_law_600 : decode code 600 = .ok (.iconst 0, 1) := by decide +kernel
theorem d_law_601 : decode code 601 = .ok (.ireturn, 1) := by decide +kernel
theorem d_law_602 : decode code 602 = .ok (.goto 454, 3) := by decide +kernel
theorem d_law_605 : decode code 605 = .ok (.aload_n 1, 1) := by decide +kernel
theorem d_law_606 : decode code 606 = .ok (.aload_n 0, 1) := by decide +kernel
theorem d_law_607 : decode code 607 = .ok (.iload 4, 2) := by decide +kernel
theorem d_law_609 : decode code 609 = .ok (.iconst 1, 1) := by decide +kernel
theorem d_law_610 : decode code 610 = .ok (.iadd, 1) := by decide +kernel
theorem d_law_611 : decode code 611 = .ok (.iaload, 1) := by decide +kernel
theorem d_law_612 : decode code 612 = .ok (.aload_n 0, 1) := by decide +kernel
theorem d_law_613 : decode code 613 = .ok (.iload 4, 2) := by decide +kernel
theorem d_law_615 : decode code 615 = .ok (.iconst 2, 1) := by decide +kernel
theorem d_law_616 : decode code 616 = .ok (.iadd, 1) := by decide +kernel
theorem d_law_617 : decode code 617 = .ok (.iaload, 1) := by decide +kernel
theorem d_law_618 : decode code 618 = .ok (.aload_n 0, 1) := by decide +kernel
theorem d_law_619 : decode code 619 = .ok (.iload 4, 2) := by decide +kernel
theorem d_law_621 : decode code 621 = .ok (.iconst 3, 1) := by decide +kernel
theorem d_law_622 : decode code 622 = .ok (.iadd, 1) := by decide +kernel
theorem d_law_623 : decode code 623 = .ok (.iaload, 1) := by decide +kernel
theorem d_law_624 : decode code 624 = .ok (.aload_n 3, 1) := by decide +kernel
theorem d_law_625 : decode code 625 = .ok (.invokestatic 107, 3) := by decide +kernel
theorem d_law_628 : decode code 628 = .ok (.istore 5, 2) := by decide +kernel
theorem d_law_630 : decode code 630 = .ok (.aload_n 2, 1) := by decide +kernel
theorem d_law_631 : decode code 631 = .ok (.aload_n 0, 1) := by decide +kernel
theorem d_law_632 : decode code 632 = .ok (.iload 4, 2) := by decide +kernel
theorem d_law_634 : decode code 634 = .ok (.iconst 1, 1) := by decide +kernel
theorem d_law_635 : decode code 635 = .ok (.iadd, 1) := by decide +kernel
theorem d_law_636 : decode code 636 = .ok (.iaload, 1) := by decide +kernel
theorem d_law_637 : decode code 637 = .ok (.aload_n 0, 1) := by decide +kernel
theorem d_law_638 : decode code 638 = .ok (.iload 4, 2) := by decide +kernel
theorem d_law_640 : decode code 640 = .ok (.iconst 2, 1) := by decide +kernel
theorem d_law_641 : decode code 641 = .ok (.iadd, 1) := by decide +kernel
theorem d_law_642 : decode code 642 = .ok (.iaload, 1) := by decide +kernel
theorem d_law_643 : decode code 643 = .ok (.aload_n 0, 1) := by decide +kernel
theorem d_law_644 : decode code 644 = .ok (.iload 4, 2) := by decide +kernel
theorem d_law_646 : decode code 646 = .ok (.iconst 3, 1) := by decide +kernel
theorem d_law_647 : decode code 647 = .ok (.iadd, 1) := by decide +kernel
theorem d_law_648 : decode code 648 = .ok (.iaload, 1) := by decide +kernel
theorem d_law_649 : decode code 649 = .ok (.invokevirtual 109, 3) := by decide +kernel
theorem d_law_652 : decode code 652 = .ok (.istore 6, 2) := by decide +kernel
theorem d_law_654 : decode code 654 = .ok (.aload_n 2, 1) := by decide +kernel
theorem d_law_655 : decode code 655 = .ok (.invokevirtual 66, 3) := by decide +kernel
theorem d_law_658 : decode code 658 = .ok (.iload 5, 2) := by decide +kernel
theorem d_law_660 : decode code 660 = .ok (.if_icmp .eq 5, 3) := by decide +kernel
theorem d_law_663 : decode code 663 = .ok (.iconst 0, 1) := by decide +kernel
theorem d_law_664 : decode code 664 = .ok (.ireturn, 1) := by decide +kernel
theorem d_law_665 : decode code 665 = .ok (.iload 5, 2) := by decide +kernel
theorem d_law_667 : decode code 667 = .ok (.ifCond .ne 15, 3) := by decide +kernel
theorem d_law_670 : decode code 670 = .ok (.aload_n 3, 1) := by decide +kernel
theorem d_law_671 : decode code 671 = .ok (.iconst 0, 1) := by decide +kernel
theorem d_law_672 : decode code 672 = .ok (.laload, 1) := by decide +kernel
theorem d_law_673 : decode code 673 = .ok (.iload 6, 2) := by decide +kernel
theorem d_law_675 : decode code 675 = .ok (.i2l, 1) := by decide +kernel
theorem d_law_676 : decode code 676 = .ok (.lcmp, 1) := by decide +kernel
theorem d_law_677 : decode code 677 = .ok (.ifCond .eq 5, 3) := by decide +kernel
theorem d_law_680 : decode code 680 = .ok (.iconst 0, 1) := by decide +kernel
theorem d_law_681 : decode code 681 = .ok (.ireturn, 1) := by decide +kernel
theorem d_law_682 : decode code 682 = .ok (.goto 374, 3) := by decide +kernel
theorem d_law_685 : decode code 685 = .ok (.aload_n 1, 1) := by decide +kernel
theorem d_law_686 : decode code 686 = .ok (.aload_n 0, 1) := by decide +kernel
theorem d_law_687 : decode code 687 = .ok (.iload 4, 2) := by decide +kernel
theorem d_law_689 : decode code 689 = .ok (.iconst 1, 1) := by decide +kernel
theorem d_law_690 : decode code 690 = .ok (.iadd, 1) := by decide +kernel
theorem d_law_691 : decode code 691 = .ok (.iaload, 1) := by decide +kernel
theorem d_law_692 : decode code 692 = .ok (.aload_n 0, 1) := by decide +kernel
theorem d_law_693 : decode code 693 = .ok (.iload 4, 2) := by decide +kernel
theorem d_law_695 : decode code 695 = .ok (.iconst 2, 1) := by decide +kernel
theorem d_law_696 : decode code 696 = .ok (.iadd, 1) := by decide +kernel
theorem d_law_697 : decode code 697 = .ok (.iaload, 1) := by decide +kernel
theorem d_law_698 : decode code 698 = .ok (.aload_n 3, 1) := by decide +kernel
theorem d_law_699 : decode code 699 = .ok (.invokestatic 110, 3) := by decide +kernel
theorem d_law_702 : decode code 702 = .ok (.istore 5, 2) := by decide +kernel
theorem d_law_704 : decode code 704 = .ok (.aload_n 2, 1) := by decide +kernel
theorem d_law_705 : decode code 705 = .ok (.aload_n 0, 1) := by decide +kernel
theorem d_law_706 : decode code 706 = .ok (.iload 4, 2) := by decide +kernel
theorem d_law_708 : decode code 708 = .ok (.iconst 1, 1) := by decide +kernel
theorem d_law_709 : decode code 709 = .ok (.iadd, 1) := by decide +kernel
theorem d_law_710 : decode code 710 = .ok (.iaload, 1) := by decide +kernel
theorem d_law_711 : decode code 711 = .ok (.aload_n 0, 1) := by decide +kernel
theorem d_law_712 : decode code 712 = .ok (.iload 4, 2) := by decide +kernel
theorem d_law_714 : decode code 714 = .ok (.iconst 2, 1) := by decide +kernel
theorem d_law_715 : decode code 715 = .ok (.iadd, 1) := by decide +kernel
theorem d_law_716 : decode code 716 = .ok (.iaload, 1) := by decide +kernel
theorem d_law_717 : decode code 717 = .ok (.invokevirtual 112, 3) := by decide +kernel
theorem d_law_720 : decode code 720 = .ok (.istore 6, 2) := by decide +kernel
theorem d_law_722 : decode code 722 = .ok (.aload_n 2, 1) := by decide +kernel
theorem d_law_723 : decode code 723 = .ok (.invokevirtual 66, 3) := by decide +kernel
theorem d_law_726 : decode code 726 = .ok (.iload 5, 2) := by decide +kernel
theorem d_law_728 : decode code 728 = .ok (.if_icmp .eq 5, 3) := by decide +kernel
theorem d_law_731 : decode code 731 = .ok (.iconst 0, 1) := by decide +kernel
theorem d_law_732 : decode code 732 = .ok (.ireturn, 1) := by decide +kernel
theorem d_law_733 : decode code 733 = .ok (.iload 5, 2) := by decide +kernel
theorem d_law_735 : decode code 735 = .ok (.ifCond .ne 15, 3) := by decide +kernel
theorem d_law_738 : decode code 738 = .ok (.aload_n 3, 1) := by decide +kernel
theorem d_law_739 : decode code 739 = .ok (.iconst 0, 1) := by decide +kernel
theorem d_law_740 : decode code 740 = .ok (.laload, 1) := by decide +kernel
theorem d_law_741 : decode code 741 = .ok (.iload 6, 2) := by decide +kernel
theorem d_law_743 : decode code 743 = .ok (.i2l, 1) := by decide +kernel
theorem d_law_744 : decode code 744 = .ok (.lcmp, 1) := by decide +kernel
theorem d_law_745 : decode code 745 = .ok (.ifCond .eq 5, 3) := by decide +kernel
theorem d_law_748 : decode code 748 = .ok (.iconst 0, 1) := by decide +kernel
theorem d_law_749 : decode code 749 = .ok (.ireturn, 1) := by decide +kernel
theorem d_law_750 : decode code 750 = .ok (.goto 306, 3) := by decide +kernel
theorem d_law_753 : decode code 753 = .ok (.aload_n 1, 1) := by decide +kernel
theorem d_law_754 : decode code 754 = .ok (.aload_n 0, 1) := by decide +kernel
theorem d_law_755 : decode code 755 = .ok (.iload 4, 2) := by decide +kernel
theorem d_law_757 : decode code 757 = .ok (.iconst 1, 1) := by decide +kernel
theorem d_law_758 : decode code 758 = .ok (.iadd, 1) := by decide +kernel
theorem d_law_759 : decode code 759 = .ok (.iaload, 1) := by decide +kernel
theorem d_law_760 : decode code 760 = .ok (.invokevirtual 113, 3) := by decide +kernel
theorem d_law_763 : decode code 763 = .ok (.aload_n 2, 1) := by decide +kernel
theorem d_law_764 : decode code 764 = .ok (.aload_n 0, 1) := by decide +kernel
theorem d_law_765 : decode code 765 = .ok (.iload 4, 2) := by decide +kernel
theorem d_law_767 : decode code 767 = .ok (.iconst 1, 1) := by decide +kernel
theorem d_law_768 : decode code 768 = .ok (.iadd, 1) := by decide +kernel
theorem d_law_769 : decode code 769 = .ok (.iaload, 1) := by decide +kernel
theorem d_law_770 : decode code 770 = .ok (.invokevirtual 116, 3) := by decide +kernel
