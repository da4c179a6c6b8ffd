theorem dL_law_406 : decode cL_law 406 = .ok (.aload_n 1, 1) := by decide +kernel
theorem dL_law_407 : decode cL_law 407 = .ok (.iload 10, 2) := by decide +kernel
theorem dL_law_409 : decode cL_law 409 = .ok (.iconst 1, 1) := by decide +kernel
theorem dL_law_410 : decode cL_law 410 = .ok (.iadd, 1) := by decide +kernel
theorem dL_law_411 : decode cL_law 411 = .ok (.invokevirtual 86, 3) := by decide +kernel
theorem dL_law_414 : decode cL_law 414 = .ok (.iload 11, 2) := by decide +kernel
theorem dL_law_416 : decode cL_law 416 = .ok (.iload 12, 2) := by decide +kernel
theorem dL_law_418 : decode cL_law 418 = .ok (.isub, 1) := by decide +kernel
theorem dL_law_419 : decode cL_law 419 = .ok (.if_icmp .ne 7, 3) := by decide +kernel
theorem dL_law_422 : decode cL_law 422 = .ok (.iconst 1, 1) := by decide +kernel
theorem dL_law_423 : decode cL_law 423 = .ok (.goto 4, 3) := by decide +kernel
theorem dL_law_426 : decode cL_law 426 = .ok (.iconst 0, 1) := by decide +kernel
theorem dL_law_427 : decode cL_law 427 = .ok (.istore_n 3, 1) := by decide +kernel
theorem dL_law_428 : decode cL_law 428 = .ok (.iload_n 3, 1) := by decide +kernel
theorem dL_law_429 : decode cL_law 429 = .ok (.ifCond .eq 72, 3) := by decide +kernel
theorem dL_law_432 : decode cL_law 432 = .ok (.iload 7, 2) := by decide +kernel
theorem dL_law_434 : decode cL_law 434 = .ok (.bipush 12, 2) := by decide +kernel
theorem dL_law_436 : decode cL_law 436 = .ok (.ishr, 1) := by decide +kernel
theorem dL_law_437 : decode cL_law 437 = .ok (.iconst 1, 1) := by decide +kernel
theorem dL_law_438 : decode cL_law 438 = .ok (.iand, 1) := by decide +kernel
theorem dL_law_439 : decode cL_law 439 = .ok (.ifCond .ne 62, 3) := by decide +kernel
theorem dL_law_442 : decode cL_law 442 = .ok (.aload_n 1, 1) := by decide +kernel
theorem dL_law_443 : decode cL_law 443 = .ok (.iconst 2, 1) := by decide +kernel
theorem dL_law_444 : decode cL_law 444 = .ok (.iload 10, 2) := by decide +kernel
theorem dL_law_446 : decode cL_law 446 = .ok (.iconst 0, 1) := by decide +kernel
theorem dL_law_447 : decode cL_law 447 = .ok (.iconst 0, 1) := by decide +kernel
theorem dL_law_448 : decode cL_law 448 = .ok (.iconst 0, 1) := by decide +kernel
theorem dL_law_449 : decode cL_law 449 = .ok (.invokestatic 96, 3) := by decide +kernel
theorem dL_law_452 : decode cL_law 452 = .ok (.iload 11, 2) := by decide +kernel
theorem dL_law_454 : decode cL_law 454 = .ok (.if_icmp .ne 45, 3) := by decide +kernel
theorem dL_law_457 : decode cL_law 457 = .ok (.aload_n 1, 1) := by decide +kernel
theorem dL_law_458 : decode cL_law 458 = .ok (.invokevirtual 73, 3) := by decide +kernel
theorem dL_law_461 : decode cL_law 461 = .ok (.iload 13, 2) := by decide +kernel
theorem dL_law_463 : decode cL_law 463 = .ok (.if_icmp .ne 36, 3) := by decide +kernel
theorem dL_law_466 : decode cL_law 466 = .ok (.aload_n 1, 1) := by decide +kernel
theorem dL_law_467 : decode cL_law 467 = .ok (.iload 9, 2) := by decide +kernel
theorem dL_law_469 : decode cL_law 469 = .ok (.iload 10, 2) := by decide +kernel
theorem dL_law_471 : decode cL_law 471 = .ok (.invokevirtual 77, 3) := by decide +kernel
theorem dL_law_474 : decode cL_law 474 = .ok (.ifCond .ne 7, 3) := by decide +kernel
theorem dL_law_477 : decode cL_law 477 = .ok (.iconst 1, 1) := by decide +kernel
theorem dL_law_478 : decode cL_law 478 = .ok (.goto 4, 3) := by decide +kernel
theorem dL_law_481 : decode cL_law 481 = .ok (.iconst 0, 1) := by decide +kernel
theorem dL_law_482 : decode cL_law 482 = .ok (.iload 14, 2) := by decide +kernel
theorem dL_law_484 : decode cL_law 484 = .ok (.ifCond .ne 7, 3) := by decide +kernel
theorem dL_law_487 : decode cL_law 487 = .ok (.iconst 1, 1) := by decide +kernel
theorem dL_law_488 : decode cL_law 488 = .ok (.goto 4, 3) := by decide +kernel
theorem dL_law_491 : decode cL_law 491 = .ok (.iconst 0, 1) := by decide +kernel
theorem dL_law_492 : decode cL_law 492 = .ok (.if_icmp .ne 7, 3) := by decide +kernel
theorem dL_law_495 : decode cL_law 495 = .ok (.iconst 1, 1) := by decide +kernel
theorem dL_law_496 : decode cL_law 496 = .ok (.goto 4, 3) := by decide +kernel
theorem dL_law_499 : decode cL_law 499 = .ok (.iconst 0, 1) := by decide +kernel
theorem dL_law_500 : decode cL_law 500 = .ok (.istore_n 3, 1) := by decide +kernel
theorem dL_law_501 : decode cL_law 501 = .ok (.goto 973, 3) := by decide +kernel
theorem dL_law_504 : decode cL_law 504 = .ok (.iload 8, 2) := by decide +kernel
theorem dL_law_506 : decode cL_law 506 = .ok (.iconst 4, 1) := by decide +kernel
theorem dL_law_507 : decode cL_law 507 = .ok (.if_icmp .ne 75, 3) := by decide +kernel
theorem dL_law_510 : decode cL_law 510 = .ok (.iload 12, 2) := by decide +kernel
theorem dL_law_512 : decode cL_law 512 = .ok (.iload 11, 2) := by decide +kernel
theorem dL_law_514 : decode cL_law 514 = .ok (.if_icmp .ge 68, 3) := by decide +kernel
theorem dL_law_517 : decode cL_law 517 = .ok (.aload_n 1, 1) := by decide +kernel
theorem dL_law_518 : decode cL_law 518 = .ok (.iload 10, 2) := by decide +kernel
theorem dL_law_520 : decode cL_law 520 = .ok (.iload 12, 2) := by decide +kernel
theorem dL_law_522 : decode cL_law 522 = .ok (.invokevirtual 115, 3) := by decide +kernel
theorem dL_law_525 : decode cL_law 525 = .ok (.istore 13, 2) := by decide +kernel
theorem dL_law_527 : decode cL_law 527 = .ok (.aload_n 1, 1) := by decide +kernel
theorem dL_law_528 : decode cL_law 528 = .ok (.iload 10, 2) := by decide +kernel
theorem dL_law_530 : decode cL_law 530 = .ok (.iload 12, 2) := by decide +kernel
theorem dL_law_532 : decode cL_law 532 = .ok (.iload 12, 2) := by decide +kernel
theorem dL_law_534 : decode cL_law 534 = .ok (.iconst 1, 1) := by decide +kernel
theorem dL_law_535 : decode cL_law 535 = .ok (.iadd, 1) := by decide +kernel
theorem dL_law_536 : decode cL_law 536 = .ok (.invokevirtual 118, 3) := by decide +kernel
theorem dL_law_539 : decode cL_law 539 = .ok (.iload 11, 2) := by decide +kernel
theorem dL_law_541 : decode cL_law 541 = .ok (.iconst 1, 1) := by decide +kernel
theorem dL_law_542 : decode cL_law 542 = .ok (.isub, 1) := by decide +kernel
theorem dL_law_543 : decode cL_law 543 = .ok (.if_icmp .ne 34, 3) := by decide +kernel
theorem dL_law_546 : decode cL_law 546 = .ok (.iload 7, 2) := by decide +kernel
theorem dL_law_548 : decode cL_law 548 = .ok (.bipush 12, 2) := by decide +kernel
theorem dL_law_550 : decode cL_law 550 = .ok (.ishr, 1) := by decide +kernel
theorem dL_law_551 : decode cL_law 551 = .ok (.iconst 1, 1) := by decide +kernel
theorem dL_law_552 : decode cL_law 552 = .ok (.iand, 1) := by decide +kernel
theorem dL_law_553 : decode cL_law 553 = .ok (.ifCond .eq 20, 3) := by decide +kernel
theorem dL_law_556 : decode cL_law 556 = .ok (.aload_n 1, 1) := by decide +kernel
theorem dL_law_557 : decode cL_law 557 = .ok (.iconst 0, 1) := by decide +kernel
theorem dL_law_558 : decode cL_law 558 = .ok (.iload 10, 2) := by decide +kernel
theorem dL_law_560 : decode cL_law 560 = .ok (.iload 12, 2) := by decide +kernel
theorem dL_law_562 : decode cL_law 562 = .ok (.iload 13, 2) := by decide +kernel
theorem dL_law_564 : decode cL_law 564 = .ok (.iconst 0, 1) := by decide +kernel
theorem dL_law_565 : decode cL_law 565 = .ok (.invokestatic 96, 3) := by decide +kernel
theorem dL_law_568 : decode cL_law 568 = .ok (.iload 11, 2) := by decide +kernel
theorem dL_law_570 : decode cL_law 570 = .ok (.if_icmp .ne 7, 3) := by decide +kernel
theorem dL_law_573 : decode cL_law 573 = .ok (.iconst 1, 1) := by decide +kernel
theorem dL_law_574 : decode cL_law 574 = .ok (.goto 4, 3) := by decide +kernel
theorem dL_law_577 : decode cL_law 577 = .ok (.iconst 0, 1) := by decide +kernel
theorem dL_law_578 : decode cL_law 578 = .ok (.istore_n 3, 1) := by decide +kernel
theorem dL_law_579 : decode cL_law 579 = .ok (.goto 895, 3) := by decide +kernel
theorem dL_law_582 : decode cL_law 582 = .ok (.iload 8, 2) := by decide +kernel
theorem dL_law_584 : decode cL_law 584 = .ok (.iconst 5, 1) := by decide +kernel
theorem dL_law_585 : decode cL_law 585 = .ok (.if_icmp .ne 66, 3) := by decide +kernel
theorem dL_law_588 : decode cL_law 588 = .ok (.iload 10, 2) := by decide +kernel
theorem dL_law_590 : decode cL_law 590 = .ok (.iconst 1, 1) := by decide +kernel
theorem dL_law_591 : decode cL_law 591 = .ok (.iadd, 1) := by decide +kernel
theorem dL_law_592 : decode cL_law 592 = .ok (.aload_n 1, 1) := by decide +kernel
theorem dL_law_593 : decode cL_law 593 = .ok (.invokevirtual 73, 3) := by decide +kernel
theorem dL_law_596 : decode cL_law 596 = .ok (.if_icmp .ge 23, 3) := by decide +kernel
theorem dL_law_599 : decode cL_law 599 = .ok (.iload 11, 2) := by decide +kernel
theorem dL_law_601 : decode cL_law 601 = .ok (.aload_n 1, 1) := by decide +kernel
theorem dL_law_602 : decode cL_law 602 = .ok (.iload 10, 2) := by decide +kernel
theorem dL_law_604 : decode cL_law 604 = .ok (.iconst 1, 1) := by decide +kernel
theorem dL_law_605 : decode cL_law 605 = .ok (.iadd, 1) := by decide +kernel
theorem dL_law_606 : decode cL_law 606 = .ok (.invokevirtual 86, 3) := by decide +kernel
theorem dL_law_609 : decode cL_law 609 = .ok (.iadd, 1) := by decide +kernel
theorem dL_law_610 : decode cL_law 610 = .ok (.bipush 80, 2) := by decide +kernel
theorem dL_law_612 : decode cL_law 612 = .ok (.if_icmp .gt 7, 3) := by decide +kernel
theorem dL_law_615 : decode cL_law 615 = .ok (.iconst 1, 1) := by decide +kernel
theorem dL_law_616 : decode cL_law 616 = .ok (.goto 4, 3) := by decide +kernel
theorem dL_law_619 : decode cL_law 619 = .ok (.iconst 0, 1) := by decide +kernel
theorem dL_law_620 : decode cL_law 620 = .ok (.istore 13, 2) := by decide +kernel
theorem dL_law_622 : decode cL_law 622 = .ok (.iload 13, 2) := by decide +kernel
theorem dL_law_624 : decode cL_law 624 = .ok (.ifCond .eq 18, 3) := by decide +kernel
theorem dL_law_627 : decode cL_law 627 = .ok (.aload_n 1, 1) := by decide +kernel
theorem dL_law_628 : decode cL_law 628 = .ok (.iconst 2, 1) := by decide +kernel
theorem dL_law_629 : decode cL_law 629 = .ok (.iload 10, 2) := by decide +kernel
theorem dL_law_631 : decode cL_law 631 = .ok (.iconst 0, 1) := by decide +kernel
theorem dL_law_632 : decode cL_law 632 = .ok (.iconst 0, 1) := by decide +kernel
theorem dL_law_633 : decode cL_law 633 = .ok (.iconst 0, 1) := by decide +kernel
theorem dL_law_634 : decode cL_law 634 = .ok (.invokestatic 96, 3) := by decide +kernel
theorem dL_law_637 : decode cL_law 637 = .ok (.iload 11, 2) := by decide +kernel
theorem dL_law_639 : decode cL_law 639 = .ok (.if_icmp .lt 7, 3) := by decide +kernel
theorem dL_law_642 : decode cL_law 642 = .ok (.iconst 1, 1) := by decide +kernel
theorem dL_law_643 : decode cL_law 643 = .ok (.goto 4, 3) := by decide +kernel
theorem dL_law_646 : decode cL_law 646 = .ok (.iconst 0, 1) := by decide +kernel
theorem dL_law_647 : decode cL_law 647 = .ok (.istore_n 3, 1) := by decide +kernel
theorem dL_law_648 : decode cL_law 648 = .ok (.goto 826, 3) := by decide +kernel
theorem dL_law_651 : decode cL_law 651 = .ok (.iload 8, 2) := by decide +kernel
theorem dL_law_653 : decode cL_law 653 = .ok (.bipush 6, 2) := by decide +kernel
theorem dL_law_655 : decode cL_law 655 = .ok (.if_icmp .ne 72, 3) := by decide +kernel
theorem dL_law_658 : decode cL_law 658 = .ok (.iload 12, 2) := by decide +kernel
theorem dL_law_660 : decode cL_law 660 = .ok (.iload 11, 2) := by decide +kernel
theorem dL_law_662 : decode cL_law 662 = .ok (.if_icmp .ge 34, 3) := by decide +kernel
theorem dL_law_665 : decode cL_law 665 = .ok (.aload_n 1, 1) := by decide +kernel
theorem dL_law_666 : decode cL_law 666 = .ok (.bipush 7, 2) := by decide +kernel
theorem dL_law_668 : decode cL_law 668 = .ok (.iload 9, 2) := by decide +kernel
theorem dL_law_670 : decode cL_law 670 = .ok (.iload 10, 2) := by decide +kernel
theorem dL_law_672 : decode cL_law 672 = .ok (.iload 12, 2) := by decide +kernel
theorem dL_law_674 : decode cL_law 674 = .ok (.iload 12, 2) := by decide +kernel
theorem dL_law_676 : decode cL_law 676 = .ok (.iconst 1, 1) := by decide +kernel
theorem dL_law_677 : decode cL_law 677 = .ok (.iadd, 1) := by decide +kernel
theorem dL_law_678 : decode cL_law 678 = .ok (.iload 7, 2) := by decide +kernel
theorem dL_law_680 : decode cL_law 680 = .ok (.bipush 12, 2) := by decide +kernel
theorem dL_law_682 : decode cL_law 682 = .ok (.ishr, 1) := by decide +kernel
theorem dL_law_683 : decode cL_law 683 = .ok (.iload 11, 2) := by decide +kernel
theorem dL_law_685 : decode cL_law 685 = .ok (.iload 12, 2) := by decide +kernel
theorem dL_law_687 : decode cL_law 687 = .ok (.isub, 1) := by decide +kernel
theorem dL_law_688 : decode cL_law 688 = .ok (.irem, 1) := by decide +kernel
theorem dL_law_689 : decode cL_law 689 = .ok (.iadd, 1) := by decide +kernel
theorem dL_law_690 : decode cL_law 690 = .ok (.invokestatic 96, 3) := by decide +kernel
theorem dL_law_693 : decode cL_law 693 = .ok (.goto 4, 3) := by decide +kernel
theorem dL_law_696 : decode cL_law 696 = .ok (.iconst 0, 1) := by decide +kernel
theorem dL_law_697 : decode cL_law 697 = .ok (.istore 13, 2) := by decide +kernel
theorem dL_law_699 : decode cL_law 699 = .ok (.iload 13, 2) := by decide +kernel
theorem dL_law_701 : decode cL_law 701 = .ok (.bipush (-13), 2) := by decide +kernel
theorem dL_law_703 : decode cL_law 703 = .ok (.if_icmp .eq 15, 3) := by decide +kernel
theorem dL_law_706 : decode cL_law 706 = .ok (.iload 13, 2) := by decide +kernel
theorem dL_law_708 : decode cL_law 708 = .ok (.ifCond .lt 14, 3) := by decide +kernel
theorem dL_law_711 : decode cL_law 711 = .ok (.iload 13, 2) := by decide +kernel
theorem dL_law_713 : decode cL_law 713 = .ok (.bipush 7, 2) := by decide +kernel
theorem dL_law_715 : decode cL_law 715 = .ok (.if_icmp .ge 7, 3) := by decide +kernel
theorem dL_law_718 : decode cL_law 718 = .ok (.iconst 1, 1) := by decide +kernel
theorem dL_law_719 : decode cL_law 719 = .ok (.goto 4, 3) := by decide +kernel
theorem dL_law_722 : decode cL_law 722 = .ok (.iconst 0, 1) := by decide +kernel
theorem dL_law_723 : decode cL_law 723 = .ok (.istore_n 3, 1) := by decide +kernel
theorem dL_law_724 : decode cL_law 724 = .ok (.goto 750, 3) := by decide +kernel
theorem dL_law_727 : decode cL_law 727 = .ok (.iload 8, 2) := by decide +kernel
theorem dL_law_729 : decode cL_law 729 = .ok (.bipush 7, 2) := by decide +kernel
theorem dL_law_731 : decode cL_law 731 = .ok (.if_icmp .ne 57, 3) := by decide +kernel
theorem dL_law_734 : decode cL_law 734 = .ok (.aload_n 1, 1) := by decide +kernel
theorem dL_law_735 : decode cL_law 735 = .ok (.iload 9, 2) := by decide +kernel
theorem dL_law_737 : decode cL_law 737 = .ok (.iload 10, 2) := by decide +kernel
theorem dL_law_739 : decode cL_law 739 = .ok (.iload 12, 2) := by decide +kernel
theorem dL_law_741 : decode cL_law 741 = .ok (.ldc2_w 121, 3) := by decide +kernel
theorem dL_law_744 : decode cL_law 744 = .ok (.bipush 8, 2) := by decide +kernel
theorem dL_law_746 : decode cL_law 746 = .ok (.iload 7, 2) := by decide +kernel
theorem dL_law_748 : decode cL_law 748 = .ok (.bipush 12, 2) := by decide +kernel
theorem dL_law_750 : decode cL_law 750 = .ok (.ishr, 1) := by decide +kernel
theorem dL_law_751 : decode cL_law 751 = .ok (.iconst 3, 1) := by decide +kernel
theorem dL_law_752 : decode cL_law 752 = .ok (.iand, 1) := by decide +kernel
theorem dL_law_753 : decode cL_law 753 = .ok (.imul, 1) := by decide +kernel
theorem dL_law_754 : decode cL_law 754 = .ok (.lshr, 1) := by decide +kernel
theorem dL_law_755 : decode cL_law 755 = .ok (.invokestatic 123, 3) := by decide +kernel
theorem dL_law_758 : decode cL_law 758 = .ok (.istore 13, 2) := by decide +kernel
theorem dL_law_760 : decode cL_law 760 = .ok (.iload 13, 2) := by decide +kernel
theorem dL_law_762 : decode cL_law 762 = .ok (.bipush (-13), 2) := by decide +kernel
theorem dL_law_764 : decode cL_law 764 = .ok (.if_icmp .eq 15, 3) := by decide +kernel
theorem dL_law_767 : decode cL_law 767 = .ok (.iload 13, 2) := by decide +kernel
theorem dL_law_769 : decode cL_law 769 = .ok (.ifCond .le 14, 3) := by decide +kernel
theorem dL_law_772 : decode cL_law 772 = .ok (.iload 13, 2) := by decide +kernel
theorem dL_law_774 : decode cL_law 774 = .ok (.bipush 7, 2) := by decide +kernel
theorem dL_law_776 : decode cL_law 776 = .ok (.if_icmp .ge 7, 3) := by decide +kernel
theorem dL_law_779 : decode cL_law 779 = .ok (.iconst 1, 1) := by decide +kernel
theorem dL_law_780 : decode cL_law 780 = .ok (.goto 4, 3) := by decide +kernel
theorem dL_law_783 : decode cL_law 783 = .ok (.iconst 0, 1) := by decide +kernel
theorem dL_law_784 : decode cL_law 784 = .ok (.istore_n 3, 1) := by decide +kernel
theorem dL_law_785 : decode cL_law 785 = .ok (.goto 689, 3) := by decide +kernel
theorem dL_law_788 : decode cL_law 788 = .ok (.iload 8, 2) := by decide +kernel
theorem dL_law_790 : decode cL_law 790 = .ok (.bipush 8, 2) := by decide +kernel
theorem dL_law_792 : decode cL_law 792 = .ok (.if_icmp .ne 115, 3) := by decide +kernel
theorem dL_law_795 : decode cL_law 795 = .ok (.iload 10, 2) := by decide +kernel
theorem dL_law_797 : decode cL_law 797 = .ok (.iconst 1, 1) := by decide +kernel
theorem dL_law_798 : decode cL_law 798 = .ok (.iadd, 1) := by decide +kernel
theorem dL_law_799 : decode cL_law 799 = .ok (.aload_n 1, 1) := by decide +kernel
theorem dL_law_800 : decode cL_law 800 = .ok (.invokevirtual 73, 3) := by decide +kernel
theorem dL_law_803 : decode cL_law 803 = .ok (.if_icmp .ge 37, 3) := by decide +kernel
theorem dL_law_806 : decode cL_law 806 = .ok (.aload_n 1, 1) := by decide +kernel
theorem dL_law_807 : decode cL_law 807 = .ok (.bipush 8, 2) := by decide +kernel
theorem dL_law_809 : decode cL_law 809 = .ok (.iload 9, 2) := by decide +kernel
theorem dL_law_811 : decode cL_law 811 = .ok (.iload 10, 2) := by decide +kernel
theorem dL_law_813 : decode cL_law 813 = .ok (.iload 10, 2) := by decide +kernel
theorem dL_law_815 : decode cL_law 815 = .ok (.iconst 1, 1) := by decide +kernel
theorem dL_law_816 : decode cL_law 816 = .ok (.iadd, 1) := by decide +kernel
theorem dL_law_817 : decode cL_law 817 = .ok (.iload 7, 2) := by decide +kernel
theorem dL_law_819 : decode cL_law 819 = .ok (.bipush 12, 2) := by decide +kernel
theorem dL_law_821 : decode cL_law 821 = .ok (.ishr, 1) := by decide +kernel
theorem dL_law_822 : decode cL_law 822 = .ok (.aload_n 1, 1) := by decide +kernel
theorem dL_law_823 : decode cL_law 823 = .ok (.invokevirtual 73, 3) := by decide +kernel
theorem dL_law_826 : decode cL_law 826 = .ok (.iload 10, 2) := by decide +kernel
theorem dL_law_828 : decode cL_law 828 = .ok (.isub, 1) := by decide +kernel
theorem dL_law_829 : decode cL_law 829 = .ok (.iconst 1, 1) := by decide +kernel
theorem dL_law_830 : decode cL_law 830 = .ok (.isub, 1) := by decide +kernel
theorem dL_law_831 : decode cL_law 831 = .ok (.irem, 1) := by decide +kernel
theorem dL_law_832 : decode cL_law 832 = .ok (.iadd, 1) := by decide +kernel
theorem dL_law_833 : decode cL_law 833 = .ok (.iconst 0, 1) := by decide +kernel
theorem dL_law_834 : decode cL_law 834 = .ok (.invokestatic 96, 3) := by decide +kernel
theorem dL_law_837 : decode cL_law 837 = .ok (.goto 4, 3) := by decide +kernel
theorem dL_law_840 : decode cL_law 840 = .ok (.iconst 0, 1) := by decide +kernel
theorem dL_law_841 : decode cL_law 841 = .ok (.istore 13, 2) := by decide +kernel
theorem dL_law_843 : decode cL_law 843 = .ok (.aload_n 1, 1) := by decide +kernel
theorem dL_law_844 : decode cL_law 844 = .ok (.iload 9, 2) := by decide +kernel
theorem dL_law_846 : decode cL_law 846 = .ok (.iload 7, 2) := by decide +kernel
theorem dL_law_848 : decode cL_law 848 = .ok (.bipush 16, 2) := by decide +kernel
theorem dL_law_850 : decode cL_law 850 = .ok (.ishr, 1) := by decide +kernel
