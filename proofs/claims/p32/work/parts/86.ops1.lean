theorem dL_law_483 : decode cL_law 483 = .ok (.aload_n 1, 1) := by decide +kernel
theorem dL_law_484 : decode cL_law 484 = .ok (.aload_n 0, 1) := by decide +kernel
theorem dL_law_485 : decode cL_law 485 = .ok (.iload 4, 2) := by decide +kernel
theorem dL_law_487 : decode cL_law 487 = .ok (.iconst 1, 1) := by decide +kernel
theorem dL_law_488 : decode cL_law 488 = .ok (.iadd, 1) := by decide +kernel
theorem dL_law_489 : decode cL_law 489 = .ok (.iaload, 1) := by decide +kernel
theorem dL_law_493 : decode cL_law 493 = .ok (.pop, 1) := by decide +kernel
theorem dL_law_494 : decode cL_law 494 = .ok (.aload_n 2, 1) := by decide +kernel
theorem dL_law_495 : decode cL_law 495 = .ok (.aload_n 0, 1) := by decide +kernel
theorem dL_law_496 : decode cL_law 496 = .ok (.iload 4, 2) := by decide +kernel
theorem dL_law_498 : decode cL_law 498 = .ok (.iconst 1, 1) := by decide +kernel
theorem dL_law_499 : decode cL_law 499 = .ok (.iadd, 1) := by decide +kernel
theorem dL_law_500 : decode cL_law 500 = .ok (.iaload, 1) := by decide +kernel
theorem dL_law_504 : decode cL_law 504 = .ok (.pop, 1) := by decide +kernel
theorem dL_law_505 : decode cL_law 505 = .ok (.goto 948, 3) := by decide +kernel
theorem dL_law_508 : decode cL_law 508 = .ok (.aload_n 1, 1) := by decide +kernel
theorem dL_law_509 : decode cL_law 509 = .ok (.aload_n 0, 1) := by decide +kernel
theorem dL_law_510 : decode cL_law 510 = .ok (.iload 4, 2) := by decide +kernel
theorem dL_law_512 : decode cL_law 512 = .ok (.iconst 1, 1) := by decide +kernel
theorem dL_law_513 : decode cL_law 513 = .ok (.iadd, 1) := by decide +kernel
theorem dL_law_514 : decode cL_law 514 = .ok (.iaload, 1) := by decide +kernel
theorem dL_law_515 : decode cL_law 515 = .ok (.aload_n 0, 1) := by decide +kernel
theorem dL_law_516 : decode cL_law 516 = .ok (.iload 4, 2) := by decide +kernel
theorem dL_law_518 : decode cL_law 518 = .ok (.iconst 2, 1) := by decide +kernel
theorem dL_law_519 : decode cL_law 519 = .ok (.iadd, 1) := by decide +kernel
theorem dL_law_520 : decode cL_law 520 = .ok (.iaload, 1) := by decide +kernel
theorem dL_law_524 : decode cL_law 524 = .ok (.pop, 1) := by decide +kernel
theorem dL_law_525 : decode cL_law 525 = .ok (.aload_n 2, 1) := by decide +kernel
theorem dL_law_526 : decode cL_law 526 = .ok (.aload_n 0, 1) := by decide +kernel
theorem dL_law_527 : decode cL_law 527 = .ok (.iload 4, 2) := by decide +kernel
theorem dL_law_529 : decode cL_law 529 = .ok (.iconst 1, 1) := by decide +kernel
theorem dL_law_530 : decode cL_law 530 = .ok (.iadd, 1) := by decide +kernel
theorem dL_law_531 : decode cL_law 531 = .ok (.iaload, 1) := by decide +kernel
theorem dL_law_532 : decode cL_law 532 = .ok (.aload_n 0, 1) := by decide +kernel
theorem dL_law_533 : decode cL_law 533 = .ok (.iload 4, 2) := by decide +kernel
theorem dL_law_535 : decode cL_law 535 = .ok (.iconst 2, 1) := by decide +kernel
theorem dL_law_536 : decode cL_law 536 = .ok (.iadd, 1) := by decide +kernel
theorem dL_law_537 : decode cL_law 537 = .ok (.iaload, 1) := by decide +kernel
theorem dL_law_541 : decode cL_law 541 = .ok (.pop, 1) := by decide +kernel
theorem dL_law_542 : decode cL_law 542 = .ok (.goto 911, 3) := by decide +kernel
theorem dL_law_545 : decode cL_law 545 = .ok (.aload_n 1, 1) := by decide +kernel
theorem dL_law_546 : decode cL_law 546 = .ok (.aload_n 0, 1) := by decide +kernel
theorem dL_law_547 : decode cL_law 547 = .ok (.iload 4, 2) := by decide +kernel
theorem dL_law_549 : decode cL_law 549 = .ok (.iconst 1, 1) := by decide +kernel
theorem dL_law_550 : decode cL_law 550 = .ok (.iadd, 1) := by decide +kernel
theorem dL_law_551 : decode cL_law 551 = .ok (.iaload, 1) := by decide +kernel
theorem dL_law_552 : decode cL_law 552 = .ok (.aload_n 0, 1) := by decide +kernel
theorem dL_law_553 : decode cL_law 553 = .ok (.iload 4, 2) := by decide +kernel
theorem dL_law_555 : decode cL_law 555 = .ok (.iconst 2, 1) := by decide +kernel
theorem dL_law_556 : decode cL_law 556 = .ok (.iadd, 1) := by decide +kernel
theorem dL_law_557 : decode cL_law 557 = .ok (.iaload, 1) := by decide +kernel
theorem dL_law_561 : decode cL_law 561 = .ok (.pop, 1) := by decide +kernel
theorem dL_law_562 : decode cL_law 562 = .ok (.aload_n 2, 1) := by decide +kernel
theorem dL_law_563 : decode cL_law 563 = .ok (.aload_n 0, 1) := by decide +kernel
theorem dL_law_564 : decode cL_law 564 = .ok (.iload 4, 2) := by decide +kernel
theorem dL_law_566 : decode cL_law 566 = .ok (.iconst 1, 1) := by decide +kernel
theorem dL_law_567 : decode cL_law 567 = .ok (.iadd, 1) := by decide +kernel
theorem dL_law_568 : decode cL_law 568 = .ok (.iaload, 1) := by decide +kernel
theorem dL_law_569 : decode cL_law 569 = .ok (.aload_n 0, 1) := by decide +kernel
theorem dL_law_570 : decode cL_law 570 = .ok (.iload 4, 2) := by decide +kernel
theorem dL_law_572 : decode cL_law 572 = .ok (.iconst 2, 1) := by decide +kernel
theorem dL_law_573 : decode cL_law 573 = .ok (.iadd, 1) := by decide +kernel
theorem dL_law_574 : decode cL_law 574 = .ok (.iaload, 1) := by decide +kernel
theorem dL_law_578 : decode cL_law 578 = .ok (.pop, 1) := by decide +kernel
theorem dL_law_579 : decode cL_law 579 = .ok (.goto 874, 3) := by decide +kernel
theorem dL_law_582 : decode cL_law 582 = .ok (.aload_n 1, 1) := by decide +kernel
theorem dL_law_583 : decode cL_law 583 = .ok (.aload_n 0, 1) := by decide +kernel
theorem dL_law_584 : decode cL_law 584 = .ok (.iload 4, 2) := by decide +kernel
theorem dL_law_586 : decode cL_law 586 = .ok (.iconst 1, 1) := by decide +kernel
theorem dL_law_587 : decode cL_law 587 = .ok (.iadd, 1) := by decide +kernel
theorem dL_law_588 : decode cL_law 588 = .ok (.iaload, 1) := by decide +kernel
theorem dL_law_592 : decode cL_law 592 = .ok (.pop, 1) := by decide +kernel
theorem dL_law_593 : decode cL_law 593 = .ok (.aload_n 2, 1) := by decide +kernel
theorem dL_law_594 : decode cL_law 594 = .ok (.aload_n 0, 1) := by decide +kernel
theorem dL_law_595 : decode cL_law 595 = .ok (.iload 4, 2) := by decide +kernel
theorem dL_law_597 : decode cL_law 597 = .ok (.iconst 1, 1) := by decide +kernel
theorem dL_law_598 : decode cL_law 598 = .ok (.iadd, 1) := by decide +kernel
theorem dL_law_599 : decode cL_law 599 = .ok (.iaload, 1) := by decide +kernel
theorem dL_law_603 : decode cL_law 603 = .ok (.pop, 1) := by decide +kernel
theorem dL_law_604 : decode cL_law 604 = .ok (.goto 849, 3) := by decide +kernel
theorem dL_law_607 : decode cL_law 607 = .ok (.aload_n 1, 1) := by decide +kernel
theorem dL_law_608 : decode cL_law 608 = .ok (.aload_n 0, 1) := by decide +kernel
theorem dL_law_609 : decode cL_law 609 = .ok (.iload 4, 2) := by decide +kernel
theorem dL_law_611 : decode cL_law 611 = .ok (.iconst 1, 1) := by decide +kernel
theorem dL_law_612 : decode cL_law 612 = .ok (.iadd, 1) := by decide +kernel
theorem dL_law_613 : decode cL_law 613 = .ok (.iaload, 1) := by decide +kernel
theorem dL_law_614 : decode cL_law 614 = .ok (.aload_n 0, 1) := by decide +kernel
theorem dL_law_615 : decode cL_law 615 = .ok (.iload 4, 2) := by decide +kernel
theorem dL_law_617 : decode cL_law 617 = .ok (.iconst 2, 1) := by decide +kernel
theorem dL_law_618 : decode cL_law 618 = .ok (.iadd, 1) := by decide +kernel
theorem dL_law_619 : decode cL_law 619 = .ok (.iaload, 1) := by decide +kernel
theorem dL_law_623 : decode cL_law 623 = .ok (.pop, 1) := by decide +kernel
theorem dL_law_624 : decode cL_law 624 = .ok (.aload_n 2, 1) := by decide +kernel
theorem dL_law_625 : decode cL_law 625 = .ok (.aload_n 0, 1) := by decide +kernel
theorem dL_law_626 : decode cL_law 626 = .ok (.iload 4, 2) := by decide +kernel
theorem dL_law_628 : decode cL_law 628 = .ok (.iconst 1, 1) := by decide +kernel
theorem dL_law_629 : decode cL_law 629 = .ok (.iadd, 1) := by decide +kernel
theorem dL_law_630 : decode cL_law 630 = .ok (.iaload, 1) := by decide +kernel
theorem dL_law_631 : decode cL_law 631 = .ok (.aload_n 0, 1) := by decide +kernel
theorem dL_law_632 : decode cL_law 632 = .ok (.iload 4, 2) := by decide +kernel
theorem dL_law_634 : decode cL_law 634 = .ok (.iconst 2, 1) := by decide +kernel
theorem dL_law_635 : decode cL_law 635 = .ok (.iadd, 1) := by decide +kernel
theorem dL_law_636 : decode cL_law 636 = .ok (.iaload, 1) := by decide +kernel
theorem dL_law_640 : decode cL_law 640 = .ok (.pop, 1) := by decide +kernel
theorem dL_law_641 : decode cL_law 641 = .ok (.goto 812, 3) := by decide +kernel
theorem dL_law_644 : decode cL_law 644 = .ok (.aload_n 1, 1) := by decide +kernel
theorem dL_law_645 : decode cL_law 645 = .ok (.aload_n 0, 1) := by decide +kernel
theorem dL_law_646 : decode cL_law 646 = .ok (.iload 4, 2) := by decide +kernel
theorem dL_law_648 : decode cL_law 648 = .ok (.iconst 1, 1) := by decide +kernel
theorem dL_law_649 : decode cL_law 649 = .ok (.iadd, 1) := by decide +kernel
theorem dL_law_650 : decode cL_law 650 = .ok (.iaload, 1) := by decide +kernel
theorem dL_law_651 : decode cL_law 651 = .ok (.aload_n 0, 1) := by decide +kernel
theorem dL_law_652 : decode cL_law 652 = .ok (.iload 4, 2) := by decide +kernel
theorem dL_law_654 : decode cL_law 654 = .ok (.iconst 2, 1) := by decide +kernel
theorem dL_law_655 : decode cL_law 655 = .ok (.iadd, 1) := by decide +kernel
theorem dL_law_656 : decode cL_law 656 = .ok (.iaload, 1) := by decide +kernel
theorem dL_law_657 : decode cL_law 657 = .ok (.i2l, 1) := by decide +kernel
theorem dL_law_658 : decode cL_law 658 = .ok (.bipush 32, 2) := by decide +kernel
theorem dL_law_660 : decode cL_law 660 = .ok (.lshl, 1) := by decide +kernel
theorem dL_law_661 : decode cL_law 661 = .ok (.aload_n 0, 1) := by decide +kernel
theorem dL_law_662 : decode cL_law 662 = .ok (.iload 4, 2) := by decide +kernel
theorem dL_law_664 : decode cL_law 664 = .ok (.iconst 3, 1) := by decide +kernel
theorem dL_law_665 : decode cL_law 665 = .ok (.iadd, 1) := by decide +kernel
theorem dL_law_666 : decode cL_law 666 = .ok (.iaload, 1) := by decide +kernel
theorem dL_law_667 : decode cL_law 667 = .ok (.i2l, 1) := by decide +kernel
theorem dL_law_668 : decode cL_law 668 = .ok (.ldc2_w 77, 3) := by decide +kernel
theorem dL_law_671 : decode cL_law 671 = .ok (.land, 1) := by decide +kernel
theorem dL_law_672 : decode cL_law 672 = .ok (.lor, 1) := by decide +kernel
theorem dL_law_673 : decode cL_law 673 = .ok (.aload_n 0, 1) := by decide +kernel
theorem dL_law_674 : decode cL_law 674 = .ok (.iload 4, 2) := by decide +kernel
theorem dL_law_676 : decode cL_law 676 = .ok (.iconst 4, 1) := by decide +kernel
theorem dL_law_677 : decode cL_law 677 = .ok (.iadd, 1) := by decide +kernel
theorem dL_law_678 : decode cL_law 678 = .ok (.iaload, 1) := by decide +kernel
theorem dL_law_679 : decode cL_law 679 = .ok (.i2l, 1) := by decide +kernel
theorem dL_law_680 : decode cL_law 680 = .ok (.bipush 32, 2) := by decide +kernel
theorem dL_law_682 : decode cL_law 682 = .ok (.lshl, 1) := by decide +kernel
theorem dL_law_683 : decode cL_law 683 = .ok (.aload_n 0, 1) := by decide +kernel
theorem dL_law_684 : decode cL_law 684 = .ok (.iload 4, 2) := by decide +kernel
theorem dL_law_686 : decode cL_law 686 = .ok (.iconst 5, 1) := by decide +kernel
theorem dL_law_687 : decode cL_law 687 = .ok (.iadd, 1) := by decide +kernel
theorem dL_law_688 : decode cL_law 688 = .ok (.iaload, 1) := by decide +kernel
theorem dL_law_689 : decode cL_law 689 = .ok (.i2l, 1) := by decide +kernel
theorem dL_law_690 : decode cL_law 690 = .ok (.ldc2_w 77, 3) := by decide +kernel
theorem dL_law_693 : decode cL_law 693 = .ok (.land, 1) := by decide +kernel
theorem dL_law_694 : decode cL_law 694 = .ok (.lor, 1) := by decide +kernel
theorem dL_law_695 : decode cL_law 695 = .ok (.aload_n 0, 1) := by decide +kernel
theorem dL_law_696 : decode cL_law 696 = .ok (.iload 4, 2) := by decide +kernel
theorem dL_law_698 : decode cL_law 698 = .ok (.bipush 6, 2) := by decide +kernel
theorem dL_law_700 : decode cL_law 700 = .ok (.iadd, 1) := by decide +kernel
theorem dL_law_701 : decode cL_law 701 = .ok (.iaload, 1) := by decide +kernel
theorem dL_law_705 : decode cL_law 705 = .ok (.pop, 1) := by decide +kernel
theorem dL_law_706 : decode cL_law 706 = .ok (.aload_n 2, 1) := by decide +kernel
theorem dL_law_707 : decode cL_law 707 = .ok (.aload_n 0, 1) := by decide +kernel
theorem dL_law_708 : decode cL_law 708 = .ok (.iload 4, 2) := by decide +kernel
theorem dL_law_710 : decode cL_law 710 = .ok (.iconst 1, 1) := by decide +kernel
theorem dL_law_711 : decode cL_law 711 = .ok (.iadd, 1) := by decide +kernel
theorem dL_law_712 : decode cL_law 712 = .ok (.iaload, 1) := by decide +kernel
theorem dL_law_713 : decode cL_law 713 = .ok (.aload_n 0, 1) := by decide +kernel
theorem dL_law_714 : decode cL_law 714 = .ok (.iload 4, 2) := by decide +kernel
theorem dL_law_716 : decode cL_law 716 = .ok (.iconst 2, 1) := by decide +kernel
theorem dL_law_717 : decode cL_law 717 = .ok (.iadd, 1) := by decide +kernel
theorem dL_law_718 : decode cL_law 718 = .ok (.iaload, 1) := by decide +kernel
theorem dL_law_719 : decode cL_law 719 = .ok (.i2l, 1) := by decide +kernel
theorem dL_law_720 : decode cL_law 720 = .ok (.bipush 32, 2) := by decide +kernel
theorem dL_law_722 : decode cL_law 722 = .ok (.lshl, 1) := by decide +kernel
theorem dL_law_723 : decode cL_law 723 = .ok (.aload_n 0, 1) := by decide +kernel
theorem dL_law_724 : decode cL_law 724 = .ok (.iload 4, 2) := by decide +kernel
theorem dL_law_726 : decode cL_law 726 = .ok (.iconst 3, 1) := by decide +kernel
theorem dL_law_727 : decode cL_law 727 = .ok (.iadd, 1) := by decide +kernel
theorem dL_law_728 : decode cL_law 728 = .ok (.iaload, 1) := by decide +kernel
theorem dL_law_729 : decode cL_law 729 = .ok (.i2l, 1) := by decide +kernel
theorem dL_law_730 : decode cL_law 730 = .ok (.ldc2_w 77, 3) := by decide +kernel
theorem dL_law_733 : decode cL_law 733 = .ok (.land, 1) := by decide +kernel
theorem dL_law_734 : decode cL_law 734 = .ok (.lor, 1) := by decide +kernel
theorem dL_law_735 : decode cL_law 735 = .ok (.aload_n 0, 1) := by decide +kernel
theorem dL_law_736 : decode cL_law 736 = .ok (.iload 4, 2) := by decide +kernel
theorem dL_law_738 : decode cL_law 738 = .ok (.iconst 4, 1) := by decide +kernel
theorem dL_law_739 : decode cL_law 739 = .ok (.iadd, 1) := by decide +kernel
theorem dL_law_740 : decode cL_law 740 = .ok (.iaload, 1) := by decide +kernel
theorem dL_law_741 : decode cL_law 741 = .ok (.i2l, 1) := by decide +kernel
theorem dL_law_742 : decode cL_law 742 = .ok (.bipush 32, 2) := by decide +kernel
theorem dL_law_744 : decode cL_law 744 = .ok (.lshl, 1) := by decide +kernel
theorem dL_law_745 : decode cL_law 745 = .ok (.aload_n 0, 1) := by decide +kernel
theorem dL_law_746 : decode cL_law 746 = .ok (.iload 4, 2) := by decide +kernel
theorem dL_law_748 : decode cL_law 748 = .ok (.iconst 5, 1) := by decide +kernel
theorem dL_law_749 : decode cL_law 749 = .ok (.iadd, 1) := by decide +kernel
theorem dL_law_750 : decode cL_law 750 = .ok (.iaload, 1) := by decide +kernel
theorem dL_law_751 : decode cL_law 751 = .ok (.i2l, 1) := by decide +kernel
theorem dL_law_752 : decode cL_law 752 = .ok (.ldc2_w 77, 3) := by decide +kernel
theorem dL_law_755 : decode cL_law 755 = .ok (.land, 1) := by decide +kernel
theorem dL_law_756 : decode cL_law 756 = .ok (.lor, 1) := by decide +kernel
theorem dL_law_757 : decode cL_law 757 = .ok (.aload_n 0, 1) := by decide +kernel
theorem dL_law_758 : decode cL_law 758 = .ok (.iload 4, 2) := by decide +kernel
theorem dL_law_760 : decode cL_law 760 = .ok (.bipush 6, 2) := by decide +kernel
theorem dL_law_762 : decode cL_law 762 = .ok (.iadd, 1) := by decide +kernel
theorem dL_law_763 : decode cL_law 763 = .ok (.iaload, 1) := by decide +kernel
theorem dL_law_767 : decode cL_law 767 = .ok (.pop, 1) := by decide +kernel
theorem dL_law_768 : decode cL_law 768 = .ok (.goto 685, 3) := by decide +kernel
theorem dL_law_771 : decode cL_law 771 = .ok (.aload_n 1, 1) := by decide +kernel
theorem dL_law_772 : decode cL_law 772 = .ok (.aload_n 0, 1) := by decide +kernel
theorem dL_law_773 : decode cL_law 773 = .ok (.iload 4, 2) := by decide +kernel
theorem dL_law_775 : decode cL_law 775 = .ok (.iconst 1, 1) := by decide +kernel
theorem dL_law_776 : decode cL_law 776 = .ok (.iadd, 1) := by decide +kernel
theorem dL_law_777 : decode cL_law 777 = .ok (.iaload, 1) := by decide +kernel
theorem dL_law_778 : decode cL_law 778 = .ok (.aload_n 0, 1) := by decide +kernel
theorem dL_law_779 : decode cL_law 779 = .ok (.iload 4, 2) := by decide +kernel
theorem dL_law_781 : decode cL_law 781 = .ok (.iconst 2, 1) := by decide +kernel
theorem dL_law_782 : decode cL_law 782 = .ok (.iadd, 1) := by decide +kernel
theorem dL_law_783 : decode cL_law 783 = .ok (.iaload, 1) := by decide +kernel
theorem dL_law_784 : decode cL_law 784 = .ok (.aload_n 0, 1) := by decide +kernel
theorem dL_law_785 : decode cL_law 785 = .ok (.iload 4, 2) := by decide +kernel
theorem dL_law_787 : decode cL_law 787 = .ok (.iconst 3, 1) := by decide +kernel
theorem dL_law_788 : decode cL_law 788 = .ok (.iadd, 1) := by decide +kernel
theorem dL_law_789 : decode cL_law 789 = .ok (.iaload, 1) := by decide +kernel
theorem dL_law_790 : decode cL_law 790 = .ok (.aload_n 0, 1) := by decide +kernel
theorem dL_law_791 : decode cL_law 791 = .ok (.iload 4, 2) := by decide +kernel
theorem dL_law_793 : decode cL_law 793 = .ok (.iconst 4, 1) := by decide +kernel
theorem dL_law_794 : decode cL_law 794 = .ok (.iadd, 1) := by decide +kernel
theorem dL_law_795 : decode cL_law 795 = .ok (.iaload, 1) := by decide +kernel
theorem dL_law_796 : decode cL_law 796 = .ok (.aload_n 0, 1) := by decide +kernel
theorem dL_law_797 : decode cL_law 797 = .ok (.iload 4, 2) := by decide +kernel
theorem dL_law_799 : decode cL_law 799 = .ok (.iconst 5, 1) := by decide +kernel
theorem dL_law_800 : decode cL_law 800 = .ok (.iadd, 1) := by decide +kernel
theorem dL_law_801 : decode cL_law 801 = .ok (.iaload, 1) := by decide +kernel
theorem dL_law_805 : decode cL_law 805 = .ok (.pop2, 1) := by decide +kernel
theorem dL_law_806 : decode cL_law 806 = .ok (.aload_n 2, 1) := by decide +kernel
theorem dL_law_807 : decode cL_law 807 = .ok (.aload_n 0, 1) := by decide +kernel
theorem dL_law_808 : decode cL_law 808 = .ok (.iload 4, 2) := by decide +kernel
theorem dL_law_810 : decode cL_law 810 = .ok (.iconst 1, 1) := by decide +kernel
theorem dL_law_811 : decode cL_law 811 = .ok (.iadd, 1) := by decide +kernel
theorem dL_law_812 : decode cL_law 812 = .ok (.iaload, 1) := by decide +kernel
theorem dL_law_813 : decode cL_law 813 = .ok (.aload_n 0, 1) := by decide +kernel
theorem dL_law_814 : decode cL_law 814 = .ok (.iload 4, 2) := by decide +kernel
theorem dL_law_816 : decode cL_law 816 = .ok (.iconst 2, 1) := by decide +kernel
theorem dL_law_817 : decode cL_law 817 = .ok (.iadd, 1) := by decide +kernel
theorem dL_law_818 : decode cL_law 818 = .ok (.iaload, 1) := by decide +kernel
theorem dL_law_819 : decode cL_law 819 = .ok (.aload_n 0, 1) := by decide +kernel
theorem dL_law_820 : decode cL_law 820 = .ok (.iload 4, 2) := by decide +kernel
theorem dL_law_822 : decode cL_law 822 = .ok (.iconst 3, 1) := by decide +kernel
theorem dL_law_823 : decode cL_law 823 = .ok (.iadd, 1) := by decide +kernel
theorem dL_law_824 : decode cL_law 824 = .ok (.iaload, 1) := by decide +kernel
theorem dL_law_825 : decode cL_law 825 = .ok (.aload_n 0, 1) := by decide +kernel
theorem dL_law_826 : decode cL_law 826 = .ok (.iload 4, 2) := by decide +kernel
theorem dL_law_828 : decode cL_law 828 = .ok (.iconst 4, 1) := by decide +kernel
theorem dL_law_829 : decode cL_law 829 = .ok (.iadd, 1) := by decide +kernel
theorem dL_law_830 : decode cL_law 830 = .ok (.iaload, 1) := by decide +kernel
theorem dL_law_831 : decode cL_law 831 = .ok (.aload_n 0, 1) := by decide +kernel
theorem dL_law_832 : decode cL_law 832 = .ok (.iload 4, 2) := by decide +kernel
theorem dL_law_834 : decode cL_law 834 = .ok (.iconst 5, 1) := by decide +kernel
theorem dL_law_835 : decode cL_law 835 = .ok (.iadd, 1) := by decide +kernel
theorem dL_law_836 : decode cL_law 836 = .ok (.iaload, 1) := by decide +kernel
theorem dL_law_840 : decode cL_law 840 = .ok (.pop2, 1) := by decide +kernel
theorem dL_law_841 : decode cL_law 841 = .ok (.goto 612, 3) := by decide +kernel
theorem dL_law_844 : decode cL_law 844 = .ok (.aload_n 1, 1) := by decide +kernel
theorem dL_law_845 : decode cL_law 845 = .ok (.aload_n 0, 1) := by decide +kernel
theorem dL_law_846 : decode cL_law 846 = .ok (.iload 4, 2) := by decide +kernel
theorem dL_law_848 : decode cL_law 848 = .ok (.iconst 1, 1) := by decide +kernel
theorem dL_law_849 : decode cL_law 849 = .ok (.iadd, 1) := by decide +kernel
theorem dL_law_850 : decode cL_law 850 = .ok (.iaload, 1) := by decide +kernel
theorem dL_law_851 : decode cL_law 851 = .ok (.aload_n 0, 1) := by decide +kernel
theorem dL_law_852 : decode cL_law 852 = .ok (.iload 4, 2) := by decide +kernel
theorem dL_law_854 : decode cL_law 854 = .ok (.iconst 2, 1) := by decide +kernel
theorem dL_law_855 : decode cL_law 855 = .ok (.iadd, 1) := by decide +kernel
theorem dL_law_856 : decode cL_law 856 = .ok (.iaload, 1) := by decide +kernel
theorem dL_law_857 : decode cL_law 857 = .ok (.aload_n 0, 1) := by decide +kernel
theorem dL_law_858 : decode cL_law 858 = .ok (.iload 4, 2) := by decide +kernel
theorem dL_law_860 : decode cL_law 860 = .ok (.iconst 3, 1) := by decide +kernel
theorem dL_law_861 : decode cL_law 861 = .ok (.iadd, 1) := by decide +kernel
theorem dL_law_862 : decode cL_law 862 = .ok (.iaload, 1) := by decide +kernel
theorem dL_law_866 : decode cL_law 866 = .ok (.pop, 1) := by decide +kernel
theorem dL_law_867 : decode cL_law 867 = .ok (.aload_n 2, 1) := by decide +kernel
theorem dL_law_868 : decode cL_law 868 = .ok (.aload_n 0, 1) := by decide +kernel
theorem dL_law_869 : decode cL_law 869 = .ok (.iload 4, 2) := by decide +kernel
theorem dL_law_871 : decode cL_law 871 = .ok (.iconst 1, 1) := by decide +kernel
theorem dL_law_872 : decode cL_law 872 = .ok (.iadd, 1) := by decide +kernel
theorem dL_law_873 : decode cL_law 873 = .ok (.iaload, 1) := by decide +kernel
theorem dL_law_874 : decode cL_law 874 = .ok (.aload_n 0, 1) := by decide +kernel
theorem dL_law_875 : decode cL_law 875 = .ok (.iload 4, 2) := by decide +kernel
theorem dL_law_877 : decode cL_law 877 = .ok (.iconst 2, 1) := by decide +kernel
theorem dL_law_878 : decode cL_law 878 = .ok (.iadd, 1) := by decide +kernel
theorem dL_law_879 : decode cL_law 879 = .ok (.iaload, 1) := by decide +kernel
theorem dL_law_880 : decode cL_law 880 = .ok (.aload_n 0, 1) := by decide +kernel
theorem dL_law_881 : decode cL_law 881 = .ok (.iload 4, 2) := by decide +kernel
theorem dL_law_883 : decode cL_law 883 = .ok (.iconst 3, 1) := by decide +kernel
theorem dL_law_884 : decode cL_law 884 = .ok (.iadd, 1) := by decide +kernel
theorem dL_law_885 : decode cL_law 885 = .ok (.iaload, 1) := by decide +kernel
theorem dL_law_889 : decode cL_law 889 = .ok (.pop, 1) := by decide +kernel
theorem dL_law_890 : decode cL_law 890 = .ok (.goto 563, 3) := by decide +kernel
set_option maxHeartbeats 4000000 in
set_option maxRecDepth 100000 in
theorem law_op_8 {p : Program} {l : Launch} {e : Env} {s : State} {m : MethodId} {below : List Frame} {meth : Method} {c : Code} {dC : Nat → ClassId} {dI : Nat → Nat → Nat} {b : Nat} {L : Nat} {xs : Nat → Int32} {A AX AM AO : Nat → Prop} {Q : State → Prop} (hx : p.tables.exec = Jvm.exec) (hb : c.code = cL_law) (hml : c.maxLocals = 7) (hown : s.vm.findClass RL = some m.cls) (hT : ∀ w ∈ pw_T, w.before #[Value.ref b] s = true) (hA : ∀ q, s.heap.size ≤ q → A q) (hAX : ∀ q, AX q → A q) (hAM : ∀ q, AM q → A q) (hAO : ∀ q, AO q → A q) (hd1 : ∀ q, AX q → ¬ AM q) (hd2 : ∀ q, AX q → ¬ AO q) (hd3 : ∀ q, AM q → ¬ AO q) (hXs : va_X b L xs s s.heap) (hbl : b < s.heap.size) (hbA : ¬ A b) (hL : L ≤ 3584) {kc ks : Nat} (hkc : kc + 4 ≤ 601024) (hks : ks + 24 ≤ 7293034) {vi : Int32} {xx mm oo : Nat} {rr_bytes : Int32} {rr_fault : Int32} {rr_place : Int32} {f_rr_tape : Nat → Int32} {dX : DD} {cn_hour : Int32} {ci_hour : Int32} {xx_imageKept : Int32} {rd_count : Int32} {rd_knownFirst : Int32} {mm_taped : Int32} {mm_lastFault : Int32} {mm_lastPlace : Int32} {f_mm_tape : Nat → Int32} {dM : DD} {mm_next : Int32} {mm_imageNext : Int32} {mm_hasImage : Int32} {mm_readings : Int32} {mm_knownBy : Int32} (hv0 : 0 ≤ vi.toInt) (hv1 : vi.toInt + 7 ≤ (L : Int)) (hbt : rr_bytes.toInt = mm_taped.toInt) (hta : BTt f_rr_tape f_mm_tape rr_bytes.toInt) (hfa : rr_fault = mm_lastFault) (hpl : rr_place = mm_lastPlace) (hdd : dX = dM) (hho : cn_hour.toInt = mm_next.toInt) (hih : ci_hour.toInt = mm_imageNext.toInt) (him : xx_imageKept.toInt = mm_hasImage.toInt) (hrc : rd_count.toInt = mm_readings.toInt) (hrk : rd_knownFirst.toInt = mm_knownBy.toInt) {H : Heap} {locs : List Loc} {ls : Array Slot} (hX : XW dC dI AX s H xx rr_bytes rr_fault rr_place f_rr_tape dX cn_hour ci_hour xx_imageKept rd_count rd_knownFirst) (hM : MW dC dI AM s H mm mm_taped mm_lastFault mm_lastPlace f_mm_tape dM mm_next mm_imageNext mm_hasImage mm_readings mm_knownBy) (hO : OW dC dI AO s H oo) (hS : va_S A s.heap H locs) (hl : lv_has ls 7 [(4, .int vi), (3, .ref oo), (2, .ref mm), (1, .ref xx), (0, .ref b)]) (kk : ∀ (H1 : Heap) (locs1 : List Loc) (ls1 : Array Slot) (n_rr_bytes : Int32) (n_rr_fault : Int32) (n_rr_place : Int32) (n_f_rr_tape : Nat → Int32) (n_dX : DD) (n_cn_hour : Int32) (n_ci_hour : Int32) (n_xx_imageKept : Int32) (n_rd_count : Int32) (n_rd_knownFirst : Int32) (n_mm_taped : Int32) (n_mm_lastFault : Int32) (n_mm_lastPlace : Int32) (n_f_mm_tape : Nat → Int32) (n_dM : DD) (n_mm_next : Int32) (n_mm_imageNext : Int32) (n_mm_hasImage : Int32) (n_mm_readings : Int32) (n_mm_knownBy : Int32), n_rr_bytes.toInt = n_mm_taped.toInt → BTt n_f_rr_tape n_f_mm_tape n_rr_bytes.toInt → n_rr_fault = n_mm_lastFault → n_rr_place = n_mm_lastPlace → n_dX = n_dM → n_cn_hour.toInt = n_mm_next.toInt → n_ci_hour.toInt = n_mm_imageNext.toInt → n_xx_imageKept.toInt = n_mm_hasImage.toInt → n_rd_count.toInt = n_mm_readings.toInt → n_rd_knownFirst.toInt = n_mm_knownBy.toInt → XW dC dI AX s H1 xx n_rr_bytes n_rr_fault n_rr_place n_f_rr_tape n_dX n_cn_hour n_ci_hour n_xx_imageKept n_rd_count n_rd_knownFirst → MW dC dI AM s H1 mm n_mm_taped n_mm_lastFault n_mm_lastPlace n_f_mm_tape n_dM n_mm_next n_mm_imageNext n_mm_hasImage n_mm_readings n_mm_knownBy → OW dC dI AO s H1 oo → va_S A s.heap H1 locs1 → lv_has ls1 7 [(4, .int vi), (3, .ref oo), (2, .ref mm), (1, .ref xx), (0, .ref b)] → W p l e room_1 s m #[Value.ref b] below meth c H1 locs1 (kc + 1) (ks + 6) Q (F0 m 1453 ls1 [])) : W p l e room_1 s m #[Value.ref b] below meth c H locs kc ks Q (F0 m 483 ls []) := by
  refine lv_aload_n hx hb dL_law_483 rfl (lv_at hl 3 rfl) ?_
  refine lv_aload_n hx hb dL_law_484 rfl (lv_at hl 4 rfl) ?_
  refine lv_iload hx hb dL_law_485 (lv_at hl 0 rfl) ?_
  refine lv_iconst (v := 1) hx hb dL_law_487 (by decide) ?_
  refine lv_iadd hx hb dL_law_488 ?_
  refine lv_topi (fun z_1 ez_1 => ?_)
  have kz_1 : z_1.toInt = vi.toInt + 1 := ti_add ez_1 rfl (by decide) (by omega) (by omega)
  clear ez_1
  refine va_sld hx hb hXs hbl hbA hS (vp_in_iff.mpr (by omega)) dL_law_489 ?_
  refine lv_topi (fun z_2 ez_2 => ?_)
  refine xs_8 hx hb hml hown hT hA hAX (by omega) (by omega) hl hX hS (fun r_3 H_3 lo_3 hX hfr hz hS => ?_)
  have hM := hM.keep (fun q hq h => hfr q hq (fun z => hd1 q z h))
  have hO := hO.keep (fun q hq h => hfr q hq (fun z => hd2 q z h))
  clear hfr hz
  refine lv_pop hx hb dL_law_493 rfl ?_
  refine lv_aload_n hx hb dL_law_494 rfl (lv_at hl 2 rfl) ?_
  refine lv_aload_n hx hb dL_law_495 rfl (lv_at hl 4 rfl) ?_
  refine lv_iload hx hb dL_law_496 (lv_at hl 0 rfl) ?_
  refine lv_iconst (v := 1) hx hb dL_law_498 (by decide) ?_
  refine lv_iadd hx hb dL_law_499 ?_
  refine lv_topi (fun z_4 ez_4 => ?_)
  have kz_4 : z_4.toInt = vi.toInt + 1 := ti_add ez_4 rfl (by decide) (by omega) (by omega)
  clear ez_4
  refine va_sld hx hb hXs hbl hbA hS (vp_in_iff.mpr (by omega)) dL_law_500 ?_
  refine lv_topi (fun z_5 ez_5 => ?_)
  have hq_6 : z_2 = z_5 := ez_2.trans ((congrArg (fun q : Int32 => xs q.toNatClampNeg) (Int32.toInt_inj.mp (by omega))).trans ez_5.symm)
  clear ez_5
  subst hq_6
  refine ms_8 hx hb hml hown hT hA hAM (by omega) (by omega) hl hM hS (fun r_7 H_7 lo_7 hM hfr hz hS => ?_)
  have hX := hX.keep (fun q hq h => hfr q hq (fun z => hd1 q h z))
  have hO := hO.keep (fun q hq h => hfr q hq (fun z => hd3 q z h))
  clear hfr hz
  refine lv_pop hx hb dL_law_504 rfl ?_
  refine lv_goto (tgt := 1453) hx hb dL_law_505 (by decide) ?_
  refine W.widen (k := kc + 1) (n := ks + 6) (by omega) (by omega) ?_
  exact kk H_7 lo_7 _ rr_bytes rr_fault rr_place f_rr_tape dX cn_hour ci_hour xx_imageKept rd_count rd_knownFirst mm_taped mm_lastFault mm_lastPlace f_mm_tape dM mm_next mm_imageNext mm_hasImage mm_readings mm_knownBy hbt hta hfa hpl hdd hho hih him hrc hrk hX hM hO hS (lv_sub hl [0, 1, 2, 3, 4] rfl)
set_option maxHeartbeats 4000000 in
set_option maxRecDepth 100000 in
theorem law_op_9 {p : Program} {l : Launch} {e : Env} {s : State} {m : MethodId} {below : List Frame} {meth : Method} {c : Code} {dC : Nat → ClassId} {dI : Nat → Nat → Nat} {b : Nat} {L : Nat} {xs : Nat → Int32} {A AX AM AO : Nat → Prop} {Q : State → Prop} (hx : p.tables.exec = Jvm.exec) (hb : c.code = cL_law) (hml : c.maxLocals = 7) (hown : s.vm.findClass RL = some m.cls) (hT : ∀ w ∈ pw_T, w.before #[Value.ref b] s = true) (hA : ∀ q, s.heap.size ≤ q → A q) (hAX : ∀ q, AX q → A q) (hAM : ∀ q, AM q → A q) (hAO : ∀ q, AO q → A q) (hd1 : ∀ q, AX q → ¬ AM q) (hd2 : ∀ q, AX q → ¬ AO q) (hd3 : ∀ q, AM q → ¬ AO q) (hXs : va_X b L xs s s.heap) (hbl : b < s.heap.size) (hbA : ¬ A b) (hL : L ≤ 3584) {kc ks : Nat} (hkc : kc + 4 ≤ 601024) (hks : ks + 24 ≤ 7293034) {vi : Int32} {xx mm oo : Nat} {rr_bytes : Int32} {rr_fault : Int32} {rr_place : Int32} {f_rr_tape : Nat → Int32} {dX : DD} {cn_hour : Int32} {ci_hour : Int32} {xx_imageKept : Int32} {rd_count : Int32} {rd_knownFirst : Int32} {mm_taped : Int32} {mm_lastFault : Int32} {mm_lastPlace : Int32} {f_mm_tape : Nat → Int32} {dM : DD} {mm_next : Int32} {mm_imageNext : Int32} {mm_hasImage : Int32} {mm_readings : Int32} {mm_knownBy : Int32} (hv0 : 0 ≤ vi.toInt) (hv1 : vi.toInt + 7 ≤ (L : Int)) (hbt : rr_bytes.toInt = mm_taped.toInt) (hta : BTt f_rr_tape f_mm_tape rr_bytes.toInt) (hfa : rr_fault = mm_lastFault) (hpl : rr_place = mm_lastPlace) (hdd : dX = dM) (hho : cn_hour.toInt = mm_next.toInt) (hih : ci_hour.toInt = mm_imageNext.toInt) (him : xx_imageKept.toInt = mm_hasImage.toInt) (hrc : rd_count.toInt = mm_readings.toInt) (hrk : rd_knownFirst.toInt = mm_knownBy.toInt) {H : Heap} {locs : List Loc} {ls : Array Slot} (hX : XW dC dI AX s H xx rr_bytes rr_fault rr_place f_rr_tape dX cn_hour ci_hour xx_imageKept rd_count rd_knownFirst) (hM : MW dC dI AM s H mm mm_taped mm_lastFault mm_lastPlace f_mm_tape dM mm_next mm_imageNext mm_hasImage mm_readings mm_knownBy) (hO : OW dC dI AO s H oo) (hS : va_S A s.heap H locs) (hl : lv_has ls 7 [(4, .int vi), (3, .ref oo), (2, .ref mm), (1, .ref xx), (0, .ref b)]) (kk : ∀ (H1 : Heap) (locs1 : List Loc) (ls1 : Array Slot) (n_rr_bytes : Int32) (n_rr_fault : Int32) (n_rr_place : Int32) (n_f_rr_tape : Nat → Int32) (n_dX : DD) (n_cn_hour : Int32) (n_ci_hour : Int32) (n_xx_imageKept : Int32) (n_rd_count : Int32) (n_rd_knownFirst : Int32) (n_mm_taped : Int32) (n_mm_lastFault : Int32) (n_mm_lastPlace : Int32) (n_f_mm_tape : Nat → Int32) (n_dM : DD) (n_mm_next : Int32) (n_mm_imageNext : Int32) (n_mm_hasImage : Int32) (n_mm_readings : Int32) (n_mm_knownBy : Int32), n_rr_bytes.toInt = n_mm_taped.toInt → BTt n_f_rr_tape n_f_mm_tape n_rr_bytes.toInt → n_rr_fault = n_mm_lastFault → n_rr_place = n_mm_lastPlace → n_dX = n_dM → n_cn_hour.toInt = n_mm_next.toInt → n_ci_hour.toInt = n_mm_imageNext.toInt → n_xx_imageKept.toInt = n_mm_hasImage.toInt → n_rd_count.toInt = n_mm_readings.toInt → n_rd_knownFirst.toInt = n_mm_knownBy.toInt → XW dC dI AX s H1 xx n_rr_bytes n_rr_fault n_rr_place n_f_rr_tape n_dX n_cn_hour n_ci_hour n_xx_imageKept n_rd_count n_rd_knownFirst → MW dC dI AM s H1 mm n_mm_taped n_mm_lastFault n_mm_lastPlace n_f_mm_tape n_dM n_mm_next n_mm_imageNext n_mm_hasImage n_mm_readings n_mm_knownBy → OW dC dI AO s H1 oo → va_S A s.heap H1 locs1 → lv_has ls1 7 [(4, .int vi), (3, .ref oo), (2, .ref mm), (1, .ref xx), (0, .ref b)] → W p l e room_1 s m #[Value.ref b] below meth c H1 locs1 (kc + 1) (ks + 6) Q (F0 m 1453 ls1 [])) : W p l e room_1 s m #[Value.ref b] below meth c H locs kc ks Q (F0 m 508 ls []) := by
  refine lv_aload_n hx hb dL_law_508 rfl (lv_at hl 3 rfl) ?_
  refine lv_aload_n hx hb dL_law_509 rfl (lv_at hl 4 rfl) ?_
  refine lv_iload hx hb dL_law_510 (lv_at hl 0 rfl) ?_
  refine lv_iconst (v := 1) hx hb dL_law_512 (by decide) ?_
  refine lv_iadd hx hb dL_law_513 ?_
  refine lv_topi (fun z_1 ez_1 => ?_)
  have kz_1 : z_1.toInt = vi.toInt + 1 := ti_add ez_1 rfl (by decide) (by omega) (by omega)
  clear ez_1
  refine va_sld hx hb hXs hbl hbA hS (vp_in_iff.mpr (by omega)) dL_law_514 ?_
  refine lv_topi (fun z_2 ez_2 => ?_)
  refine lv_aload_n hx hb dL_law_515 rfl (lv_at hl 4 rfl) ?_
  refine lv_iload hx hb dL_law_516 (lv_at hl 0 rfl) ?_
  refine lv_iconst (v := 2) hx hb dL_law_518 (by decide) ?_
  refine lv_iadd hx hb dL_law_519 ?_
  refine lv_topi (fun z_3 ez_3 => ?_)
  have kz_3 : z_3.toInt = vi.toInt + 2 := ti_add ez_3 rfl (by decide) (by omega) (by omega)
  clear ez_3
  refine va_sld hx hb hXs hbl hbA hS (vp_in_iff.mpr (by omega)) dL_law_520 ?_
  refine lv_topi (fun z_4 ez_4 => ?_)
  refine xs_9 hx hb hml hown hT hA hAX (by omega) (by omega) hl hX hS (fun r_5 H_5 lo_5 hX hfr hz hS => ?_)
  have hM := hM.keep (fun q hq h => hfr q hq (fun z => hd1 q z h))
  have hO := hO.keep (fun q hq h => hfr q hq (fun z => hd2 q z h))
  clear hfr hz
  refine lv_pop hx hb dL_law_524 rfl ?_
  refine lv_aload_n hx hb dL_law_525 rfl (lv_at hl 2 rfl) ?_
  refine lv_aload_n hx hb dL_law_526 rfl (lv_at hl 4 rfl) ?_
  refine lv_iload hx hb dL_law_527 (lv_at hl 0 rfl) ?_
  refine lv_iconst (v := 1) hx hb dL_law_529 (by decide) ?_
  refine lv_iadd hx hb dL_law_530 ?_
  refine lv_topi (fun z_6 ez_6 => ?_)
  have kz_6 : z_6.toInt = vi.toInt + 1 := ti_add ez_6 rfl (by decide) (by omega) (by omega)
  clear ez_6
  refine va_sld hx hb hXs hbl hbA hS (vp_in_iff.mpr (by omega)) dL_law_531 ?_
  refine lv_topi (fun z_7 ez_7 => ?_)
  have hq_8 : z_2 = z_7 := ez_2.trans ((congrArg (fun q : Int32 => xs q.toNatClampNeg) (Int32.toInt_inj.mp (by omega))).trans ez_7.symm)
  clear ez_7
  subst hq_8
  refine lv_aload_n hx hb dL_law_532 rfl (lv_at hl 4 rfl) ?_
  refine lv_iload hx hb dL_law_533 (lv_at hl 0 rfl) ?_
  refine lv_iconst (v := 2) hx hb dL_law_535 (by decide) ?_
  refine lv_iadd hx hb dL_law_536 ?_
  refine lv_topi (fun z_9 ez_9 => ?_)
  have kz_9 : z_9.toInt = vi.toInt + 2 := ti_add ez_9 rfl (by decide) (by omega) (by omega)
  clear ez_9
  refine va_sld hx hb hXs hbl hbA hS (vp_in_iff.mpr (by omega)) dL_law_537 ?_
  refine lv_topi (fun z_10 ez_10 => ?_)
  have hq_11 : z_4 = z_10 := ez_4.trans ((congrArg (fun q : Int32 => xs q.toNatClampNeg) (Int32.toInt_inj.mp (by omega))).trans ez_10.symm)
  clear ez_10
  subst hq_11
  refine ms_9 hx hb hml hown hT hA hAM (by omega) (by omega) hl hM hS (fun r_12 H_12 lo_12 hM hfr hz hS => ?_)
  have hX := hX.keep (fun q hq h => hfr q hq (fun z => hd1 q h z))
  have hO := hO.keep (fun q hq h => hfr q hq (fun z => hd3 q z h))
  clear hfr hz
  refine lv_pop hx hb dL_law_541 rfl ?_
  refine lv_goto (tgt := 1453) hx hb dL_law_542 (by decide) ?_
  refine W.widen (k := kc + 1) (n := ks + 6) (by omega) (by omega) ?_
  exact kk H_12 lo_12 _ rr_bytes rr_fault rr_place f_rr_tape dX cn_hour ci_hour xx_imageKept rd_count rd_knownFirst mm_taped mm_lastFault mm_lastPlace f_mm_tape dM mm_next mm_imageNext mm_hasImage mm_readings mm_knownBy hbt hta hfa hpl hdd hho hih him hrc hrk hX hM hO hS (lv_sub hl [0, 1, 2, 3, 4] rfl)
set_option maxHeartbeats 4000000 in
set_option maxRecDepth 100000 in
theorem law_op_10 {p : Program} {l : Launch} {e : Env} {s : State} {m : MethodId} {below : List Frame} {meth : Method} {c : Code} {dC : Nat → ClassId} {dI : Nat → Nat → Nat} {b : Nat} {L : Nat} {xs : Nat → Int32} {A AX AM AO : Nat → Prop} {Q : State → Prop} (hx : p.tables.exec = Jvm.exec) (hb : c.code = cL_law) (hml : c.maxLocals = 7) (hown : s.vm.findClass RL = some m.cls) (hT : ∀ w ∈ pw_T, w.before #[Value.ref b] s = true) (hA : ∀ q, s.heap.size ≤ q → A q) (hAX : ∀ q, AX q → A q) (hAM : ∀ q, AM q → A q) (hAO : ∀ q, AO q → A q) (hd1 : ∀ q, AX q → ¬ AM q) (hd2 : ∀ q, AX q → ¬ AO q) (hd3 : ∀ q, AM q → ¬ AO q) (hXs : va_X b L xs s s.heap) (hbl : b < s.heap.size) (hbA : ¬ A b) (hL : L ≤ 3584) {kc ks : Nat} (hkc : kc + 4 ≤ 601024) (hks : ks + 24 ≤ 7293034) {vi : Int32} {xx mm oo : Nat} {rr_bytes : Int32} {rr_fault : Int32} {rr_place : Int32} {f_rr_tape : Nat → Int32} {dX : DD} {cn_hour : Int32} {ci_hour : Int32} {xx_imageKept : Int32} {rd_count : Int32} {rd_knownFirst : Int32} {mm_taped : Int32} {mm_lastFault : Int32} {mm_lastPlace : Int32} {f_mm_tape : Nat → Int32} {dM : DD} {mm_next : Int32} {mm_imageNext : Int32} {mm_hasImage : Int32} {mm_readings : Int32} {mm_knownBy : Int32} (hv0 : 0 ≤ vi.toInt) (hv1 : vi.toInt + 7 ≤ (L : Int)) (hbt : rr_bytes.toInt = mm_taped.toInt) (hta : BTt f_rr_tape f_mm_tape rr_bytes.toInt) (hfa : rr_fault = mm_lastFault) (hpl : rr_place = mm_lastPlace) (hdd : dX = dM) (hho : cn_hour.toInt = mm_next.toInt) (hih : ci_hour.toInt = mm_imageNext.toInt) (him : xx_imageKept.toInt = mm_hasImage.toInt) (hrc : rd_count.toInt = mm_readings.toInt) (hrk : rd_knownFirst.toInt = mm_knownBy.toInt) {H : Heap} {locs : List Loc} {ls : Array Slot} (hX : XW dC dI AX s H xx rr_bytes rr_fault rr_place f_rr_tape dX cn_hour ci_hour xx_imageKept rd_count rd_knownFirst) (hM : MW dC dI AM s H mm mm_taped mm_lastFault mm_lastPlace f_mm_tape dM mm_next mm_imageNext mm_hasImage mm_readings mm_knownBy) (hO : OW dC dI AO s H oo) (hS : va_S A s.heap H locs) (hl : lv_has ls 7 [(4, .int vi), (3, .ref oo), (2, .ref mm), (1, .ref xx), (0, .ref b)]) (kk : ∀ (H1 : Heap) (locs1 : List Loc) (ls1 : Array Slot) (n_rr_bytes : Int32) (n_rr_fault : Int32) (n_rr_place : Int32) (n_f_rr_tape : Nat → Int32) (n_dX : DD) (n_cn_hour : Int32) (n_ci_hour : Int32) (n_xx_imageKept : Int32) (n_rd_count : Int32) (n_rd_knownFirst : Int32) (n_mm_taped : Int32) (n_mm_lastFault : Int32) (n_mm_lastPlace : Int32) (n_f_mm_tape : Nat → Int32) (n_dM : DD) (n_mm_next : Int32) (n_mm_imageNext : Int32) (n_mm_hasImage : Int32) (n_mm_readings : Int32) (n_mm_knownBy : Int32), n_rr_bytes.toInt = n_mm_taped.toInt → BTt n_f_rr_tape n_f_mm_tape n_rr_bytes.toInt → n_rr_fault = n_mm_lastFault → n_rr_place = n_mm_lastPlace → n_dX = n_dM → n_cn_hour.toInt = n_mm_next.toInt → n_ci_hour.toInt = n_mm_imageNext.toInt → n_xx_imageKept.toInt = n_mm_hasImage.toInt → n_rd_count.toInt = n_mm_readings.toInt → n_rd_knownFirst.toInt = n_mm_knownBy.toInt → XW dC dI AX s H1 xx n_rr_bytes n_rr_fault n_rr_place n_f_rr_tape n_dX n_cn_hour n_ci_hour n_xx_imageKept n_rd_count n_rd_knownFirst → MW dC dI AM s H1 mm n_mm_taped n_mm_lastFault n_mm_lastPlace n_f_mm_tape n_dM n_mm_next n_mm_imageNext n_mm_hasImage n_mm_readings n_mm_knownBy → OW dC dI AO s H1 oo → va_S A s.heap H1 locs1 → lv_has ls1 7 [(4, .int vi), (3, .ref oo), (2, .ref mm), (1, .ref xx), (0, .ref b)] → W p l e room_1 s m #[Value.ref b] below meth c H1 locs1 (kc + 1) (ks + 6) Q (F0 m 1453 ls1 [])) : W p l e room_1 s m #[Value.ref b] below meth c H locs kc ks Q (F0 m 545 ls []) := by
  refine lv_aload_n hx hb dL_law_545 rfl (lv_at hl 3 rfl) ?_
  refine lv_aload_n hx hb dL_law_546 rfl (lv_at hl 4 rfl) ?_
  refine lv_iload hx hb dL_law_547 (lv_at hl 0 rfl) ?_
  refine lv_iconst (v := 1) hx hb dL_law_549 (by decide) ?_
  refine lv_iadd hx hb dL_law_550 ?_
  refine lv_topi (fun z_1 ez_1 => ?_)
  have kz_1 : z_1.toInt = vi.toInt + 1 := ti_add ez_1 rfl (by decide) (by omega) (by omega)
  clear ez_1
  refine va_sld hx hb hXs hbl hbA hS (vp_in_iff.mpr (by omega)) dL_law_551 ?_
  refine lv_topi (fun z_2 ez_2 => ?_)
  refine lv_aload_n hx hb dL_law_552 rfl (lv_at hl 4 rfl) ?_
  refine lv_iload hx hb dL_law_553 (lv_at hl 0 rfl) ?_
  refine lv_iconst (v := 2) hx hb dL_law_555 (by decide) ?_
  refine lv_iadd hx hb dL_law_556 ?_
  refine lv_topi (fun z_3 ez_3 => ?_)
  have kz_3 : z_3.toInt = vi.toInt + 2 := ti_add ez_3 rfl (by decide) (by omega) (by omega)
  clear ez_3
  refine va_sld hx hb hXs hbl hbA hS (vp_in_iff.mpr (by omega)) dL_law_557 ?_
  refine lv_topi (fun z_4 ez_4 => ?_)
  refine xs_10 hx hb hml hown hT hA hAX (by omega) (by omega) hl hX hS (fun r_5 H_5 lo_5 hX hfr hz hS => ?_)
  have hM := hM.keep (fun q hq h => hfr q hq (fun z => hd1 q z h))
  have hO := hO.keep (fun q hq h => hfr q hq (fun z => hd2 q z h))
  clear hfr hz
  refine lv_pop hx hb dL_law_561 rfl ?_
  refine lv_aload_n hx hb dL_law_562 rfl (lv_at hl 2 rfl) ?_
  refine lv_aload_n hx hb dL_law_563 rfl (lv_at hl 4 rfl) ?_
  refine lv_iload hx hb dL_law_564 (lv_at hl 0 rfl) ?_
  refine lv_iconst (v := 1) hx hb dL_law_566 (by decide) ?_
  refine lv_iadd hx hb dL_law_567 ?_
  refine lv_topi (fun z_6 ez_6 => ?_)
  have kz_6 : z_6.toInt = vi.toInt + 1 := ti_add ez_6 rfl (by decide) (by omega) (by omega)
  clear ez_6
  refine va_sld hx hb hXs hbl hbA hS (vp_in_iff.mpr (by omega)) dL_law_568 ?_
  refine lv_topi (fun z_7 ez_7 => ?_)
  have hq_8 : z_2 = z_7 := ez_2.trans ((congrArg (fun q : Int32 => xs q.toNatClampNeg) (Int32.toInt_inj.mp (by omega))).trans ez_7.symm)
  clear ez_7
  subst hq_8
  refine lv_aload_n hx hb dL_law_569 rfl (lv_at hl 4 rfl) ?_
  refine lv_iload hx hb dL_law_570 (lv_at hl 0 rfl) ?_
  refine lv_iconst (v := 2) hx hb dL_law_572 (by decide) ?_
  refine lv_iadd hx hb dL_law_573 ?_
  refine lv_topi (fun z_9 ez_9 => ?_)
  have kz_9 : z_9.toInt = vi.toInt + 2 := ti_add ez_9 rfl (by decide) (by omega) (by omega)
  clear ez_9
  refine va_sld hx hb hXs hbl hbA hS (vp_in_iff.mpr (by omega)) dL_law_574 ?_
  refine lv_topi (fun z_10 ez_10 => ?_)
  have hq_11 : z_4 = z_10 := ez_4.trans ((congrArg (fun q : Int32 => xs q.toNatClampNeg) (Int32.toInt_inj.mp (by omega))).trans ez_10.symm)
  clear ez_10
  subst hq_11
  refine ms_10 hx hb hml hown hT hA hAM (by omega) (by omega) hl hM hS (fun r_12 H_12 lo_12 hM hfr hz hS => ?_)
  have hX := hX.keep (fun q hq h => hfr q hq (fun z => hd1 q h z))
  have hO := hO.keep (fun q hq h => hfr q hq (fun z => hd3 q z h))
  clear hfr hz
  refine lv_pop hx hb dL_law_578 rfl ?_
  refine lv_goto (tgt := 1453) hx hb dL_law_579 (by decide) ?_
  refine W.widen (k := kc + 1) (n := ks + 6) (by omega) (by omega) ?_
  exact kk H_12 lo_12 _ rr_bytes rr_fault rr_place f_rr_tape dX cn_hour ci_hour xx_imageKept rd_count rd_knownFirst mm_taped mm_lastFault mm_lastPlace f_mm_tape dM mm_next mm_imageNext mm_hasImage mm_readings mm_knownBy hbt hta hfa hpl hdd hho hih him hrc hrk hX hM hO hS (lv_sub hl [0, 1, 2, 3, 4] rfl)
set_option maxHeartbeats 4000000 in
set_option maxRecDepth 100000 in
theorem law_op_11 {p : Program} {l : Launch} {e : Env} {s : State} {m : MethodId} {below : List Frame} {meth : Method} {c : Code} {dC : Nat → ClassId} {dI : Nat → Nat → Nat} {b : Nat} {L : Nat} {xs : Nat → Int32} {A AX AM AO : Nat → Prop} {Q : State → Prop} (hx : p.tables.exec = Jvm.exec) (hb : c.code = cL_law) (hml : c.maxLocals = 7) (hown : s.vm.findClass RL = some m.cls) (hT : ∀ w ∈ pw_T, w.before #[Value.ref b] s = true) (hA : ∀ q, s.heap.size ≤ q → A q) (hAX : ∀ q, AX q → A q) (hAM : ∀ q, AM q → A q) (hAO : ∀ q, AO q → A q) (hd1 : ∀ q, AX q → ¬ AM q) (hd2 : ∀ q, AX q → ¬ AO q) (hd3 : ∀ q, AM q → ¬ AO q) (hXs : va_X b L xs s s.heap) (hbl : b < s.heap.size) (hbA : ¬ A b) (hL : L ≤ 3584) {kc ks : Nat} (hkc : kc + 4 ≤ 601024) (hks : ks + 24 ≤ 7293034) {vi : Int32} {xx mm oo : Nat} {rr_bytes : Int32} {rr_fault : Int32} {rr_place : Int32} {f_rr_tape : Nat → Int32} {dX : DD} {cn_hour : Int32} {ci_hour : Int32} {xx_imageKept : Int32} {rd_count : Int32} {rd_knownFirst : Int32} {mm_taped : Int32} {mm_lastFault : Int32} {mm_lastPlace : Int32} {f_mm_tape : Nat → Int32} {dM : DD} {mm_next : Int32} {mm_imageNext : Int32} {mm_hasImage : Int32} {mm_readings : Int32} {mm_knownBy : Int32} (hv0 : 0 ≤ vi.toInt) (hv1 : vi.toInt + 7 ≤ (L : Int)) (hbt : rr_bytes.toInt = mm_taped.toInt) (hta : BTt f_rr_tape f_mm_tape rr_bytes.toInt) (hfa : rr_fault = mm_lastFault) (hpl : rr_place = mm_lastPlace) (hdd : dX = dM) (hho : cn_hour.toInt = mm_next.toInt) (hih : ci_hour.toInt = mm_imageNext.toInt) (him : xx_imageKept.toInt = mm_hasImage.toInt) (hrc : rd_count.toInt = mm_readings.toInt) (hrk : rd_knownFirst.toInt = mm_knownBy.toInt) {H : Heap} {locs : List Loc} {ls : Array Slot} (hX : XW dC dI AX s H xx rr_bytes rr_fault rr_place f_rr_tape dX cn_hour ci_hour xx_imageKept rd_count rd_knownFirst) (hM : MW dC dI AM s H mm mm_taped mm_lastFault mm_lastPlace f_mm_tape dM mm_next mm_imageNext mm_hasImage mm_readings mm_knownBy) (hO : OW dC dI AO s H oo) (hS : va_S A s.heap H locs) (hl : lv_has ls 7 [(4, .int vi), (3, .ref oo), (2, .ref mm), (1, .ref xx), (0, .ref b)]) (kk : ∀ (H1 : Heap) (locs1 : List Loc) (ls1 : Array Slot) (n_rr_bytes : Int32) (n_rr_fault : Int32) (n_rr_place : Int32) (n_f_rr_tape : Nat → Int32) (n_dX : DD) (n_cn_hour : Int32) (n_ci_hour : Int32) (n_xx_imageKept : Int32) (n_rd_count : Int32) (n_rd_knownFirst : Int32) (n_mm_taped : Int32) (n_mm_lastFault : Int32) (n_mm_lastPlace : Int32) (n_f_mm_tape : Nat → Int32) (n_dM : DD) (n_mm_next : Int32) (n_mm_imageNext : Int32) (n_mm_hasImage : Int32) (n_mm_readings : Int32) (n_mm_knownBy : Int32), n_rr_bytes.toInt = n_mm_taped.toInt → BTt n_f_rr_tape n_f_mm_tape n_rr_bytes.toInt → n_rr_fault = n_mm_lastFault → n_rr_place = n_mm_lastPlace → n_dX = n_dM → n_cn_hour.toInt = n_mm_next.toInt → n_ci_hour.toInt = n_mm_imageNext.toInt → n_xx_imageKept.toInt = n_mm_hasImage.toInt → n_rd_count.toInt = n_mm_readings.toInt → n_rd_knownFirst.toInt = n_mm_knownBy.toInt → XW dC dI AX s H1 xx n_rr_bytes n_rr_fault n_rr_place n_f_rr_tape n_dX n_cn_hour n_ci_hour n_xx_imageKept n_rd_count n_rd_knownFirst → MW dC dI AM s H1 mm n_mm_taped n_mm_lastFault n_mm_lastPlace n_f_mm_tape n_dM n_mm_next n_mm_imageNext n_mm_hasImage n_mm_readings n_mm_knownBy → OW dC dI AO s H1 oo → va_S A s.heap H1 locs1 → lv_has ls1 7 [(4, .int vi), (3, .ref oo), (2, .ref mm), (1, .ref xx), (0, .ref b)] → W p l e room_1 s m #[Value.ref b] below meth c H1 locs1 (kc + 1) (ks + 6) Q (F0 m 1453 ls1 [])) : W p l e room_1 s m #[Value.ref b] below meth c H locs kc ks Q (F0 m 582 ls []) := by
  refine lv_aload_n hx hb dL_law_582 rfl (lv_at hl 3 rfl) ?_
  refine lv_aload_n hx hb dL_law_583 rfl (lv_at hl 4 rfl) ?_
  refine lv_iload hx hb dL_law_584 (lv_at hl 0 rfl) ?_
  refine lv_iconst (v := 1) hx hb dL_law_586 (by decide) ?_
  refine lv_iadd hx hb dL_law_587 ?_
  refine lv_topi (fun z_1 ez_1 => ?_)
  have kz_1 : z_1.toInt = vi.toInt + 1 := ti_add ez_1 rfl (by decide) (by omega) (by omega)
  clear ez_1
  refine va_sld hx hb hXs hbl hbA hS (vp_in_iff.mpr (by omega)) dL_law_588 ?_
  refine lv_topi (fun z_2 ez_2 => ?_)
  refine xs_11 hx hb hml hown hT hA hAX (by omega) (by omega) hl hX hS (fun r_3 H_3 lo_3 hX hfr hz hS => ?_)
  have hM := hM.keep (fun q hq h => hfr q hq (fun z => hd1 q z h))
  have hO := hO.keep (fun q hq h => hfr q hq (fun z => hd2 q z h))
  clear hfr hz
  refine lv_pop hx hb dL_law_592 rfl ?_
  refine lv_aload_n hx hb dL_law_593 rfl (lv_at hl 2 rfl) ?_
  refine lv_aload_n hx hb dL_law_594 rfl (lv_at hl 4 rfl) ?_
  refine lv_iload hx hb dL_law_595 (lv_at hl 0 rfl) ?_
  refine lv_iconst (v := 1) hx hb dL_law_597 (by decide) ?_
  refine lv_iadd hx hb dL_law_598 ?_
  refine lv_topi (fun z_4 ez_4 => ?_)
  have kz_4 : z_4.toInt = vi.toInt + 1 := ti_add ez_4 rfl (by decide) (by omega) (by omega)
  clear ez_4
  refine va_sld hx hb hXs hbl hbA hS (vp_in_iff.mpr (by omega)) dL_law_599 ?_
  refine lv_topi (fun z_5 ez_5 => ?_)
  have hq_6 : z_2 = z_5 := ez_2.trans ((congrArg (fun q : Int32 => xs q.toNatClampNeg) (Int32.toInt_inj.mp (by omega))).trans ez_5.symm)
  clear ez_5
  subst hq_6
  refine ms_11 hx hb hml hown hT hA hAM (by omega) (by omega) hl hM hS (fun r_7 H_7 lo_7 hM hfr hz hS => ?_)
  have hX := hX.keep (fun q hq h => hfr q hq (fun z => hd1 q h z))
  have hO := hO.keep (fun q hq h => hfr q hq (fun z => hd3 q z h))
  clear hfr hz
  refine lv_pop hx hb dL_law_603 rfl ?_
  refine lv_goto (tgt := 1453) hx hb dL_law_604 (by decide) ?_
  refine W.widen (k := kc + 1) (n := ks + 6) (by omega) (by omega) ?_
  exact kk H_7 lo_7 _ rr_bytes rr_fault rr_place f_rr_tape dX cn_hour ci_hour xx_imageKept rd_count rd_knownFirst mm_taped mm_lastFault mm_lastPlace f_mm_tape dM mm_next mm_imageNext mm_hasImage mm_readings mm_knownBy hbt hta hfa hpl hdd hho hih him hrc hrk hX hM hO hS (lv_sub hl [0, 1, 2, 3, 4] rfl)
set_option maxHeartbeats 4000000 in
set_option maxRecDepth 100000 in
theorem law_op_12 {p : Program} {l : Launch} {e : Env} {s : State} {m : MethodId} {below : List Frame} {meth : Method} {c : Code} {dC : Nat → ClassId} {dI : Nat → Nat → Nat} {b : Nat} {L : Nat} {xs : Nat → Int32} {A AX AM AO : Nat → Prop} {Q : State → Prop} (hx : p.tables.exec = Jvm.exec) (hb : c.code = cL_law) (hml : c.maxLocals = 7) (hown : s.vm.findClass RL = some m.cls) (hT : ∀ w ∈ pw_T, w.before #[Value.ref b] s = true) (hA : ∀ q, s.heap.size ≤ q → A q) (hAX : ∀ q, AX q → A q) (hAM : ∀ q, AM q → A q) (hAO : ∀ q, AO q → A q) (hd1 : ∀ q, AX q → ¬ AM q) (hd2 : ∀ q, AX q → ¬ AO q) (hd3 : ∀ q, AM q → ¬ AO q) (hXs : va_X b L xs s s.heap) (hbl : b < s.heap.size) (hbA : ¬ A b) (hL : L ≤ 3584) {kc ks : Nat} (hkc : kc + 4 ≤ 601024) (hks : ks + 24 ≤ 7293034) {vi : Int32} {xx mm oo : Nat} {rr_bytes : Int32} {rr_fault : Int32} {rr_place : Int32} {f_rr_tape : Nat → Int32} {dX : DD} {cn_hour : Int32} {ci_hour : Int32} {xx_imageKept : Int32} {rd_count : Int32} {rd_knownFirst : Int32} {mm_taped : Int32} {mm_lastFault : Int32} {mm_lastPlace : Int32} {f_mm_tape : Nat → Int32} {dM : DD} {mm_next : Int32} {mm_imageNext : Int32} {mm_hasImage : Int32} {mm_readings : Int32} {mm_knownBy : Int32} (hv0 : 0 ≤ vi.toInt) (hv1 : vi.toInt + 7 ≤ (L : Int)) (hbt : rr_bytes.toInt = mm_taped.toInt) (hta : BTt f_rr_tape f_mm_tape rr_bytes.toInt) (hfa : rr_fault = mm_lastFault) (hpl : rr_place = mm_lastPlace) (hdd : dX = dM) (hho : cn_hour.toInt = mm_next.toInt) (hih : ci_hour.toInt = mm_imageNext.toInt) (him : xx_imageKept.toInt = mm_hasImage.toInt) (hrc : rd_count.toInt = mm_readings.toInt) (hrk : rd_knownFirst.toInt = mm_knownBy.toInt) {H : Heap} {locs : List Loc} {ls : Array Slot} (hX : XW dC dI AX s H xx rr_bytes rr_fault rr_place f_rr_tape dX cn_hour ci_hour xx_imageKept rd_count rd_knownFirst) (hM : MW dC dI AM s H mm mm_taped mm_lastFault mm_lastPlace f_mm_tape dM mm_next mm_imageNext mm_hasImage mm_readings mm_knownBy) (hO : OW dC dI AO s H oo) (hS : va_S A s.heap H locs) (hl : lv_has ls 7 [(4, .int vi), (3, .ref oo), (2, .ref mm), (1, .ref xx), (0, .ref b)]) (kk : ∀ (H1 : Heap) (locs1 : List Loc) (ls1 : Array Slot) (n_rr_bytes : Int32) (n_rr_fault : Int32) (n_rr_place : Int32) (n_f_rr_tape : Nat → Int32) (n_dX : DD) (n_cn_hour : Int32) (n_ci_hour : Int32) (n_xx_imageKept : Int32) (n_rd_count : Int32) (n_rd_knownFirst : Int32) (n_mm_taped : Int32) (n_mm_lastFault : Int32) (n_mm_lastPlace : Int32) (n_f_mm_tape : Nat → Int32) (n_dM : DD) (n_mm_next : Int32) (n_mm_imageNext : Int32) (n_mm_hasImage : Int32) (n_mm_readings : Int32) (n_mm_knownBy : Int32), n_rr_bytes.toInt = n_mm_taped.toInt → BTt n_f_rr_tape n_f_mm_tape n_rr_bytes.toInt → n_rr_fault = n_mm_lastFault → n_rr_place = n_mm_lastPlace → n_dX = n_dM → n_cn_hour.toInt = n_mm_next.toInt → n_ci_hour.toInt = n_mm_imageNext.toInt → n_xx_imageKept.toInt = n_mm_hasImage.toInt → n_rd_count.toInt = n_mm_readings.toInt → n_rd_knownFirst.toInt = n_mm_knownBy.toInt → XW dC dI AX s H1 xx n_rr_bytes n_rr_fault n_rr_place n_f_rr_tape n_dX n_cn_hour n_ci_hour n_xx_imageKept n_rd_count n_rd_knownFirst → MW dC dI AM s H1 mm n_mm_taped n_mm_lastFault n_mm_lastPlace n_f_mm_tape n_dM n_mm_next n_mm_imageNext n_mm_hasImage n_mm_readings n_mm_knownBy → OW dC dI AO s H1 oo → va_S A s.heap H1 locs1 → lv_has ls1 7 [(4, .int vi), (3, .ref oo), (2, .ref mm), (1, .ref xx), (0, .ref b)] → W p l e room_1 s m #[Value.ref b] below meth c H1 locs1 (kc + 1) (ks + 6) Q (F0 m 1453 ls1 [])) : W p l e room_1 s m #[Value.ref b] below meth c H locs kc ks Q (F0 m 607 ls []) := by
  refine lv_aload_n hx hb dL_law_607 rfl (lv_at hl 3 rfl) ?_
  refine lv_aload_n hx hb dL_law_608 rfl (lv_at hl 4 rfl) ?_
  refine lv_iload hx hb dL_law_609 (lv_at hl 0 rfl) ?_
  refine lv_iconst (v := 1) hx hb dL_law_611 (by decide) ?_
  refine lv_iadd hx hb dL_law_612 ?_
  refine lv_topi (fun z_1 ez_1 => ?_)
  have kz_1 : z_1.toInt = vi.toInt + 1 := ti_add ez_1 rfl (by decide) (by omega) (by omega)
  clear ez_1
  refine va_sld hx hb hXs hbl hbA hS (vp_in_iff.mpr (by omega)) dL_law_613 ?_
  refine lv_topi (fun z_2 ez_2 => ?_)
  refine lv_aload_n hx hb dL_law_614 rfl (lv_at hl 4 rfl) ?_
  refine lv_iload hx hb dL_law_615 (lv_at hl 0 rfl) ?_
  refine lv_iconst (v := 2) hx hb dL_law_617 (by decide) ?_
  refine lv_iadd hx hb dL_law_618 ?_
  refine lv_topi (fun z_3 ez_3 => ?_)
  have kz_3 : z_3.toInt = vi.toInt + 2 := ti_add ez_3 rfl (by decide) (by omega) (by omega)
  clear ez_3
  refine va_sld hx hb hXs hbl hbA hS (vp_in_iff.mpr (by omega)) dL_law_619 ?_
  refine lv_topi (fun z_4 ez_4 => ?_)
  refine xs_12 hx hb hml hown hT hA hAX (by omega) (by omega) hl hX hS (fun r_5 H_5 lo_5 hX hfr hz hS => ?_)
  have hM := hM.keep (fun q hq h => hfr q hq (fun z => hd1 q z h))
  have hO := hO.keep (fun q hq h => hfr q hq (fun z => hd2 q z h))
  clear hfr hz
  refine lv_pop hx hb dL_law_623 rfl ?_
  refine lv_aload_n hx hb dL_law_624 rfl (lv_at hl 2 rfl) ?_
  refine lv_aload_n hx hb dL_law_625 rfl (lv_at hl 4 rfl) ?_
  refine lv_iload hx hb dL_law_626 (lv_at hl 0 rfl) ?_
  refine lv_iconst (v := 1) hx hb dL_law_628 (by decide) ?_
  refine lv_iadd hx hb dL_law_629 ?_
  refine lv_topi (fun z_6 ez_6 => ?_)
  have kz_6 : z_6.toInt = vi.toInt + 1 := ti_add ez_6 rfl (by decide) (by omega) (by omega)
  clear ez_6
  refine va_sld hx hb hXs hbl hbA hS (vp_in_iff.mpr (by omega)) dL_law_630 ?_
  refine lv_topi (fun z_7 ez_7 => ?_)
  have hq_8 : z_2 = z_7 := ez_2.trans ((congrArg (fun q : Int32 => xs q.toNatClampNeg) (Int32.toInt_inj.mp (by omega))).trans ez_7.symm)
  clear ez_7
  subst hq_8
  refine lv_aload_n hx hb dL_law_631 rfl (lv_at hl 4 rfl) ?_
  refine lv_iload hx hb dL_law_632 (lv_at hl 0 rfl) ?_
  refine lv_iconst (v := 2) hx hb dL_law_634 (by decide) ?_
  refine lv_iadd hx hb dL_law_635 ?_
  refine lv_topi (fun z_9 ez_9 => ?_)
  have kz_9 : z_9.toInt = vi.toInt + 2 := ti_add ez_9 rfl (by decide) (by omega) (by omega)
  clear ez_9
  refine va_sld hx hb hXs hbl hbA hS (vp_in_iff.mpr (by omega)) dL_law_636 ?_
  refine lv_topi (fun z_10 ez_10 => ?_)
  have hq_11 : z_4 = z_10 := ez_4.trans ((congrArg (fun q : Int32 => xs q.toNatClampNeg) (Int32.toInt_inj.mp (by omega))).trans ez_10.symm)
  clear ez_10
  subst hq_11
  refine ms_12 hx hb hml hown hT hA hAM (by omega) (by omega) hl hM hS (fun r_12 H_12 lo_12 hM hfr hz hS => ?_)
  have hX := hX.keep (fun q hq h => hfr q hq (fun z => hd1 q h z))
  have hO := hO.keep (fun q hq h => hfr q hq (fun z => hd3 q z h))
  clear hfr hz
  refine lv_pop hx hb dL_law_640 rfl ?_
  refine lv_goto (tgt := 1453) hx hb dL_law_641 (by decide) ?_
  refine W.widen (k := kc + 1) (n := ks + 6) (by omega) (by omega) ?_
  exact kk H_12 lo_12 _ rr_bytes rr_fault rr_place f_rr_tape dX cn_hour ci_hour xx_imageKept rd_count rd_knownFirst mm_taped mm_lastFault mm_lastPlace f_mm_tape dM mm_next mm_imageNext mm_hasImage mm_readings mm_knownBy hbt hta hfa hpl hdd hho hih him hrc hrk hX hM hO hS (lv_sub hl [0, 1, 2, 3, 4] rfl)
set_option maxHeartbeats 4000000 in
set_option maxRecDepth 100000 in
theorem law_op_13 {p : Program} {l : Launch} {e : Env} {s : State} {m : MethodId} {below : List Frame} {meth : Method} {c : Code} {dC : Nat → ClassId} {dI : Nat → Nat → Nat} {b : Nat} {L : Nat} {xs : Nat → Int32} {A AX AM AO : Nat → Prop} {Q : State → Prop} (hx : p.tables.exec = Jvm.exec) (hb : c.code = cL_law) (hml : c.maxLocals = 7) (hown : s.vm.findClass RL = some m.cls) (hT : ∀ w ∈ pw_T, w.before #[Value.ref b] s = true) (hA : ∀ q, s.heap.size ≤ q → A q) (hAX : ∀ q, AX q → A q) (hAM : ∀ q, AM q → A q) (hAO : ∀ q, AO q → A q) (hd1 : ∀ q, AX q → ¬ AM q) (hd2 : ∀ q, AX q → ¬ AO q) (hd3 : ∀ q, AM q → ¬ AO q) (hXs : va_X b L xs s s.heap) (hbl : b < s.heap.size) (hbA : ¬ A b) (hL : L ≤ 3584) {kc ks : Nat} (hkc : kc + 4 ≤ 601024) (hks : ks + 24 ≤ 7293034) {vi : Int32} {xx mm oo : Nat} {rr_bytes : Int32} {rr_fault : Int32} {rr_place : Int32} {f_rr_tape : Nat → Int32} {dX : DD} {cn_hour : Int32} {ci_hour : Int32} {xx_imageKept : Int32} {rd_count : Int32} {rd_knownFirst : Int32} {mm_taped : Int32} {mm_lastFault : Int32} {mm_lastPlace : Int32} {f_mm_tape : Nat → Int32} {dM : DD} {mm_next : Int32} {mm_imageNext : Int32} {mm_hasImage : Int32} {mm_readings : Int32} {mm_knownBy : Int32} (hv0 : 0 ≤ vi.toInt) (hv1 : vi.toInt + 7 ≤ (L : Int)) (hbt : rr_bytes.toInt = mm_taped.toInt) (hta : BTt f_rr_tape f_mm_tape rr_bytes.toInt) (hfa : rr_fault = mm_lastFault) (hpl : rr_place = mm_lastPlace) (hdd : dX = dM) (hho : cn_hour.toInt = mm_next.toInt) (hih : ci_hour.toInt = mm_imageNext.toInt) (him : xx_imageKept.toInt = mm_hasImage.toInt) (hrc : rd_count.toInt = mm_readings.toInt) (hrk : rd_knownFirst.toInt = mm_knownBy.toInt) {H : Heap} {locs : List Loc} {ls : Array Slot} (hX : XW dC dI AX s H xx rr_bytes rr_fault rr_place f_rr_tape dX cn_hour ci_hour xx_imageKept rd_count rd_knownFirst) (hM : MW dC dI AM s H mm mm_taped mm_lastFault mm_lastPlace f_mm_tape dM mm_next mm_imageNext mm_hasImage mm_readings mm_knownBy) (hO : OW dC dI AO s H oo) (hS : va_S A s.heap H locs) (hl : lv_has ls 7 [(4, .int vi), (3, .ref oo), (2, .ref mm), (1, .ref xx), (0, .ref b)]) (kk : ∀ (H1 : Heap) (locs1 : List Loc) (ls1 : Array Slot) (n_rr_bytes : Int32) (n_rr_fault : Int32) (n_rr_place : Int32) (n_f_rr_tape : Nat → Int32) (n_dX : DD) (n_cn_hour : Int32) (n_ci_hour : Int32) (n_xx_imageKept : Int32) (n_rd_count : Int32) (n_rd_knownFirst : Int32) (n_mm_taped : Int32) (n_mm_lastFault : Int32) (n_mm_lastPlace : Int32) (n_f_mm_tape : Nat → Int32) (n_dM : DD) (n_mm_next : Int32) (n_mm_imageNext : Int32) (n_mm_hasImage : Int32) (n_mm_readings : Int32) (n_mm_knownBy : Int32), n_rr_bytes.toInt = n_mm_taped.toInt → BTt n_f_rr_tape n_f_mm_tape n_rr_bytes.toInt → n_rr_fault = n_mm_lastFault → n_rr_place = n_mm_lastPlace → n_dX = n_dM → n_cn_hour.toInt = n_mm_next.toInt → n_ci_hour.toInt = n_mm_imageNext.toInt → n_xx_imageKept.toInt = n_mm_hasImage.toInt → n_rd_count.toInt = n_mm_readings.toInt → n_rd_knownFirst.toInt = n_mm_knownBy.toInt → XW dC dI AX s H1 xx n_rr_bytes n_rr_fault n_rr_place n_f_rr_tape n_dX n_cn_hour n_ci_hour n_xx_imageKept n_rd_count n_rd_knownFirst → MW dC dI AM s H1 mm n_mm_taped n_mm_lastFault n_mm_lastPlace n_f_mm_tape n_dM n_mm_next n_mm_imageNext n_mm_hasImage n_mm_readings n_mm_knownBy → OW dC dI AO s H1 oo → va_S A s.heap H1 locs1 → lv_has ls1 7 [(4, .int vi), (3, .ref oo), (2, .ref mm), (1, .ref xx), (0, .ref b)] → W p l e room_1 s m #[Value.ref b] below meth c H1 locs1 (kc + 1) (ks + 6) Q (F0 m 1453 ls1 [])) : W p l e room_1 s m #[Value.ref b] below meth c H locs kc ks Q (F0 m 644 ls []) := by
  refine lv_aload_n hx hb dL_law_644 rfl (lv_at hl 3 rfl) ?_
  refine lv_aload_n hx hb dL_law_645 rfl (lv_at hl 4 rfl) ?_
  refine lv_iload hx hb dL_law_646 (lv_at hl 0 rfl) ?_
  refine lv_iconst (v := 1) hx hb dL_law_648 (by decide) ?_
  refine lv_iadd hx hb dL_law_649 ?_
  refine lv_topi (fun z_1 ez_1 => ?_)
  have kz_1 : z_1.toInt = vi.toInt + 1 := ti_add ez_1 rfl (by decide) (by omega) (by omega)
  clear ez_1
  refine va_sld hx hb hXs hbl hbA hS (vp_in_iff.mpr (by omega)) dL_law_650 ?_
  refine lv_topi (fun z_2 ez_2 => ?_)
  refine lv_aload_n hx hb dL_law_651 rfl (lv_at hl 4 rfl) ?_
  refine lv_iload hx hb dL_law_652 (lv_at hl 0 rfl) ?_
  refine lv_iconst (v := 2) hx hb dL_law_654 (by decide) ?_
  refine lv_iadd hx hb dL_law_655 ?_
  refine lv_topi (fun z_3 ez_3 => ?_)
  have kz_3 : z_3.toInt = vi.toInt + 2 := ti_add ez_3 rfl (by decide) (by omega) (by omega)
  clear ez_3
  refine va_sld hx hb hXs hbl hbA hS (vp_in_iff.mpr (by omega)) dL_law_656 ?_
  refine lv_topi (fun z_4 ez_4 => ?_)
  refine lv_i2l hx hb dL_law_657 rfl ?_
  refine lv_topl (fun z_5 ez_5 => ?_)
  refine lv_bipush (v := 32) hx hb dL_law_658 (by decide) ?_
  refine lv_lshl hx hb dL_law_660 rfl ?_
  refine lv_topl (fun z_6 ez_6 => ?_)
  clear ez_6
  refine lv_aload_n hx hb dL_law_661 rfl (lv_at hl 4 rfl) ?_
  refine lv_iload hx hb dL_law_662 (lv_at hl 0 rfl) ?_
  refine lv_iconst (v := 3) hx hb dL_law_664 (by decide) ?_
  refine lv_iadd hx hb dL_law_665 ?_
  refine lv_topi (fun z_7 ez_7 => ?_)
  have kz_7 : z_7.toInt = vi.toInt + 3 := ti_add ez_7 rfl (by decide) (by omega) (by omega)
  clear ez_7
  refine va_sld hx hb hXs hbl hbA hS (vp_in_iff.mpr (by omega)) dL_law_666 ?_
  refine lv_topi (fun z_8 ez_8 => ?_)
  refine lv_i2l hx hb dL_law_667 rfl ?_
  refine lv_topl (fun z_9 ez_9 => ?_)
  refine lv_ldc2 (v := 4294967295) hx hb hown (hT _ mw_8_177) dL_law_668 ?_
  refine lv_land hx hb dL_law_671 ?_
  refine lv_topl (fun z_10 ez_10 => ?_)
  clear ez_10
  refine lv_lor hx hb dL_law_672 ?_
  refine lv_topl (fun z_11 ez_11 => ?_)
  clear ez_11
  refine lv_aload_n hx hb dL_law_673 rfl (lv_at hl 4 rfl) ?_
  refine lv_iload hx hb dL_law_674 (lv_at hl 0 rfl) ?_
  refine lv_iconst (v := 4) hx hb dL_law_676 (by decide) ?_
  refine lv_iadd hx hb dL_law_677 ?_
  refine lv_topi (fun z_12 ez_12 => ?_)
  have kz_12 : z_12.toInt = vi.toInt + 4 := ti_add ez_12 rfl (by decide) (by omega) (by omega)
  clear ez_12
  refine va_sld hx hb hXs hbl hbA hS (vp_in_iff.mpr (by omega)) dL_law_678 ?_
  refine lv_topi (fun z_13 ez_13 => ?_)
  refine lv_i2l hx hb dL_law_679 rfl ?_
  refine lv_topl (fun z_14 ez_14 => ?_)
  refine lv_bipush (v := 32) hx hb dL_law_680 (by decide) ?_
  refine lv_lshl hx hb dL_law_682 rfl ?_
  refine lv_topl (fun z_15 ez_15 => ?_)
  clear ez_15
  refine lv_aload_n hx hb dL_law_683 rfl (lv_at hl 4 rfl) ?_
  refine lv_iload hx hb dL_law_684 (lv_at hl 0 rfl) ?_
  refine lv_iconst (v := 5) hx hb dL_law_686 (by decide) ?_
  refine lv_iadd hx hb dL_law_687 ?_
  refine lv_topi (fun z_16 ez_16 => ?_)
  have kz_16 : z_16.toInt = vi.toInt + 5 := ti_add ez_16 rfl (by decide) (by omega) (by omega)
  clear ez_16
  refine va_sld hx hb hXs hbl hbA hS (vp_in_iff.mpr (by omega)) dL_law_688 ?_
  refine lv_topi (fun z_17 ez_17 => ?_)
  refine lv_i2l hx hb dL_law_689 rfl ?_
  refine lv_topl (fun z_18 ez_18 => ?_)
  refine lv_ldc2 (v := 4294967295) hx hb hown (hT _ mw_8_177) dL_law_690 ?_
  refine lv_land hx hb dL_law_693 ?_
  refine lv_topl (fun z_19 ez_19 => ?_)
  clear ez_19
  refine lv_lor hx hb dL_law_694 ?_
  refine lv_topl (fun z_20 ez_20 => ?_)
  clear ez_20
  refine lv_aload_n hx hb dL_law_695 rfl (lv_at hl 4 rfl) ?_
  refine lv_iload hx hb dL_law_696 (lv_at hl 0 rfl) ?_
  refine lv_bipush (v := 6) hx hb dL_law_698 (by decide) ?_
  refine lv_iadd hx hb dL_law_700 ?_
  refine lv_topi (fun z_21 ez_21 => ?_)
  have kz_21 : z_21.toInt = vi.toInt + 6 := ti_add ez_21 rfl (by decide) (by omega) (by omega)
  clear ez_21
  refine va_sld hx hb hXs hbl hbA hS (vp_in_iff.mpr (by omega)) dL_law_701 ?_
  refine lv_topi (fun z_22 ez_22 => ?_)
  refine xs_13 hx hb hml hown hT hA hAX (by omega) (by omega) hl hX hS (fun r_23 H_23 lo_23 hX hfr hz hS => ?_)
  have hM := hM.keep (fun q hq h => hfr q hq (fun z => hd1 q z h))
  have hO := hO.keep (fun q hq h => hfr q hq (fun z => hd2 q z h))
  clear hfr hz
  refine lv_pop hx hb dL_law_705 rfl ?_
  refine lv_aload_n hx hb dL_law_706 rfl (lv_at hl 2 rfl) ?_
  refine lv_aload_n hx hb dL_law_707 rfl (lv_at hl 4 rfl) ?_
  refine lv_iload hx hb dL_law_708 (lv_at hl 0 rfl) ?_
  refine lv_iconst (v := 1) hx hb dL_law_710 (by decide) ?_
  refine lv_iadd hx hb dL_law_711 ?_
  refine lv_topi (fun z_24 ez_24 => ?_)
  have kz_24 : z_24.toInt = vi.toInt + 1 := ti_add ez_24 rfl (by decide) (by omega) (by omega)
  clear ez_24
  refine va_sld hx hb hXs hbl hbA hS (vp_in_iff.mpr (by omega)) dL_law_712 ?_
  refine lv_topi (fun z_25 ez_25 => ?_)
  have hq_26 : z_2 = z_25 := ez_2.trans ((congrArg (fun q : Int32 => xs q.toNatClampNeg) (Int32.toInt_inj.mp (by omega))).trans ez_25.symm)
  clear ez_25
  subst hq_26
  refine lv_aload_n hx hb dL_law_713 rfl (lv_at hl 4 rfl) ?_
  refine lv_iload hx hb dL_law_714 (lv_at hl 0 rfl) ?_
  refine lv_iconst (v := 2) hx hb dL_law_716 (by decide) ?_
  refine lv_iadd hx hb dL_law_717 ?_
  refine lv_topi (fun z_27 ez_27 => ?_)
  have kz_27 : z_27.toInt = vi.toInt + 2 := ti_add ez_27 rfl (by decide) (by omega) (by omega)
  clear ez_27
  refine va_sld hx hb hXs hbl hbA hS (vp_in_iff.mpr (by omega)) dL_law_718 ?_
  refine lv_topi (fun z_28 ez_28 => ?_)
  have hq_29 : z_4 = z_28 := ez_4.trans ((congrArg (fun q : Int32 => xs q.toNatClampNeg) (Int32.toInt_inj.mp (by omega))).trans ez_28.symm)
  clear ez_28
  subst hq_29
  refine lv_i2l hx hb dL_law_719 rfl ?_
  refine lv_topl (fun z_30 ez_30 => ?_)
  refine lv_bipush (v := 32) hx hb dL_law_720 (by decide) ?_
  refine lv_lshl hx hb dL_law_722 rfl ?_
  refine lv_topl (fun z_31 ez_31 => ?_)
  clear ez_31
  refine lv_aload_n hx hb dL_law_723 rfl (lv_at hl 4 rfl) ?_
  refine lv_iload hx hb dL_law_724 (lv_at hl 0 rfl) ?_
  refine lv_iconst (v := 3) hx hb dL_law_726 (by decide) ?_
  refine lv_iadd hx hb dL_law_727 ?_
  refine lv_topi (fun z_32 ez_32 => ?_)
  have kz_32 : z_32.toInt = vi.toInt + 3 := ti_add ez_32 rfl (by decide) (by omega) (by omega)
  clear ez_32
  refine va_sld hx hb hXs hbl hbA hS (vp_in_iff.mpr (by omega)) dL_law_728 ?_
  refine lv_topi (fun z_33 ez_33 => ?_)
  have hq_34 : z_8 = z_33 := ez_8.trans ((congrArg (fun q : Int32 => xs q.toNatClampNeg) (Int32.toInt_inj.mp (by omega))).trans ez_33.symm)
  clear ez_33
  subst hq_34
  refine lv_i2l hx hb dL_law_729 rfl ?_
  refine lv_topl (fun z_35 ez_35 => ?_)
  refine lv_ldc2 (v := 4294967295) hx hb hown (hT _ mw_8_177) dL_law_730 ?_
  refine lv_land hx hb dL_law_733 ?_
  refine lv_topl (fun z_36 ez_36 => ?_)
  clear ez_36
  refine lv_lor hx hb dL_law_734 ?_
  refine lv_topl (fun z_37 ez_37 => ?_)
  clear ez_37
  refine lv_aload_n hx hb dL_law_735 rfl (lv_at hl 4 rfl) ?_
  refine lv_iload hx hb dL_law_736 (lv_at hl 0 rfl) ?_
  refine lv_iconst (v := 4) hx hb dL_law_738 (by decide) ?_
  refine lv_iadd hx hb dL_law_739 ?_
  refine lv_topi (fun z_38 ez_38 => ?_)
  have kz_38 : z_38.toInt = vi.toInt + 4 := ti_add ez_38 rfl (by decide) (by omega) (by omega)
  clear ez_38
  refine va_sld hx hb hXs hbl hbA hS (vp_in_iff.mpr (by omega)) dL_law_740 ?_
  refine lv_topi (fun z_39 ez_39 => ?_)
  have hq_40 : z_13 = z_39 := ez_13.trans ((congrArg (fun q : Int32 => xs q.toNatClampNeg) (Int32.toInt_inj.mp (by omega))).trans ez_39.symm)
  clear ez_39
  subst hq_40
  refine lv_i2l hx hb dL_law_741 rfl ?_
  refine lv_topl (fun z_41 ez_41 => ?_)
  refine lv_bipush (v := 32) hx hb dL_law_742 (by decide) ?_
  refine lv_lshl hx hb dL_law_744 rfl ?_
  refine lv_topl (fun z_42 ez_42 => ?_)
  clear ez_42
  refine lv_aload_n hx hb dL_law_745 rfl (lv_at hl 4 rfl) ?_
  refine lv_iload hx hb dL_law_746 (lv_at hl 0 rfl) ?_
  refine lv_iconst (v := 5) hx hb dL_law_748 (by decide) ?_
  refine lv_iadd hx hb dL_law_749 ?_
  refine lv_topi (fun z_43 ez_43 => ?_)
  have kz_43 : z_43.toInt = vi.toInt + 5 := ti_add ez_43 rfl (by decide) (by omega) (by omega)
  clear ez_43
  refine va_sld hx hb hXs hbl hbA hS (vp_in_iff.mpr (by omega)) dL_law_750 ?_
  refine lv_topi (fun z_44 ez_44 => ?_)
  have hq_45 : z_17 = z_44 := ez_17.trans ((congrArg (fun q : Int32 => xs q.toNatClampNeg) (Int32.toInt_inj.mp (by omega))).trans ez_44.symm)
  clear ez_44
  subst hq_45
  refine lv_i2l hx hb dL_law_751 rfl ?_
  refine lv_topl (fun z_46 ez_46 => ?_)
  refine lv_ldc2 (v := 4294967295) hx hb hown (hT _ mw_8_177) dL_law_752 ?_
  refine lv_land hx hb dL_law_755 ?_
  refine lv_topl (fun z_47 ez_47 => ?_)
  clear ez_47
  refine lv_lor hx hb dL_law_756 ?_
  refine lv_topl (fun z_48 ez_48 => ?_)
  clear ez_48
  refine lv_aload_n hx hb dL_law_757 rfl (lv_at hl 4 rfl) ?_
  refine lv_iload hx hb dL_law_758 (lv_at hl 0 rfl) ?_
  refine lv_bipush (v := 6) hx hb dL_law_760 (by decide) ?_
  refine lv_iadd hx hb dL_law_762 ?_
  refine lv_topi (fun z_49 ez_49 => ?_)
  have kz_49 : z_49.toInt = vi.toInt + 6 := ti_add ez_49 rfl (by decide) (by omega) (by omega)
  clear ez_49
  refine va_sld hx hb hXs hbl hbA hS (vp_in_iff.mpr (by omega)) dL_law_763 ?_
  refine lv_topi (fun z_50 ez_50 => ?_)
  have hq_51 : z_22 = z_50 := ez_22.trans ((congrArg (fun q : Int32 => xs q.toNatClampNeg) (Int32.toInt_inj.mp (by omega))).trans ez_50.symm)
  clear ez_50
  subst hq_51
  refine ms_13 hx hb hml hown hT hA hAM (by omega) (by omega) hl hM hS (fun r_52 H_52 lo_52 hM hfr hz hS => ?_)
  have hX := hX.keep (fun q hq h => hfr q hq (fun z => hd1 q h z))
  have hO := hO.keep (fun q hq h => hfr q hq (fun z => hd3 q z h))
  clear hfr hz
  refine lv_pop hx hb dL_law_767 rfl ?_
  refine lv_goto (tgt := 1453) hx hb dL_law_768 (by decide) ?_
  refine W.widen (k := kc + 1) (n := ks + 6) (by omega) (by omega) ?_
  exact kk H_52 lo_52 _ rr_bytes rr_fault rr_place f_rr_tape dX cn_hour ci_hour xx_imageKept rd_count rd_knownFirst mm_taped mm_lastFault mm_lastPlace f_mm_tape dM mm_next mm_imageNext mm_hasImage mm_readings mm_knownBy hbt hta hfa hpl hdd hho hih him hrc hrk hX hM hO hS (lv_sub hl [0, 1, 2, 3, 4] rfl)
set_option maxHeartbeats 4000000 in
set_option maxRecDepth 100000 in
theorem law_op_14 {p : Program} {l : Launch} {e : Env} {s : State} {m : MethodId} {below : List Frame} {meth : Method} {c : Code} {dC : Nat → ClassId} {dI : Nat → Nat → Nat} {b : Nat} {L : Nat} {xs : Nat → Int32} {A AX AM AO : Nat → Prop} {Q : State → Prop} (hx : p.tables.exec = Jvm.exec) (hb : c.code = cL_law) (hml : c.maxLocals = 7) (hown : s.vm.findClass RL = some m.cls) (hT : ∀ w ∈ pw_T, w.before #[Value.ref b] s = true) (hA : ∀ q, s.heap.size ≤ q → A q) (hAX : ∀ q, AX q → A q) (hAM : ∀ q, AM q → A q) (hAO : ∀ q, AO q → A q) (hd1 : ∀ q, AX q → ¬ AM q) (hd2 : ∀ q, AX q → ¬ AO q) (hd3 : ∀ q, AM q → ¬ AO q) (hXs : va_X b L xs s s.heap) (hbl : b < s.heap.size) (hbA : ¬ A b) (hL : L ≤ 3584) {kc ks : Nat} (hkc : kc + 4 ≤ 601024) (hks : ks + 24 ≤ 7293034) {vi : Int32} {xx mm oo : Nat} {rr_bytes : Int32} {rr_fault : Int32} {rr_place : Int32} {f_rr_tape : Nat → Int32} {dX : DD} {cn_hour : Int32} {ci_hour : Int32} {xx_imageKept : Int32} {rd_count : Int32} {rd_knownFirst : Int32} {mm_taped : Int32} {mm_lastFault : Int32} {mm_lastPlace : Int32} {f_mm_tape : Nat → Int32} {dM : DD} {mm_next : Int32} {mm_imageNext : Int32} {mm_hasImage : Int32} {mm_readings : Int32} {mm_knownBy : Int32} (hv0 : 0 ≤ vi.toInt) (hv1 : vi.toInt + 7 ≤ (L : Int)) (hbt : rr_bytes.toInt = mm_taped.toInt) (hta : BTt f_rr_tape f_mm_tape rr_bytes.toInt) (hfa : rr_fault = mm_lastFault) (hpl : rr_place = mm_lastPlace) (hdd : dX = dM) (hho : cn_hour.toInt = mm_next.toInt) (hih : ci_hour.toInt = mm_imageNext.toInt) (him : xx_imageKept.toInt = mm_hasImage.toInt) (hrc : rd_count.toInt = mm_readings.toInt) (hrk : rd_knownFirst.toInt = mm_knownBy.toInt) {H : Heap} {locs : List Loc} {ls : Array Slot} (hX : XW dC dI AX s H xx rr_bytes rr_fault rr_place f_rr_tape dX cn_hour ci_hour xx_imageKept rd_count rd_knownFirst) (hM : MW dC dI AM s H mm mm_taped mm_lastFault mm_lastPlace f_mm_tape dM mm_next mm_imageNext mm_hasImage mm_readings mm_knownBy) (hO : OW dC dI AO s H oo) (hS : va_S A s.heap H locs) (hl : lv_has ls 7 [(4, .int vi), (3, .ref oo), (2, .ref mm), (1, .ref xx), (0, .ref b)]) (kk : ∀ (H1 : Heap) (locs1 : List Loc) (ls1 : Array Slot) (n_rr_bytes : Int32) (n_rr_fault : Int32) (n_rr_place : Int32) (n_f_rr_tape : Nat → Int32) (n_dX : DD) (n_cn_hour : Int32) (n_ci_hour : Int32) (n_xx_imageKept : Int32) (n_rd_count : Int32) (n_rd_knownFirst : Int32) (n_mm_taped : Int32) (n_mm_lastFault : Int32) (n_mm_lastPlace : Int32) (n_f_mm_tape : Nat → Int32) (n_dM : DD) (n_mm_next : Int32) (n_mm_imageNext : Int32) (n_mm_hasImage : Int32) (n_mm_readings : Int32) (n_mm_knownBy : Int32), n_rr_bytes.toInt = n_mm_taped.toInt → BTt n_f_rr_tape n_f_mm_tape n_rr_bytes.toInt → n_rr_fault = n_mm_lastFault → n_rr_place = n_mm_lastPlace → n_dX = n_dM → n_cn_hour.toInt = n_mm_next.toInt → n_ci_hour.toInt = n_mm_imageNext.toInt → n_xx_imageKept.toInt = n_mm_hasImage.toInt → n_rd_count.toInt = n_mm_readings.toInt → n_rd_knownFirst.toInt = n_mm_knownBy.toInt → XW dC dI AX s H1 xx n_rr_bytes n_rr_fault n_rr_place n_f_rr_tape n_dX n_cn_hour n_ci_hour n_xx_imageKept n_rd_count n_rd_knownFirst → MW dC dI AM s H1 mm n_mm_taped n_mm_lastFault n_mm_lastPlace n_f_mm_tape n_dM n_mm_next n_mm_imageNext n_mm_hasImage n_mm_readings n_mm_knownBy → OW dC dI AO s H1 oo → va_S A s.heap H1 locs1 → lv_has ls1 7 [(4, .int vi), (3, .ref oo), (2, .ref mm), (1, .ref xx), (0, .ref b)] → W p l e room_1 s m #[Value.ref b] below meth c H1 locs1 (kc + 1) (ks + 6) Q (F0 m 1453 ls1 [])) : W p l e room_1 s m #[Value.ref b] below meth c H locs kc ks Q (F0 m 771 ls []) := by
  refine lv_aload_n hx hb dL_law_771 rfl (lv_at hl 3 rfl) ?_
  refine lv_aload_n hx hb dL_law_772 rfl (lv_at hl 4 rfl) ?_
  refine lv_iload hx hb dL_law_773 (lv_at hl 0 rfl) ?_
  refine lv_iconst (v := 1) hx hb dL_law_775 (by decide) ?_
  refine lv_iadd hx hb dL_law_776 ?_
  refine lv_topi (fun z_1 ez_1 => ?_)
  have kz_1 : z_1.toInt = vi.toInt + 1 := ti_add ez_1 rfl (by decide) (by omega) (by omega)
  clear ez_1
  refine va_sld hx hb hXs hbl hbA hS (vp_in_iff.mpr (by omega)) dL_law_777 ?_
  refine lv_topi (fun z_2 ez_2 => ?_)
  refine lv_aload_n hx hb dL_law_778 rfl (lv_at hl 4 rfl) ?_
  refine lv_iload hx hb dL_law_779 (lv_at hl 0 rfl) ?_
  refine lv_iconst (v := 2) hx hb dL_law_781 (by decide) ?_
  refine lv_iadd hx hb dL_law_782 ?_
  refine lv_topi (fun z_3 ez_3 => ?_)
  have kz_3 : z_3.toInt = vi.toInt + 2 := ti_add ez_3 rfl (by decide) (by omega) (by omega)
  clear ez_3
  refine va_sld hx hb hXs hbl hbA hS (vp_in_iff.mpr (by omega)) dL_law_783 ?_
  refine lv_topi (fun z_4 ez_4 => ?_)
  refine lv_aload_n hx hb dL_law_784 rfl (lv_at hl 4 rfl) ?_
  refine lv_iload hx hb dL_law_785 (lv_at hl 0 rfl) ?_
  refine lv_iconst (v := 3) hx hb dL_law_787 (by decide) ?_
  refine lv_iadd hx hb dL_law_788 ?_
  refine lv_topi (fun z_5 ez_5 => ?_)
  have kz_5 : z_5.toInt = vi.toInt + 3 := ti_add ez_5 rfl (by decide) (by omega) (by omega)
  clear ez_5
  refine va_sld hx hb hXs hbl hbA hS (vp_in_iff.mpr (by omega)) dL_law_789 ?_
  refine lv_topi (fun z_6 ez_6 => ?_)
  refine lv_aload_n hx hb dL_law_790 rfl (lv_at hl 4 rfl) ?_
  refine lv_iload hx hb dL_law_791 (lv_at hl 0 rfl) ?_
  refine lv_iconst (v := 4) hx hb dL_law_793 (by decide) ?_
  refine lv_iadd hx hb dL_law_794 ?_
  refine lv_topi (fun z_7 ez_7 => ?_)
  have kz_7 : z_7.toInt = vi.toInt + 4 := ti_add ez_7 rfl (by decide) (by omega) (by omega)
  clear ez_7
  refine va_sld hx hb hXs hbl hbA hS (vp_in_iff.mpr (by omega)) dL_law_795 ?_
  refine lv_topi (fun z_8 ez_8 => ?_)
  refine lv_aload_n hx hb dL_law_796 rfl (lv_at hl 4 rfl) ?_
  refine lv_iload hx hb dL_law_797 (lv_at hl 0 rfl) ?_
  refine lv_iconst (v := 5) hx hb dL_law_799 (by decide) ?_
  refine lv_iadd hx hb dL_law_800 ?_
  refine lv_topi (fun z_9 ez_9 => ?_)
  have kz_9 : z_9.toInt = vi.toInt + 5 := ti_add ez_9 rfl (by decide) (by omega) (by omega)
  clear ez_9
  refine va_sld hx hb hXs hbl hbA hS (vp_in_iff.mpr (by omega)) dL_law_801 ?_
  refine lv_topi (fun z_10 ez_10 => ?_)
  refine xs_14 hx hb hml hown hT hA hAX (by omega) (by omega) hl hX hS (fun r_11 H_11 lo_11 hX hfr hz hS => ?_)
  have hM := hM.keep (fun q hq h => hfr q hq (fun z => hd1 q z h))
  have hO := hO.keep (fun q hq h => hfr q hq (fun z => hd2 q z h))
  clear hfr hz
  refine lv_pop2_2 hx hb dL_law_805 rfl ?_
  refine lv_aload_n hx hb dL_law_806 rfl (lv_at hl 2 rfl) ?_
  refine lv_aload_n hx hb dL_law_807 rfl (lv_at hl 4 rfl) ?_
  refine lv_iload hx hb dL_law_808 (lv_at hl 0 rfl) ?_
  refine lv_iconst (v := 1) hx hb dL_law_810 (by decide) ?_
  refine lv_iadd hx hb dL_law_811 ?_
  refine lv_topi (fun z_12 ez_12 => ?_)
  have kz_12 : z_12.toInt = vi.toInt + 1 := ti_add ez_12 rfl (by decide) (by omega) (by omega)
  clear ez_12
  refine va_sld hx hb hXs hbl hbA hS (vp_in_iff.mpr (by omega)) dL_law_812 ?_
  refine lv_topi (fun z_13 ez_13 => ?_)
  have hq_14 : z_2 = z_13 := ez_2.trans ((congrArg (fun q : Int32 => xs q.toNatClampNeg) (Int32.toInt_inj.mp (by omega))).trans ez_13.symm)
  clear ez_13
  subst hq_14
  refine lv_aload_n hx hb dL_law_813 rfl (lv_at hl 4 rfl) ?_
  refine lv_iload hx hb dL_law_814 (lv_at hl 0 rfl) ?_
  refine lv_iconst (v := 2) hx hb dL_law_816 (by decide) ?_
  refine lv_iadd hx hb dL_law_817 ?_
  refine lv_topi (fun z_15 ez_15 => ?_)
  have kz_15 : z_15.toInt = vi.toInt + 2 := ti_add ez_15 rfl (by decide) (by omega) (by omega)
  clear ez_15
  refine va_sld hx hb hXs hbl hbA hS (vp_in_iff.mpr (by omega)) dL_law_818 ?_
  refine lv_topi (fun z_16 ez_16 => ?_)
  have hq_17 : z_4 = z_16 := ez_4.trans ((congrArg (fun q : Int32 => xs q.toNatClampNeg) (Int32.toInt_inj.mp (by omega))).trans ez_16.symm)
  clear ez_16
  subst hq_17
  refine lv_aload_n hx hb dL_law_819 rfl (lv_at hl 4 rfl) ?_
  refine lv_iload hx hb dL_law_820 (lv_at hl 0 rfl) ?_
  refine lv_iconst (v := 3) hx hb dL_law_822 (by decide) ?_
  refine lv_iadd hx hb dL_law_823 ?_
  refine lv_topi (fun z_18 ez_18 => ?_)
  have kz_18 : z_18.toInt = vi.toInt + 3 := ti_add ez_18 rfl (by decide) (by omega) (by omega)
  clear ez_18
  refine va_sld hx hb hXs hbl hbA hS (vp_in_iff.mpr (by omega)) dL_law_824 ?_
  refine lv_topi (fun z_19 ez_19 => ?_)
  have hq_20 : z_6 = z_19 := ez_6.trans ((congrArg (fun q : Int32 => xs q.toNatClampNeg) (Int32.toInt_inj.mp (by omega))).trans ez_19.symm)
  clear ez_19
  subst hq_20
  refine lv_aload_n hx hb dL_law_825 rfl (lv_at hl 4 rfl) ?_
  refine lv_iload hx hb dL_law_826 (lv_at hl 0 rfl) ?_
  refine lv_iconst (v := 4) hx hb dL_law_828 (by decide) ?_
  refine lv_iadd hx hb dL_law_829 ?_
  refine lv_topi (fun z_21 ez_21 => ?_)
  have kz_21 : z_21.toInt = vi.toInt + 4 := ti_add ez_21 rfl (by decide) (by omega) (by omega)
  clear ez_21
  refine va_sld hx hb hXs hbl hbA hS (vp_in_iff.mpr (by omega)) dL_law_830 ?_
  refine lv_topi (fun z_22 ez_22 => ?_)
  have hq_23 : z_8 = z_22 := ez_8.trans ((congrArg (fun q : Int32 => xs q.toNatClampNeg) (Int32.toInt_inj.mp (by omega))).trans ez_22.symm)
  clear ez_22
  subst hq_23
  refine lv_aload_n hx hb dL_law_831 rfl (lv_at hl 4 rfl) ?_
  refine lv_iload hx hb dL_law_832 (lv_at hl 0 rfl) ?_
  refine lv_iconst (v := 5) hx hb dL_law_834 (by decide) ?_
  refine lv_iadd hx hb dL_law_835 ?_
  refine lv_topi (fun z_24 ez_24 => ?_)
  have kz_24 : z_24.toInt = vi.toInt + 5 := ti_add ez_24 rfl (by decide) (by omega) (by omega)
  clear ez_24
  refine va_sld hx hb hXs hbl hbA hS (vp_in_iff.mpr (by omega)) dL_law_836 ?_
  refine lv_topi (fun z_25 ez_25 => ?_)
  have hq_26 : z_10 = z_25 := ez_10.trans ((congrArg (fun q : Int32 => xs q.toNatClampNeg) (Int32.toInt_inj.mp (by omega))).trans ez_25.symm)
  clear ez_25
  subst hq_26
  refine ms_14 hx hb hml hown hT hA hAM (by omega) (by omega) hl hM hS (fun r_27 H_27 lo_27 hM hfr hz hS => ?_)
  have hX := hX.keep (fun q hq h => hfr q hq (fun z => hd1 q h z))
  have hO := hO.keep (fun q hq h => hfr q hq (fun z => hd3 q z h))
  clear hfr hz
  refine lv_pop2_2 hx hb dL_law_840 rfl ?_
  refine lv_goto (tgt := 1453) hx hb dL_law_841 (by decide) ?_
  refine W.widen (k := kc + 1) (n := ks + 6) (by omega) (by omega) ?_
  exact kk H_27 lo_27 _ rr_bytes rr_fault rr_place f_rr_tape dX cn_hour ci_hour xx_imageKept rd_count rd_knownFirst mm_taped mm_lastFault mm_lastPlace f_mm_tape dM mm_next mm_imageNext mm_hasImage mm_readings mm_knownBy hbt hta hfa hpl hdd hho hih him hrc hrk hX hM hO hS (lv_sub hl [0, 1, 2, 3, 4] rfl)
set_option maxHeartbeats 4000000 in
set_option maxRecDepth 100000 in
theorem law_op_15 {p : Program} {l : Launch} {e : Env} {s : State} {m : MethodId} {below : List Frame} {meth : Method} {c : Code} {dC : Nat → ClassId} {dI : Nat → Nat → Nat} {b : Nat} {L : Nat} {xs : Nat → Int32} {A AX AM AO : Nat → Prop} {Q : State → Prop} (hx : p.tables.exec = Jvm.exec) (hb : c.code = cL_law) (hml : c.maxLocals = 7) (hown : s.vm.findClass RL = some m.cls) (hT : ∀ w ∈ pw_T, w.before #[Value.ref b] s = true) (hA : ∀ q, s.heap.size ≤ q → A q) (hAX : ∀ q, AX q → A q) (hAM : ∀ q, AM q → A q) (hAO : ∀ q, AO q → A q) (hd1 : ∀ q, AX q → ¬ AM q) (hd2 : ∀ q, AX q → ¬ AO q) (hd3 : ∀ q, AM q → ¬ AO q) (hXs : va_X b L xs s s.heap) (hbl : b < s.heap.size) (hbA : ¬ A b) (hL : L ≤ 3584) {kc ks : Nat} (hkc : kc + 4 ≤ 601024) (hks : ks + 24 ≤ 7293034) {vi : Int32} {xx mm oo : Nat} {rr_bytes : Int32} {rr_fault : Int32} {rr_place : Int32} {f_rr_tape : Nat → Int32} {dX : DD} {cn_hour : Int32} {ci_hour : Int32} {xx_imageKept : Int32} {rd_count : Int32} {rd_knownFirst : Int32} {mm_taped : Int32} {mm_lastFault : Int32} {mm_lastPlace : Int32} {f_mm_tape : Nat → Int32} {dM : DD} {mm_next : Int32} {mm_imageNext : Int32} {mm_hasImage : Int32} {mm_readings : Int32} {mm_knownBy : Int32} (hv0 : 0 ≤ vi.toInt) (hv1 : vi.toInt + 7 ≤ (L : Int)) (hbt : rr_bytes.toInt = mm_taped.toInt) (hta : BTt f_rr_tape f_mm_tape rr_bytes.toInt) (hfa : rr_fault = mm_lastFault) (hpl : rr_place = mm_lastPlace) (hdd : dX = dM) (hho : cn_hour.toInt = mm_next.toInt) (hih : ci_hour.toInt = mm_imageNext.toInt) (him : xx_imageKept.toInt = mm_hasImage.toInt) (hrc : rd_count.toInt = mm_readings.toInt) (hrk : rd_knownFirst.toInt = mm_knownBy.toInt) {H : Heap} {locs : List Loc} {ls : Array Slot} (hX : XW dC dI AX s H xx rr_bytes rr_fault rr_place f_rr_tape dX cn_hour ci_hour xx_imageKept rd_count rd_knownFirst) (hM : MW dC dI AM s H mm mm_taped mm_lastFault mm_lastPlace f_mm_tape dM mm_next mm_imageNext mm_hasImage mm_readings mm_knownBy) (hO : OW dC dI AO s H oo) (hS : va_S A s.heap H locs) (hl : lv_has ls 7 [(4, .int vi), (3, .ref oo), (2, .ref mm), (1, .ref xx), (0, .ref b)]) (kk : ∀ (H1 : Heap) (locs1 : List Loc) (ls1 : Array Slot) (n_rr_bytes : Int32) (n_rr_fault : Int32) (n_rr_place : Int32) (n_f_rr_tape : Nat → Int32) (n_dX : DD) (n_cn_hour : Int32) (n_ci_hour : Int32) (n_xx_imageKept : Int32) (n_rd_count : Int32) (n_rd_knownFirst : Int32) (n_mm_taped : Int32) (n_mm_lastFault : Int32) (n_mm_lastPlace : Int32) (n_f_mm_tape : Nat → Int32) (n_dM : DD) (n_mm_next : Int32) (n_mm_imageNext : Int32) (n_mm_hasImage : Int32) (n_mm_readings : Int32) (n_mm_knownBy : Int32), n_rr_bytes.toInt = n_mm_taped.toInt → BTt n_f_rr_tape n_f_mm_tape n_rr_bytes.toInt → n_rr_fault = n_mm_lastFault → n_rr_place = n_mm_lastPlace → n_dX = n_dM → n_cn_hour.toInt = n_mm_next.toInt → n_ci_hour.toInt = n_mm_imageNext.toInt → n_xx_imageKept.toInt = n_mm_hasImage.toInt → n_rd_count.toInt = n_mm_readings.toInt → n_rd_knownFirst.toInt = n_mm_knownBy.toInt → XW dC dI AX s H1 xx n_rr_bytes n_rr_fault n_rr_place n_f_rr_tape n_dX n_cn_hour n_ci_hour n_xx_imageKept n_rd_count n_rd_knownFirst → MW dC dI AM s H1 mm n_mm_taped n_mm_lastFault n_mm_lastPlace n_f_mm_tape n_dM n_mm_next n_mm_imageNext n_mm_hasImage n_mm_readings n_mm_knownBy → OW dC dI AO s H1 oo → va_S A s.heap H1 locs1 → lv_has ls1 7 [(4, .int vi), (3, .ref oo), (2, .ref mm), (1, .ref xx), (0, .ref b)] → W p l e room_1 s m #[Value.ref b] below meth c H1 locs1 (kc + 1) (ks + 6) Q (F0 m 1453 ls1 [])) : W p l e room_1 s m #[Value.ref b] below meth c H locs kc ks Q (F0 m 844 ls []) := by
  refine lv_aload_n hx hb dL_law_844 rfl (lv_at hl 3 rfl) ?_
  refine lv_aload_n hx hb dL_law_845 rfl (lv_at hl 4 rfl) ?_
  refine lv_iload hx hb dL_law_846 (lv_at hl 0 rfl) ?_
  refine lv_iconst (v := 1) hx hb dL_law_848 (by decide) ?_
  refine lv_iadd hx hb dL_law_849 ?_
  refine lv_topi (fun z_1 ez_1 => ?_)
  have kz_1 : z_1.toInt = vi.toInt + 1 := ti_add ez_1 rfl (by decide) (by omega) (by omega)
  clear ez_1
  refine va_sld hx hb hXs hbl hbA hS (vp_in_iff.mpr (by omega)) dL_law_850 ?_
  refine lv_topi (fun z_2 ez_2 => ?_)
  refine lv_aload_n hx hb dL_law_851 rfl (lv_at hl 4 rfl) ?_
  refine lv_iload hx hb dL_law_852 (lv_at hl 0 rfl) ?_
  refine lv_iconst (v := 2) hx hb dL_law_854 (by decide) ?_
  refine lv_iadd hx hb dL_law_855 ?_
  refine lv_topi (fun z_3 ez_3 => ?_)
  have kz_3 : z_3.toInt = vi.toInt + 2 := ti_add ez_3 rfl (by decide) (by omega) (by omega)
  clear ez_3
  refine va_sld hx hb hXs hbl hbA hS (vp_in_iff.mpr (by omega)) dL_law_856 ?_
  refine lv_topi (fun z_4 ez_4 => ?_)
  refine lv_aload_n hx hb dL_law_857 rfl (lv_at hl 4 rfl) ?_
  refine lv_iload hx hb dL_law_858 (lv_at hl 0 rfl) ?_
  refine lv_iconst (v := 3) hx hb dL_law_860 (by decide) ?_
  refine lv_iadd hx hb dL_law_861 ?_
  refine lv_topi (fun z_5 ez_5 => ?_)
  have kz_5 : z_5.toInt = vi.toInt + 3 := ti_add ez_5 rfl (by decide) (by omega) (by omega)
  clear ez_5
  refine va_sld hx hb hXs hbl hbA hS (vp_in_iff.mpr (by omega)) dL_law_862 ?_
  refine lv_topi (fun z_6 ez_6 => ?_)
  refine xs_15 hx hb hml hown hT hA hAX (by omega) (by omega) hl hX hS (fun r_7 H_7 lo_7 hX hfr hz hS => ?_)
  have hM := hM.keep (fun q hq h => hfr q hq (fun z => hd1 q z h))
  have hO := hO.keep (fun q hq h => hfr q hq (fun z => hd2 q z h))
  clear hfr hz
  refine lv_pop hx hb dL_law_866 rfl ?_
  refine lv_aload_n hx hb dL_law_867 rfl (lv_at hl 2 rfl) ?_
  refine lv_aload_n hx hb dL_law_868 rfl (lv_at hl 4 rfl) ?_
  refine lv_iload hx hb dL_law_869 (lv_at hl 0 rfl) ?_
  refine lv_iconst (v := 1) hx hb dL_law_871 (by decide) ?_
  refine lv_iadd hx hb dL_law_872 ?_
  refine lv_topi (fun z_8 ez_8 => ?_)
  have kz_8 : z_8.toInt = vi.toInt + 1 := ti_add ez_8 rfl (by decide) (by omega) (by omega)
  clear ez_8
  refine va_sld hx hb hXs hbl hbA hS (vp_in_iff.mpr (by omega)) dL_law_873 ?_
  refine lv_topi (fun z_9 ez_9 => ?_)
  have hq_10 : z_2 = z_9 := ez_2.trans ((congrArg (fun q : Int32 => xs q.toNatClampNeg) (Int32.toInt_inj.mp (by omega))).trans ez_9.symm)
  clear ez_9
  subst hq_10
  refine lv_aload_n hx hb dL_law_874 rfl (lv_at hl 4 rfl) ?_
  refine lv_iload hx hb dL_law_875 (lv_at hl 0 rfl) ?_
  refine lv_iconst (v := 2) hx hb dL_law_877 (by decide) ?_
  refine lv_iadd hx hb dL_law_878 ?_
  refine lv_topi (fun z_11 ez_11 => ?_)
  have kz_11 : z_11.toInt = vi.toInt + 2 := ti_add ez_11 rfl (by decide) (by omega) (by omega)
  clear ez_11
  refine va_sld hx hb hXs hbl hbA hS (vp_in_iff.mpr (by omega)) dL_law_879 ?_
  refine lv_topi (fun z_12 ez_12 => ?_)
  have hq_13 : z_4 = z_12 := ez_4.trans ((congrArg (fun q : Int32 => xs q.toNatClampNeg) (Int32.toInt_inj.mp (by omega))).trans ez_12.symm)
  clear ez_12
  subst hq_13
  refine lv_aload_n hx hb dL_law_880 rfl (lv_at hl 4 rfl) ?_
  refine lv_iload hx hb dL_law_881 (lv_at hl 0 rfl) ?_
  refine lv_iconst (v := 3) hx hb dL_law_883 (by decide) ?_
  refine lv_iadd hx hb dL_law_884 ?_
  refine lv_topi (fun z_14 ez_14 => ?_)
  have kz_14 : z_14.toInt = vi.toInt + 3 := ti_add ez_14 rfl (by decide) (by omega) (by omega)
  clear ez_14
  refine va_sld hx hb hXs hbl hbA hS (vp_in_iff.mpr (by omega)) dL_law_885 ?_
  refine lv_topi (fun z_15 ez_15 => ?_)
  have hq_16 : z_6 = z_15 := ez_6.trans ((congrArg (fun q : Int32 => xs q.toNatClampNeg) (Int32.toInt_inj.mp (by omega))).trans ez_15.symm)
  clear ez_15
  subst hq_16
  refine ms_15 hx hb hml hown hT hA hAM (by omega) (by omega) hl hM hS (fun r_17 H_17 lo_17 hM hfr hz hS => ?_)
  have hX := hX.keep (fun q hq h => hfr q hq (fun z => hd1 q h z))
  have hO := hO.keep (fun q hq h => hfr q hq (fun z => hd3 q z h))
  clear hfr hz
  refine lv_pop hx hb dL_law_889 rfl ?_
  refine lv_goto (tgt := 1453) hx hb dL_law_890 (by decide) ?_
  refine W.widen (k := kc + 1) (n := ks + 6) (by omega) (by omega) ?_
  exact kk H_17 lo_17 _ rr_bytes rr_fault rr_place f_rr_tape dX cn_hour ci_hour xx_imageKept rd_count rd_knownFirst mm_taped mm_lastFault mm_lastPlace f_mm_tape dM mm_next mm_imageNext mm_hasImage mm_readings mm_knownBy hbt hta hfa hpl hdd hho hih him hrc hrk hX hM hO hS (lv_sub hl [0, 1, 2, 3, 4] rfl)
