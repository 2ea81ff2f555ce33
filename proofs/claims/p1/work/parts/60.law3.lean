theorem dL_law_635 : decode cL_law 635 = .ok (.aload_n 1, 1) := by decide +kernel
theorem dL_law_636 : decode cL_law 636 = .ok (.aload_n 0, 1) := by decide +kernel
theorem dL_law_637 : decode cL_law 637 = .ok (.iload 4, 2) := by decide +kernel
theorem dL_law_639 : decode cL_law 639 = .ok (.iconst 1, 1) := by decide +kernel
theorem dL_law_640 : decode cL_law 640 = .ok (.iadd, 1) := by decide +kernel
theorem dL_law_641 : decode cL_law 641 = .ok (.iaload, 1) := by decide +kernel
theorem dL_law_642 : decode cL_law 642 = .ok (.aload_n 0, 1) := by decide +kernel
theorem dL_law_643 : decode cL_law 643 = .ok (.iload 4, 2) := by decide +kernel
theorem dL_law_645 : decode cL_law 645 = .ok (.iconst 2, 1) := by decide +kernel
theorem dL_law_646 : decode cL_law 646 = .ok (.iadd, 1) := by decide +kernel
theorem dL_law_647 : decode cL_law 647 = .ok (.iaload, 1) := by decide +kernel
theorem dL_law_648 : decode cL_law 648 = .ok (.invokevirtual 77, 3) := by decide +kernel
theorem dL_law_651 : decode cL_law 651 = .ok (.aload_n 2, 1) := by decide +kernel
theorem dL_law_652 : decode cL_law 652 = .ok (.aload_n 0, 1) := by decide +kernel
theorem dL_law_653 : decode cL_law 653 = .ok (.iload 4, 2) := by decide +kernel
theorem dL_law_655 : decode cL_law 655 = .ok (.iconst 1, 1) := by decide +kernel
theorem dL_law_656 : decode cL_law 656 = .ok (.iadd, 1) := by decide +kernel
theorem dL_law_657 : decode cL_law 657 = .ok (.iaload, 1) := by decide +kernel
theorem dL_law_658 : decode cL_law 658 = .ok (.aload_n 0, 1) := by decide +kernel
theorem dL_law_659 : decode cL_law 659 = .ok (.iload 4, 2) := by decide +kernel
theorem dL_law_661 : decode cL_law 661 = .ok (.iconst 2, 1) := by decide +kernel
theorem dL_law_662 : decode cL_law 662 = .ok (.iadd, 1) := by decide +kernel
theorem dL_law_663 : decode cL_law 663 = .ok (.iaload, 1) := by decide +kernel
theorem dL_law_664 : decode cL_law 664 = .ok (.invokevirtual 80, 3) := by decide +kernel
theorem dL_law_667 : decode cL_law 667 = .ok (.if_icmp .eq 815, 3) := by decide +kernel
theorem dL_law_672 : decode cL_law 672 = .ok (.aload_n 1, 1) := by decide +kernel
theorem dL_law_673 : decode cL_law 673 = .ok (.aload_n 0, 1) := by decide +kernel
theorem dL_law_674 : decode cL_law 674 = .ok (.iload 4, 2) := by decide +kernel
theorem dL_law_676 : decode cL_law 676 = .ok (.iconst 1, 1) := by decide +kernel
theorem dL_law_677 : decode cL_law 677 = .ok (.iadd, 1) := by decide +kernel
theorem dL_law_678 : decode cL_law 678 = .ok (.iaload, 1) := by decide +kernel
theorem dL_law_679 : decode cL_law 679 = .ok (.aload_n 0, 1) := by decide +kernel
theorem dL_law_680 : decode cL_law 680 = .ok (.iload 4, 2) := by decide +kernel
theorem dL_law_682 : decode cL_law 682 = .ok (.iconst 2, 1) := by decide +kernel
theorem dL_law_683 : decode cL_law 683 = .ok (.iadd, 1) := by decide +kernel
theorem dL_law_684 : decode cL_law 684 = .ok (.iaload, 1) := by decide +kernel
theorem dL_law_685 : decode cL_law 685 = .ok (.i2l, 1) := by decide +kernel
theorem dL_law_686 : decode cL_law 686 = .ok (.bipush 32, 2) := by decide +kernel
theorem dL_law_688 : decode cL_law 688 = .ok (.lshl, 1) := by decide +kernel
theorem dL_law_689 : decode cL_law 689 = .ok (.aload_n 0, 1) := by decide +kernel
theorem dL_law_690 : decode cL_law 690 = .ok (.iload 4, 2) := by decide +kernel
theorem dL_law_692 : decode cL_law 692 = .ok (.iconst 3, 1) := by decide +kernel
theorem dL_law_693 : decode cL_law 693 = .ok (.iadd, 1) := by decide +kernel
theorem dL_law_694 : decode cL_law 694 = .ok (.iaload, 1) := by decide +kernel
theorem dL_law_695 : decode cL_law 695 = .ok (.i2l, 1) := by decide +kernel
theorem dL_law_696 : decode cL_law 696 = .ok (.ldc2_w 81, 3) := by decide +kernel
theorem dL_law_699 : decode cL_law 699 = .ok (.land, 1) := by decide +kernel
theorem dL_law_700 : decode cL_law 700 = .ok (.lor, 1) := by decide +kernel
theorem dL_law_701 : decode cL_law 701 = .ok (.aload_n 0, 1) := by decide +kernel
theorem dL_law_702 : decode cL_law 702 = .ok (.iload 4, 2) := by decide +kernel
theorem dL_law_704 : decode cL_law 704 = .ok (.iconst 4, 1) := by decide +kernel
theorem dL_law_705 : decode cL_law 705 = .ok (.iadd, 1) := by decide +kernel
theorem dL_law_706 : decode cL_law 706 = .ok (.iaload, 1) := by decide +kernel
theorem dL_law_707 : decode cL_law 707 = .ok (.i2l, 1) := by decide +kernel
theorem dL_law_708 : decode cL_law 708 = .ok (.bipush 32, 2) := by decide +kernel
theorem dL_law_710 : decode cL_law 710 = .ok (.lshl, 1) := by decide +kernel
theorem dL_law_711 : decode cL_law 711 = .ok (.aload_n 0, 1) := by decide +kernel
theorem dL_law_712 : decode cL_law 712 = .ok (.iload 4, 2) := by decide +kernel
theorem dL_law_714 : decode cL_law 714 = .ok (.iconst 5, 1) := by decide +kernel
theorem dL_law_715 : decode cL_law 715 = .ok (.iadd, 1) := by decide +kernel
theorem dL_law_716 : decode cL_law 716 = .ok (.iaload, 1) := by decide +kernel
theorem dL_law_717 : decode cL_law 717 = .ok (.i2l, 1) := by decide +kernel
theorem dL_law_718 : decode cL_law 718 = .ok (.ldc2_w 81, 3) := by decide +kernel
theorem dL_law_721 : decode cL_law 721 = .ok (.land, 1) := by decide +kernel
theorem dL_law_722 : decode cL_law 722 = .ok (.lor, 1) := by decide +kernel
theorem dL_law_723 : decode cL_law 723 = .ok (.aload_n 0, 1) := by decide +kernel
theorem dL_law_724 : decode cL_law 724 = .ok (.iload 4, 2) := by decide +kernel
theorem dL_law_726 : decode cL_law 726 = .ok (.bipush 6, 2) := by decide +kernel
theorem dL_law_728 : decode cL_law 728 = .ok (.iadd, 1) := by decide +kernel
theorem dL_law_729 : decode cL_law 729 = .ok (.iaload, 1) := by decide +kernel
theorem dL_law_730 : decode cL_law 730 = .ok (.invokevirtual 83, 3) := by decide +kernel
theorem dL_law_733 : decode cL_law 733 = .ok (.aload_n 2, 1) := by decide +kernel
theorem dL_law_734 : decode cL_law 734 = .ok (.aload_n 0, 1) := by decide +kernel
theorem dL_law_735 : decode cL_law 735 = .ok (.iload 4, 2) := by decide +kernel
theorem dL_law_737 : decode cL_law 737 = .ok (.iconst 1, 1) := by decide +kernel
theorem dL_law_738 : decode cL_law 738 = .ok (.iadd, 1) := by decide +kernel
theorem dL_law_739 : decode cL_law 739 = .ok (.iaload, 1) := by decide +kernel
theorem dL_law_740 : decode cL_law 740 = .ok (.aload_n 0, 1) := by decide +kernel
theorem dL_law_741 : decode cL_law 741 = .ok (.iload 4, 2) := by decide +kernel
theorem dL_law_743 : decode cL_law 743 = .ok (.iconst 2, 1) := by decide +kernel
theorem dL_law_744 : decode cL_law 744 = .ok (.iadd, 1) := by decide +kernel
theorem dL_law_745 : decode cL_law 745 = .ok (.iaload, 1) := by decide +kernel
theorem dL_law_746 : decode cL_law 746 = .ok (.i2l, 1) := by decide +kernel
theorem dL_law_747 : decode cL_law 747 = .ok (.bipush 32, 2) := by decide +kernel
theorem dL_law_749 : decode cL_law 749 = .ok (.lshl, 1) := by decide +kernel
theorem dL_law_750 : decode cL_law 750 = .ok (.aload_n 0, 1) := by decide +kernel
theorem dL_law_751 : decode cL_law 751 = .ok (.iload 4, 2) := by decide +kernel
theorem dL_law_753 : decode cL_law 753 = .ok (.iconst 3, 1) := by decide +kernel
theorem dL_law_754 : decode cL_law 754 = .ok (.iadd, 1) := by decide +kernel
theorem dL_law_755 : decode cL_law 755 = .ok (.iaload, 1) := by decide +kernel
theorem dL_law_756 : decode cL_law 756 = .ok (.i2l, 1) := by decide +kernel
theorem dL_law_757 : decode cL_law 757 = .ok (.ldc2_w 81, 3) := by decide +kernel
theorem dL_law_760 : decode cL_law 760 = .ok (.land, 1) := by decide +kernel
theorem dL_law_761 : decode cL_law 761 = .ok (.lor, 1) := by decide +kernel
theorem dL_law_762 : decode cL_law 762 = .ok (.aload_n 0, 1) := by decide +kernel
theorem dL_law_763 : decode cL_law 763 = .ok (.iload 4, 2) := by decide +kernel
theorem dL_law_765 : decode cL_law 765 = .ok (.iconst 4, 1) := by decide +kernel
theorem dL_law_766 : decode cL_law 766 = .ok (.iadd, 1) := by decide +kernel
theorem dL_law_767 : decode cL_law 767 = .ok (.iaload, 1) := by decide +kernel
theorem dL_law_768 : decode cL_law 768 = .ok (.i2l, 1) := by decide +kernel
theorem dL_law_769 : decode cL_law 769 = .ok (.bipush 32, 2) := by decide +kernel
theorem dL_law_771 : decode cL_law 771 = .ok (.lshl, 1) := by decide +kernel
theorem dL_law_772 : decode cL_law 772 = .ok (.aload_n 0, 1) := by decide +kernel
theorem dL_law_773 : decode cL_law 773 = .ok (.iload 4, 2) := by decide +kernel
theorem dL_law_775 : decode cL_law 775 = .ok (.iconst 5, 1) := by decide +kernel
theorem dL_law_776 : decode cL_law 776 = .ok (.iadd, 1) := by decide +kernel
theorem dL_law_777 : decode cL_law 777 = .ok (.iaload, 1) := by decide +kernel
theorem dL_law_778 : decode cL_law 778 = .ok (.i2l, 1) := by decide +kernel
theorem dL_law_779 : decode cL_law 779 = .ok (.ldc2_w 81, 3) := by decide +kernel
theorem dL_law_782 : decode cL_law 782 = .ok (.land, 1) := by decide +kernel
theorem dL_law_783 : decode cL_law 783 = .ok (.lor, 1) := by decide +kernel
theorem dL_law_784 : decode cL_law 784 = .ok (.aload_n 0, 1) := by decide +kernel
theorem dL_law_785 : decode cL_law 785 = .ok (.iload 4, 2) := by decide +kernel
theorem dL_law_787 : decode cL_law 787 = .ok (.bipush 6, 2) := by decide +kernel
theorem dL_law_789 : decode cL_law 789 = .ok (.iadd, 1) := by decide +kernel
theorem dL_law_790 : decode cL_law 790 = .ok (.iaload, 1) := by decide +kernel
theorem dL_law_791 : decode cL_law 791 = .ok (.invokevirtual 87, 3) := by decide +kernel
theorem dL_law_794 : decode cL_law 794 = .ok (.if_icmp .eq 688, 3) := by decide +kernel
theorem dL_law_799 : decode cL_law 799 = .ok (.aload_n 1, 1) := by decide +kernel
theorem dL_law_800 : decode cL_law 800 = .ok (.aload_n 0, 1) := by decide +kernel
theorem dL_law_801 : decode cL_law 801 = .ok (.iload 4, 2) := by decide +kernel
theorem dL_law_803 : decode cL_law 803 = .ok (.iconst 1, 1) := by decide +kernel
theorem dL_law_804 : decode cL_law 804 = .ok (.iadd, 1) := by decide +kernel
theorem dL_law_805 : decode cL_law 805 = .ok (.iaload, 1) := by decide +kernel
theorem dL_law_806 : decode cL_law 806 = .ok (.aload_n 0, 1) := by decide +kernel
theorem dL_law_807 : decode cL_law 807 = .ok (.iload 4, 2) := by decide +kernel
theorem dL_law_809 : decode cL_law 809 = .ok (.iconst 2, 1) := by decide +kernel
theorem dL_law_810 : decode cL_law 810 = .ok (.iadd, 1) := by decide +kernel
theorem dL_law_811 : decode cL_law 811 = .ok (.iaload, 1) := by decide +kernel
theorem dL_law_812 : decode cL_law 812 = .ok (.aload_n 0, 1) := by decide +kernel
theorem dL_law_813 : decode cL_law 813 = .ok (.iload 4, 2) := by decide +kernel
theorem dL_law_815 : decode cL_law 815 = .ok (.iconst 3, 1) := by decide +kernel
theorem dL_law_816 : decode cL_law 816 = .ok (.iadd, 1) := by decide +kernel
theorem dL_law_817 : decode cL_law 817 = .ok (.iaload, 1) := by decide +kernel
theorem dL_law_818 : decode cL_law 818 = .ok (.aload_n 0, 1) := by decide +kernel
theorem dL_law_819 : decode cL_law 819 = .ok (.iload 4, 2) := by decide +kernel
theorem dL_law_821 : decode cL_law 821 = .ok (.iconst 4, 1) := by decide +kernel
theorem dL_law_822 : decode cL_law 822 = .ok (.iadd, 1) := by decide +kernel
theorem dL_law_823 : decode cL_law 823 = .ok (.iaload, 1) := by decide +kernel
theorem dL_law_824 : decode cL_law 824 = .ok (.aload_n 0, 1) := by decide +kernel
theorem dL_law_825 : decode cL_law 825 = .ok (.iload 4, 2) := by decide +kernel
theorem dL_law_827 : decode cL_law 827 = .ok (.iconst 5, 1) := by decide +kernel
theorem dL_law_828 : decode cL_law 828 = .ok (.iadd, 1) := by decide +kernel
theorem dL_law_829 : decode cL_law 829 = .ok (.iaload, 1) := by decide +kernel
theorem dL_law_830 : decode cL_law 830 = .ok (.invokevirtual 88, 3) := by decide +kernel
theorem dL_law_833 : decode cL_law 833 = .ok (.aload_n 2, 1) := by decide +kernel
theorem dL_law_834 : decode cL_law 834 = .ok (.aload_n 0, 1) := by decide +kernel
theorem dL_law_835 : decode cL_law 835 = .ok (.iload 4, 2) := by decide +kernel
theorem dL_law_837 : decode cL_law 837 = .ok (.iconst 1, 1) := by decide +kernel
theorem dL_law_838 : decode cL_law 838 = .ok (.iadd, 1) := by decide +kernel
theorem dL_law_839 : decode cL_law 839 = .ok (.iaload, 1) := by decide +kernel
theorem dL_law_840 : decode cL_law 840 = .ok (.aload_n 0, 1) := by decide +kernel
theorem dL_law_841 : decode cL_law 841 = .ok (.iload 4, 2) := by decide +kernel
theorem dL_law_843 : decode cL_law 843 = .ok (.iconst 2, 1) := by decide +kernel
theorem dL_law_844 : decode cL_law 844 = .ok (.iadd, 1) := by decide +kernel
theorem dL_law_845 : decode cL_law 845 = .ok (.iaload, 1) := by decide +kernel
theorem dL_law_846 : decode cL_law 846 = .ok (.aload_n 0, 1) := by decide +kernel
theorem dL_law_847 : decode cL_law 847 = .ok (.iload 4, 2) := by decide +kernel
theorem dL_law_849 : decode cL_law 849 = .ok (.iconst 3, 1) := by decide +kernel
theorem dL_law_850 : decode cL_law 850 = .ok (.iadd, 1) := by decide +kernel
theorem dL_law_851 : decode cL_law 851 = .ok (.iaload, 1) := by decide +kernel
theorem dL_law_852 : decode cL_law 852 = .ok (.aload_n 0, 1) := by decide +kernel
theorem dL_law_853 : decode cL_law 853 = .ok (.iload 4, 2) := by decide +kernel
theorem dL_law_855 : decode cL_law 855 = .ok (.iconst 4, 1) := by decide +kernel
theorem dL_law_856 : decode cL_law 856 = .ok (.iadd, 1) := by decide +kernel
theorem dL_law_857 : decode cL_law 857 = .ok (.iaload, 1) := by decide +kernel
theorem dL_law_858 : decode cL_law 858 = .ok (.aload_n 0, 1) := by decide +kernel
theorem dL_law_859 : decode cL_law 859 = .ok (.iload 4, 2) := by decide +kernel
theorem dL_law_861 : decode cL_law 861 = .ok (.iconst 5, 1) := by decide +kernel
theorem dL_law_862 : decode cL_law 862 = .ok (.iadd, 1) := by decide +kernel
theorem dL_law_863 : decode cL_law 863 = .ok (.iaload, 1) := by decide +kernel
theorem dL_law_864 : decode cL_law 864 = .ok (.invokevirtual 92, 3) := by decide +kernel
theorem dL_law_867 : decode cL_law 867 = .ok (.lcmp, 1) := by decide +kernel
theorem dL_law_868 : decode cL_law 868 = .ok (.ifCond .eq 614, 3) := by decide +kernel
theorem dL_law_873 : decode cL_law 873 = .ok (.aload_n 1, 1) := by decide +kernel
theorem dL_law_874 : decode cL_law 874 = .ok (.aload_n 0, 1) := by decide +kernel
theorem dL_law_875 : decode cL_law 875 = .ok (.iload 4, 2) := by decide +kernel
theorem dL_law_877 : decode cL_law 877 = .ok (.iconst 1, 1) := by decide +kernel
theorem dL_law_878 : decode cL_law 878 = .ok (.iadd, 1) := by decide +kernel
theorem dL_law_879 : decode cL_law 879 = .ok (.iaload, 1) := by decide +kernel
theorem dL_law_880 : decode cL_law 880 = .ok (.aload_n 0, 1) := by decide +kernel
theorem dL_law_881 : decode cL_law 881 = .ok (.iload 4, 2) := by decide +kernel
theorem dL_law_883 : decode cL_law 883 = .ok (.iconst 2, 1) := by decide +kernel
theorem dL_law_884 : decode cL_law 884 = .ok (.iadd, 1) := by decide +kernel
theorem dL_law_885 : decode cL_law 885 = .ok (.iaload, 1) := by decide +kernel
theorem dL_law_886 : decode cL_law 886 = .ok (.aload_n 0, 1) := by decide +kernel
theorem dL_law_887 : decode cL_law 887 = .ok (.iload 4, 2) := by decide +kernel
theorem dL_law_889 : decode cL_law 889 = .ok (.iconst 3, 1) := by decide +kernel
theorem dL_law_890 : decode cL_law 890 = .ok (.iadd, 1) := by decide +kernel
theorem dL_law_891 : decode cL_law 891 = .ok (.iaload, 1) := by decide +kernel
theorem dL_law_892 : decode cL_law 892 = .ok (.invokevirtual 93, 3) := by decide +kernel
theorem dL_law_895 : decode cL_law 895 = .ok (.aload_n 2, 1) := by decide +kernel
theorem dL_law_896 : decode cL_law 896 = .ok (.aload_n 0, 1) := by decide +kernel
theorem dL_law_897 : decode cL_law 897 = .ok (.iload 4, 2) := by decide +kernel
theorem dL_law_899 : decode cL_law 899 = .ok (.iconst 1, 1) := by decide +kernel
theorem dL_law_900 : decode cL_law 900 = .ok (.iadd, 1) := by decide +kernel
theorem dL_law_901 : decode cL_law 901 = .ok (.iaload, 1) := by decide +kernel
theorem dL_law_902 : decode cL_law 902 = .ok (.aload_n 0, 1) := by decide +kernel
theorem dL_law_903 : decode cL_law 903 = .ok (.iload 4, 2) := by decide +kernel
theorem dL_law_905 : decode cL_law 905 = .ok (.iconst 2, 1) := by decide +kernel
theorem dL_law_906 : decode cL_law 906 = .ok (.iadd, 1) := by decide +kernel
theorem dL_law_907 : decode cL_law 907 = .ok (.iaload, 1) := by decide +kernel
theorem dL_law_908 : decode cL_law 908 = .ok (.aload_n 0, 1) := by decide +kernel
theorem dL_law_909 : decode cL_law 909 = .ok (.iload 4, 2) := by decide +kernel
theorem dL_law_911 : decode cL_law 911 = .ok (.iconst 3, 1) := by decide +kernel
theorem dL_law_912 : decode cL_law 912 = .ok (.iadd, 1) := by decide +kernel
theorem dL_law_913 : decode cL_law 913 = .ok (.iaload, 1) := by decide +kernel
theorem dL_law_914 : decode cL_law 914 = .ok (.invokevirtual 97, 3) := by decide +kernel
theorem dL_law_917 : decode cL_law 917 = .ok (.if_icmp .eq 565, 3) := by decide +kernel
set_option maxHeartbeats 4000000 in
set_option maxRecDepth 100000 in
theorem law_op_12 {p : Program} {l : Launch} {e : Env} {s : State} {m : MethodId} {below : List Frame} {meth : Method} {c : Code} {dC : Nat → ClassId} {dI : Nat → Nat → Nat} {b : Nat} {xs : Nat → Int32} {A : Nat → Prop} (C0 : lw_At p s m meth c b 7 xs) (hA : ∀ q, s.heap.size ≤ q → A q) (hbA : ¬ A b) (hAo : ∀ q, A q → s.heap.size ≤ q) {xx : Nat} {rr : Nat} {ta : Nat} {tb : Nat} {pa : Nat} {pb : Nat} {cn : Nat} {ci : Nat} {cp : Nat} {ct : Nat} {hs : Nat} {rd : Nat} {wy : Nat} {ea : Nat} {eb : Nat} {ta_name : Nat} {ta_first : Nat} {ta_gain : Nat} {ta_rough : Nat} {ta_custom : Nat} {ta_part : Nat} {ta_whole : Nat} {ta_roundPerson : Nat} {ta_roundClock : Nat} {ta_roundHour : Nat} {ta_gunClock : Nat} {ta_gunHour : Nat} {tau : Nat} {mm : Nat} {mm_tape : Nat} {mm_number : Nat} {mm_clockName : Nat} {mm_clockOff : Nat} {mm_clockGain : Nat} {mm_clockRough : Nat} {mm_personName : Nat} {mm_personOff : Nat} {mm_personGain : Nat} {mm_personRough : Nat} {mm_custom : Nat} {mm_customA : Nat} {mm_customB : Nat} {mm_ruleFrom : Nat} {mm_ruleTo : Nat} {mm_roundOf : Nat} {mm_roundAt : Nat} {mm_roundHour : Nat} {mm_gunAt : Nat} {mm_gunHour : Nat} {mm_knotSort : Nat} {mm_knotValue : Nat} {mm_start : Nat} {mm_off : Nat} {mm_last : Nat} {mm_passed : Nat} {mm_kept : Nat} {mm_keptMany : Nat} {mm_history : Nat} {mm_names : Nat} {mm_worked : Nat} {mm_readThing : Nat} {mm_readHour : Nat} {mm_readLow : Nat} {mm_readHigh : Nat} {mm_imageOff : Nat} {mm_imageLast : Nat} {mm_imagePassed : Nat} {mm_imageKept : Nat} {mm_imageMany : Nat} {mm_imageHistory : Nat} {k_mm_number : ClassId} {oo : Nat} {H : Heap} {locs : List Loc} {ls : Array Slot} (hK : va_K (dC, dI) vwCl [(k_mm_number, .int)] s) (hP : va_P (dC, dI) vwCl [(xx, .inr (10, [.ref rr, .ref ta, .ref tb, .ref pa, .ref pb, .ref cn, .ref ci, .int 0, .ref cp, .ref ct, .ref hs, .ref rd, .ref wy, .ref ea, .ref eb])), (ta, .inr (8, [.int 0, .int 0, .int 0, .int 0, .int 0, .ref ta_name, .ref ta_first, .ref ta_gain, .ref ta_rough, .ref ta_custom, .ref ta_part, .ref ta_whole, .ref ta_roundPerson, .ref ta_roundClock, .ref ta_roundHour, .ref ta_gunClock, .ref ta_gunHour, .ref tau])), (mm, .inr (11, [.int 0, .ref mm_tape, .int 0, .ref mm_number, .ref mm_clockName, .ref mm_clockOff, .ref mm_clockGain, .ref mm_clockRough, .ref mm_personName, .ref mm_personOff, .ref mm_personGain, .ref mm_personRough, .ref mm_custom, .ref mm_customA, .ref mm_customB, .ref mm_ruleFrom, .ref mm_ruleTo, .ref mm_roundOf, .ref mm_roundAt, .ref mm_roundHour, .ref mm_gunAt, .ref mm_gunHour, .ref mm_knotSort, .ref mm_knotValue, .int 0, .int 0, .int 0, .int 0, .int 0, .int 0, .int 0, .int 0, .int 0, .int (-1), .int 0, .int 0, .int 0, .int 0, .int 0, .int 0, .int 0, .int 0, .int 0, .int 0, .int 0, .int 0, .ref mm_start, .ref mm_off, .ref mm_last, .ref mm_passed, .ref mm_kept, .ref mm_keptMany, .int 0, .int 0, .ref mm_history, .ref mm_names, .ref mm_worked, .int 0, .int 0, .int (-1), .ref mm_readThing, .ref mm_readHour, .ref mm_readLow, .ref mm_readHigh, .int 0, .int 0, .int 0, .ref mm_imageOff, .ref mm_imageLast, .ref mm_imagePassed, .ref mm_imageKept, .ref mm_imageMany, .ref mm_imageHistory])), (mm_number, .inl (k_mm_number, 10, .inl (fun _ => 0)))] H) (hD : va_D A [(xx, .inr (10, [.ref rr, .ref ta, .ref tb, .ref pa, .ref pb, .ref cn, .ref ci, .int 0, .ref cp, .ref ct, .ref hs, .ref rd, .ref wy, .ref ea, .ref eb])), (ta, .inr (8, [.int 0, .int 0, .int 0, .int 0, .int 0, .ref ta_name, .ref ta_first, .ref ta_gain, .ref ta_rough, .ref ta_custom, .ref ta_part, .ref ta_whole, .ref ta_roundPerson, .ref ta_roundClock, .ref ta_roundHour, .ref ta_gunClock, .ref ta_gunHour, .ref tau])), (mm, .inr (11, [.int 0, .ref mm_tape, .int 0, .ref mm_number, .ref mm_clockName, .ref mm_clockOff, .ref mm_clockGain, .ref mm_clockRough, .ref mm_personName, .ref mm_personOff, .ref mm_personGain, .ref mm_personRough, .ref mm_custom, .ref mm_customA, .ref mm_customB, .ref mm_ruleFrom, .ref mm_ruleTo, .ref mm_roundOf, .ref mm_roundAt, .ref mm_roundHour, .ref mm_gunAt, .ref mm_gunHour, .ref mm_knotSort, .ref mm_knotValue, .int 0, .int 0, .int 0, .int 0, .int 0, .int 0, .int 0, .int 0, .int 0, .int (-1), .int 0, .int 0, .int 0, .int 0, .int 0, .int 0, .int 0, .int 0, .int 0, .int 0, .int 0, .int 0, .ref mm_start, .ref mm_off, .ref mm_last, .ref mm_passed, .ref mm_kept, .ref mm_keptMany, .int 0, .int 0, .ref mm_history, .ref mm_names, .ref mm_worked, .int 0, .int 0, .int (-1), .ref mm_readThing, .ref mm_readHour, .ref mm_readLow, .ref mm_readHigh, .int 0, .int 0, .int 0, .ref mm_imageOff, .ref mm_imageLast, .ref mm_imagePassed, .ref mm_imageKept, .ref mm_imageMany, .ref mm_imageHistory])), (mm_number, .inl (k_mm_number, 10, .inl (fun _ => 0)))]) (hS : va_S A s.heap H locs) (hl : lv_has ls 7 [(4, .int 0), (3, .ref oo), (2, .ref mm), (1, .ref xx), (0, .ref b)]) : W p l e room_1 s m #[Value.ref b] below meth c H locs 160 67979 (lw_Z below #[Value.ref b] s) (F0 m 635 ls []) := by
  obtain ⟨hx, hb, hr, hml, hown, hts, hX, hbl, hlocks, hgv⟩ := C0
  have hT : ∀ w ∈ pw_T, w.before #[Value.ref b] s = true := fun w h => hts w (List.mem_filter.mp h).1
  have hown : s.vm.findClass RL = some m.cls := hown
  refine lv_aload_n hx hb dL_law_635 rfl (lv_at hl 3 rfl) ?_
  refine lv_aload_n hx hb dL_law_636 rfl (lv_at hl 4 rfl) ?_
  refine lv_iload hx hb dL_law_637 (lv_at hl 0 rfl) ?_
  refine lv_iconst (v := 1) hx hb dL_law_639 (by decide) ?_
  refine lv_iadd hx hb dL_law_640 ?_
  refine lv_topi (fun z_1 ez_1 => ?_)
  obtain rfl : z_1 = 1 := ez_1.trans (by decide)
  refine va_sld hx hb hX hbl hbA hS (pk_in 1 7 (by decide) (by decide) (by decide)) dL_law_641 ?_
  refine lv_topi (fun z_2 ez_2 => ?_)
  replace ez_2 : z_2 = xs 1 := ez_2
  subst z_2
  refine lv_aload_n hx hb dL_law_642 rfl (lv_at hl 4 rfl) ?_
  refine lv_iload hx hb dL_law_643 (lv_at hl 0 rfl) ?_
  refine lv_iconst (v := 2) hx hb dL_law_645 (by decide) ?_
  refine lv_iadd hx hb dL_law_646 ?_
  refine lv_topi (fun z_3 ez_3 => ?_)
  obtain rfl : z_3 = 2 := ez_3.trans (by decide)
  refine va_sld hx hb hX hbl hbA hS (pk_in 2 7 (by decide) (by decide) (by decide)) dL_law_647 ?_
  refine lv_topi (fun z_4 ez_4 => ?_)
  replace ez_4 : z_4 = xs 2 := ez_4
  subst z_4
  have hPc := hP.sub (ws' := [(xx, .inr (10, [.ref rr, .ref ta, .ref tb, .ref pa, .ref pb, .ref cn, .ref ci, .int 0, .ref cp, .ref ct, .ref hs, .ref rd, .ref wy, .ref ea, .ref eb])), (ta, .inr (8, [.int 0, .int 0, .int 0, .int 0, .int 0, .ref ta_name, .ref ta_first, .ref ta_gain, .ref ta_rough, .ref ta_custom, .ref ta_part, .ref ta_whole, .ref ta_roundPerson, .ref ta_roundClock, .ref ta_roundHour, .ref ta_gunClock, .ref ta_gunHour, .ref tau]))]) [0, 1] rfl
  have hDc := hD.sub (ws' := [(xx, .inr (10, [.ref rr, .ref ta, .ref tb, .ref pa, .ref pb, .ref cn, .ref ci, .int 0, .ref cp, .ref ct, .ref hs, .ref rd, .ref wy, .ref ea, .ref eb])), (ta, .inr (8, [.int 0, .int 0, .int 0, .int 0, .int 0, .ref ta_name, .ref ta_first, .ref ta_gain, .ref ta_rough, .ref ta_custom, .ref ta_part, .ref ta_whole, .ref ta_roundPerson, .ref ta_roundClock, .ref ta_roundHour, .ref ta_gunClock, .ref ta_gunHour, .ref tau]))]) [0, 1] (by decide) rfl
  have hKc := hK.sub (tys' := []) [] rfl
  have hFc := va_free (wc := [(xx, .inr (10, [.ref rr, .ref ta, .ref tb, .ref pa, .ref pb, .ref cn, .ref ci, .int 0, .ref cp, .ref ct, .ref hs, .ref rd, .ref wy, .ref ea, .ref eb])), (ta, .inr (8, [.int 0, .int 0, .int 0, .int 0, .int 0, .ref ta_name, .ref ta_first, .ref ta_gain, .ref ta_rough, .ref ta_custom, .ref ta_part, .ref ta_whole, .ref ta_roundPerson, .ref ta_roundClock, .ref ta_roundHour, .ref ta_gunClock, .ref ta_gunHour, .ref tau]))]) hD hS hA [0, 1] rfl
  refine va_calli (va_runV (As := [.int (xs 1), .int (xs 2)]) (rest := []) ⟨hx, hb, hml, hown, hT⟩ (c_X10_pass l dC dI H.size xx (xs 1) (xs 2) rr ta tb pa pb cn ci (0 : Int32) cp ct hs rd wy ea eb (0 : Int32) (0 : Int32) (0 : Int32) ta_name ta_first ta_gain ta_rough ta_custom ta_part ta_whole ta_roundPerson ta_roundClock ta_roundHour ta_gunClock ta_gunHour tau ) (cwV 2 hT (gwV mw_4_171 mw_4_172 mw_4_173 mw_1_1 mw_4_174) rfl rfl rfl (by decide +kernel) ⟨Nat.le_of_ble_eq_true rfl, Nat.le_of_ble_eq_true rfl⟩) ⟨fun a U g mk q => by obtain ⟨q0, q1, qP, qK, qD⟩ := q; exact ⟨q0, q1, qP, va_K.moved (u := U) (U := U.calling g mk a) (Vm.Alike.refl U.vm) qK, qD⟩, va_recv hK hP (ci := 10) (q0 := 0) rfl rfl, fun U hU hW => ⟨rfl, by rw [hU], by rw [hU]; exact hPc, va_K.moved hW.alike hKc, hDc.weaken (fun _ _ _ _ => trivial)⟩⟩ rfl rfl hl.1 rfl (lv_room (Nat.le_of_ble_eq_true rfl)) dL_law_648 ⟨Nat.le_of_ble_eq_true rfl, Nat.le_of_ble_eq_true rfl⟩) hS (fun q _ h => hFc q h) hFc (fun r_6 u t H1 locs ht hvm hw hB hz1 hk1 hS => ?_)
  obtain ⟨hP1, hD1⟩ := hB
  rw [ht] at hP1
  obtain ⟨hP, hD⟩ := va_join (wr := [(mm, .inr (11, [.int 0, .ref mm_tape, .int 0, .ref mm_number, .ref mm_clockName, .ref mm_clockOff, .ref mm_clockGain, .ref mm_clockRough, .ref mm_personName, .ref mm_personOff, .ref mm_personGain, .ref mm_personRough, .ref mm_custom, .ref mm_customA, .ref mm_customB, .ref mm_ruleFrom, .ref mm_ruleTo, .ref mm_roundOf, .ref mm_roundAt, .ref mm_roundHour, .ref mm_gunAt, .ref mm_gunHour, .ref mm_knotSort, .ref mm_knotValue, .int 0, .int 0, .int 0, .int 0, .int 0, .int 0, .int 0, .int 0, .int 0, .int (-1), .int 0, .int 0, .int 0, .int 0, .int 0, .int 0, .int 0, .int 0, .int 0, .int 0, .int 0, .int 0, .ref mm_start, .ref mm_off, .ref mm_last, .ref mm_passed, .ref mm_kept, .ref mm_keptMany, .int 0, .int 0, .ref mm_history, .ref mm_names, .ref mm_worked, .int 0, .int 0, .int (-1), .ref mm_readThing, .ref mm_readHour, .ref mm_readLow, .ref mm_readHigh, .int 0, .int 0, .int 0, .ref mm_imageOff, .ref mm_imageLast, .ref mm_imagePassed, .ref mm_imageKept, .ref mm_imageMany, .ref mm_imageHistory])), (mm_number, .inl (k_mm_number, 10, .inl (fun _ => 0)))]) (w1 := [(xx, .inr (10, [.ref rr, .ref ta, .ref tb, .ref pa, .ref pb, .ref cn, .ref ci, .int 0, .ref cp, .ref ct, .ref hs, .ref rd, .ref wy, .ref ea, .ref eb])), (ta, .inr (8, [.int 0, .int 0, .int 0, .int 0, .int 0, .ref ta_name, .ref ta_first, .ref ta_gain, .ref ta_rough, .ref ta_custom, .ref ta_part, .ref ta_whole, .ref ta_roundPerson, .ref ta_roundClock, .ref ta_roundHour, .ref ta_gunClock, .ref ta_gunHour, .ref tau]))]) hP hD [0, 1] [2, 3] rfl rfl (by decide) (by decide) hk1 hFc hP1 hD1
  generalize H1 = H at hP hS ⊢
  have hP : va_P (dC, dI) vwCl [(mm, .inr (11, [.int 0, .ref mm_tape, .int 0, .ref mm_number, .ref mm_clockName, .ref mm_clockOff, .ref mm_clockGain, .ref mm_clockRough, .ref mm_personName, .ref mm_personOff, .ref mm_personGain, .ref mm_personRough, .ref mm_custom, .ref mm_customA, .ref mm_customB, .ref mm_ruleFrom, .ref mm_ruleTo, .ref mm_roundOf, .ref mm_roundAt, .ref mm_roundHour, .ref mm_gunAt, .ref mm_gunHour, .ref mm_knotSort, .ref mm_knotValue, .int 0, .int 0, .int 0, .int 0, .int 0, .int 0, .int 0, .int 0, .int 0, .int (-1), .int 0, .int 0, .int 0, .int 0, .int 0, .int 0, .int 0, .int 0, .int 0, .int 0, .int 0, .int 0, .ref mm_start, .ref mm_off, .ref mm_last, .ref mm_passed, .ref mm_kept, .ref mm_keptMany, .int 0, .int 0, .ref mm_history, .ref mm_names, .ref mm_worked, .int 0, .int 0, .int (-1), .ref mm_readThing, .ref mm_readHour, .ref mm_readLow, .ref mm_readHigh, .int 0, .int 0, .int 0, .ref mm_imageOff, .ref mm_imageLast, .ref mm_imagePassed, .ref mm_imageKept, .ref mm_imageMany, .ref mm_imageHistory])), (mm_number, .inl (k_mm_number, 10, .inl (fun _ => 0))), (xx, .inr (10, [.ref rr, .ref ta, .ref tb, .ref pa, .ref pb, .ref cn, .ref ci, .int 0, .ref cp, .ref ct, .ref hs, .ref rd, .ref wy, .ref ea, .ref eb])), (ta, .inr (8, [.int 0, .int 0, .int 0, .int 0, .int 0, .ref ta_name, .ref ta_first, .ref ta_gain, .ref ta_rough, .ref ta_custom, .ref ta_part, .ref ta_whole, .ref ta_roundPerson, .ref ta_roundClock, .ref ta_roundHour, .ref ta_gunClock, .ref ta_gunHour, .ref tau]))] H := hP
  have hD : va_D A [(mm, .inr (11, [.int 0, .ref mm_tape, .int 0, .ref mm_number, .ref mm_clockName, .ref mm_clockOff, .ref mm_clockGain, .ref mm_clockRough, .ref mm_personName, .ref mm_personOff, .ref mm_personGain, .ref mm_personRough, .ref mm_custom, .ref mm_customA, .ref mm_customB, .ref mm_ruleFrom, .ref mm_ruleTo, .ref mm_roundOf, .ref mm_roundAt, .ref mm_roundHour, .ref mm_gunAt, .ref mm_gunHour, .ref mm_knotSort, .ref mm_knotValue, .int 0, .int 0, .int 0, .int 0, .int 0, .int 0, .int 0, .int 0, .int 0, .int (-1), .int 0, .int 0, .int 0, .int 0, .int 0, .int 0, .int 0, .int 0, .int 0, .int 0, .int 0, .int 0, .ref mm_start, .ref mm_off, .ref mm_last, .ref mm_passed, .ref mm_kept, .ref mm_keptMany, .int 0, .int 0, .ref mm_history, .ref mm_names, .ref mm_worked, .int 0, .int 0, .int (-1), .ref mm_readThing, .ref mm_readHour, .ref mm_readLow, .ref mm_readHigh, .int 0, .int 0, .int 0, .ref mm_imageOff, .ref mm_imageLast, .ref mm_imagePassed, .ref mm_imageKept, .ref mm_imageMany, .ref mm_imageHistory])), (mm_number, .inl (k_mm_number, 10, .inl (fun _ => 0))), (xx, .inr (10, [.ref rr, .ref ta, .ref tb, .ref pa, .ref pb, .ref cn, .ref ci, .int 0, .ref cp, .ref ct, .ref hs, .ref rd, .ref wy, .ref ea, .ref eb])), (ta, .inr (8, [.int 0, .int 0, .int 0, .int 0, .int 0, .ref ta_name, .ref ta_first, .ref ta_gain, .ref ta_rough, .ref ta_custom, .ref ta_part, .ref ta_whole, .ref ta_roundPerson, .ref ta_roundClock, .ref ta_roundHour, .ref ta_gunClock, .ref ta_gunHour, .ref tau]))] := hD
  clear hPc hDc hKc hFc hP1 hD1 hk1 hz1 ht hvm
  have hw : r_6 = -2147483648 := hw
  subst r_6
  refine lv_aload_n hx hb dL_law_651 rfl (lv_at hl 2 rfl) ?_
  refine lv_aload_n hx hb dL_law_652 rfl (lv_at hl 4 rfl) ?_
  refine lv_iload hx hb dL_law_653 (lv_at hl 0 rfl) ?_
  refine lv_iconst (v := 1) hx hb dL_law_655 (by decide) ?_
  refine lv_iadd hx hb dL_law_656 ?_
  refine lv_topi (fun z_7 ez_7 => ?_)
  obtain rfl : z_7 = 1 := ez_7.trans (by decide)
  refine va_sld hx hb hX hbl hbA hS (pk_in 1 7 (by decide) (by decide) (by decide)) dL_law_657 ?_
  refine lv_topi (fun z_8 ez_8 => ?_)
  replace ez_8 : z_8 = xs 1 := ez_8
  subst z_8
  refine lv_aload_n hx hb dL_law_658 rfl (lv_at hl 4 rfl) ?_
  refine lv_iload hx hb dL_law_659 (lv_at hl 0 rfl) ?_
  refine lv_iconst (v := 2) hx hb dL_law_661 (by decide) ?_
  refine lv_iadd hx hb dL_law_662 ?_
  refine lv_topi (fun z_9 ez_9 => ?_)
  obtain rfl : z_9 = 2 := ez_9.trans (by decide)
  refine va_sld hx hb hX hbl hbA hS (pk_in 2 7 (by decide) (by decide) (by decide)) dL_law_663 ?_
  refine lv_topi (fun z_10 ez_10 => ?_)
  replace ez_10 : z_10 = xs 2 := ez_10
  subst z_10
  have hPc := hP.sub (ws' := [(mm, .inr (11, [.int 0, .ref mm_tape, .int 0, .ref mm_number, .ref mm_clockName, .ref mm_clockOff, .ref mm_clockGain, .ref mm_clockRough, .ref mm_personName, .ref mm_personOff, .ref mm_personGain, .ref mm_personRough, .ref mm_custom, .ref mm_customA, .ref mm_customB, .ref mm_ruleFrom, .ref mm_ruleTo, .ref mm_roundOf, .ref mm_roundAt, .ref mm_roundHour, .ref mm_gunAt, .ref mm_gunHour, .ref mm_knotSort, .ref mm_knotValue, .int 0, .int 0, .int 0, .int 0, .int 0, .int 0, .int 0, .int 0, .int 0, .int (-1), .int 0, .int 0, .int 0, .int 0, .int 0, .int 0, .int 0, .int 0, .int 0, .int 0, .int 0, .int 0, .ref mm_start, .ref mm_off, .ref mm_last, .ref mm_passed, .ref mm_kept, .ref mm_keptMany, .int 0, .int 0, .ref mm_history, .ref mm_names, .ref mm_worked, .int 0, .int 0, .int (-1), .ref mm_readThing, .ref mm_readHour, .ref mm_readLow, .ref mm_readHigh, .int 0, .int 0, .int 0, .ref mm_imageOff, .ref mm_imageLast, .ref mm_imagePassed, .ref mm_imageKept, .ref mm_imageMany, .ref mm_imageHistory])), (mm_number, .inl (k_mm_number, 10, .inl (fun _ => 0)))]) [0, 1] rfl
  have hDc := hD.sub (ws' := [(mm, .inr (11, [.int 0, .ref mm_tape, .int 0, .ref mm_number, .ref mm_clockName, .ref mm_clockOff, .ref mm_clockGain, .ref mm_clockRough, .ref mm_personName, .ref mm_personOff, .ref mm_personGain, .ref mm_personRough, .ref mm_custom, .ref mm_customA, .ref mm_customB, .ref mm_ruleFrom, .ref mm_ruleTo, .ref mm_roundOf, .ref mm_roundAt, .ref mm_roundHour, .ref mm_gunAt, .ref mm_gunHour, .ref mm_knotSort, .ref mm_knotValue, .int 0, .int 0, .int 0, .int 0, .int 0, .int 0, .int 0, .int 0, .int 0, .int (-1), .int 0, .int 0, .int 0, .int 0, .int 0, .int 0, .int 0, .int 0, .int 0, .int 0, .int 0, .int 0, .ref mm_start, .ref mm_off, .ref mm_last, .ref mm_passed, .ref mm_kept, .ref mm_keptMany, .int 0, .int 0, .ref mm_history, .ref mm_names, .ref mm_worked, .int 0, .int 0, .int (-1), .ref mm_readThing, .ref mm_readHour, .ref mm_readLow, .ref mm_readHigh, .int 0, .int 0, .int 0, .ref mm_imageOff, .ref mm_imageLast, .ref mm_imagePassed, .ref mm_imageKept, .ref mm_imageMany, .ref mm_imageHistory])), (mm_number, .inl (k_mm_number, 10, .inl (fun _ => 0)))]) [0, 1] (by decide) rfl
  have hKc := hK.sub (tys' := [(k_mm_number, .int)]) [0] rfl
  have hFc := va_free (wc := [(mm, .inr (11, [.int 0, .ref mm_tape, .int 0, .ref mm_number, .ref mm_clockName, .ref mm_clockOff, .ref mm_clockGain, .ref mm_clockRough, .ref mm_personName, .ref mm_personOff, .ref mm_personGain, .ref mm_personRough, .ref mm_custom, .ref mm_customA, .ref mm_customB, .ref mm_ruleFrom, .ref mm_ruleTo, .ref mm_roundOf, .ref mm_roundAt, .ref mm_roundHour, .ref mm_gunAt, .ref mm_gunHour, .ref mm_knotSort, .ref mm_knotValue, .int 0, .int 0, .int 0, .int 0, .int 0, .int 0, .int 0, .int 0, .int 0, .int (-1), .int 0, .int 0, .int 0, .int 0, .int 0, .int 0, .int 0, .int 0, .int 0, .int 0, .int 0, .int 0, .ref mm_start, .ref mm_off, .ref mm_last, .ref mm_passed, .ref mm_kept, .ref mm_keptMany, .int 0, .int 0, .ref mm_history, .ref mm_names, .ref mm_worked, .int 0, .int 0, .int (-1), .ref mm_readThing, .ref mm_readHour, .ref mm_readLow, .ref mm_readHigh, .int 0, .int 0, .int 0, .ref mm_imageOff, .ref mm_imageLast, .ref mm_imagePassed, .ref mm_imageKept, .ref mm_imageMany, .ref mm_imageHistory])), (mm_number, .inl (k_mm_number, 10, .inl (fun _ => 0)))]) hD hS hA [0, 1] rfl
  have := (by decide : (0 : Int32).toInt = 0)
  have := (by decide : (0 : Int32).toInt = 0)
  have := (by decide : (0 : Int32).toInt = 0)
  have := (by decide : (0 : Int32).toInt = 0)
  have := (by decide : (0 : Int32).toInt = 0)
  have := (by decide : (0 : Int32).toInt = 0)
  have := (by decide : (0 : Int32).toInt = 0)
  have := (by decide : (0 : Int32).toInt = 0)
  have := (by decide : (0 : Int32).toInt = 0)
  have := (by decide : (0 : Int32).toInt = 0)
  have := (by decide : (0 : Int32).toInt = 0)
  have := (by decide : ((-1) : Int32).toInt = -1)
  have := (by decide : (0 : Int32).toInt = 0)
  have := (by decide : (0 : Int32).toInt = 0)
  have := (by decide : (0 : Int32).toInt = 0)
  have := (by decide : (0 : Int32).toInt = 0)
  have := (by decide : (0 : Int32).toInt = 0)
  have := (by decide : (0 : Int32).toInt = 0)
  have := (by decide : (0 : Int32).toInt = 0)
  have := (by decide : (0 : Int32).toInt = 0)
  have := (by decide : (0 : Int32).toInt = 0)
  have := (by decide : (0 : Int32).toInt = 0)
  have := (by decide : (0 : Int32).toInt = 0)
  have := (by decide : (0 : Int32).toInt = 0)
  have := (by decide : (0 : Int32).toInt = 0)
  have := (by decide : (0 : Int32).toInt = 0)
  have := (by decide : (0 : Int32).toInt = 0)
  have := (by decide : (0 : Int32).toInt = 0)
  have := (by decide : ((-1) : Int32).toInt = -1)
  have := (by decide : (0 : Int32).toInt = 0)
  have := (by decide : (0 : Int32).toInt = 0)
  have := (by decide : (0 : Int32).toInt = 0)
  refine va_calli (va_runV (As := [.int (xs 1), .int (xs 2)]) (rest := [.int (-2147483648)]) ⟨hx, hb, hml, hown, hT⟩ (c_X11_pass l dC dI H.size mm (xs 1) (xs 2) (0 : Int32) mm_tape (0 : Int32) mm_number mm_clockName mm_clockOff mm_clockGain mm_clockRough mm_personName mm_personOff mm_personGain mm_personRough mm_custom mm_customA mm_customB mm_ruleFrom mm_ruleTo mm_roundOf mm_roundAt mm_roundHour mm_gunAt mm_gunHour mm_knotSort mm_knotValue (0 : Int32) (0 : Int32) (0 : Int32) (0 : Int32) (0 : Int32) (0 : Int32) (0 : Int32) (0 : Int32) (0 : Int32) ((-1) : Int32) (0 : Int32) (0 : Int32) (0 : Int32) (0 : Int32) (0 : Int32) (0 : Int32) (0 : Int32) (0 : Int32) (0 : Int32) (0 : Int32) (0 : Int32) (0 : Int32) mm_start mm_off mm_last mm_passed mm_kept mm_keptMany (0 : Int32) (0 : Int32) mm_history mm_names mm_worked (0 : Int32) (0 : Int32) ((-1) : Int32) mm_readThing mm_readHour mm_readLow mm_readHigh (0 : Int32) (0 : Int32) (0 : Int32) mm_imageOff mm_imageLast mm_imagePassed mm_imageKept mm_imageMany mm_imageHistory k_mm_number (fun _ => 0) (fun _ => rfl)) (cwV 2 hT (gwV mw_8_52 mw_8_53 mw_8_54 mw_1_16 mw_8_55) rfl rfl rfl (by decide +kernel) ⟨Nat.le_of_ble_eq_true rfl, Nat.le_of_ble_eq_true rfl⟩) ⟨fun a U g mk q => by obtain ⟨q0, q1, qP, qK, qD⟩ := q; exact ⟨q0, q1, qP, va_K.moved (u := U) (U := U.calling g mk a) (Vm.Alike.refl U.vm) qK, qD⟩, va_recv hK hP (ci := 11) (q0 := 0) rfl rfl, fun U hU hW => ⟨rfl, by rw [hU], by rw [hU]; exact hPc, va_K.moved hW.alike hKc, hDc.weaken (fun _ _ _ _ => trivial)⟩⟩ rfl rfl hl.1 rfl (lv_room (Nat.le_of_ble_eq_true rfl)) dL_law_664 ⟨Nat.le_of_ble_eq_true rfl, Nat.le_of_ble_eq_true rfl⟩) hS (fun q _ h => hFc q h) hFc (fun r_12 u t H1 locs ht hvm hw hB hz1 hk1 hS => ?_)
  obtain ⟨hP1, hD1⟩ := hB
  rw [ht] at hP1
  obtain ⟨hP, hD⟩ := va_join (wr := [(xx, .inr (10, [.ref rr, .ref ta, .ref tb, .ref pa, .ref pb, .ref cn, .ref ci, .int 0, .ref cp, .ref ct, .ref hs, .ref rd, .ref wy, .ref ea, .ref eb])), (ta, .inr (8, [.int 0, .int 0, .int 0, .int 0, .int 0, .ref ta_name, .ref ta_first, .ref ta_gain, .ref ta_rough, .ref ta_custom, .ref ta_part, .ref ta_whole, .ref ta_roundPerson, .ref ta_roundClock, .ref ta_roundHour, .ref ta_gunClock, .ref ta_gunHour, .ref tau]))]) (w1 := [(mm, .inr (11, [.int 0, .ref mm_tape, .int 0, .ref mm_number, .ref mm_clockName, .ref mm_clockOff, .ref mm_clockGain, .ref mm_clockRough, .ref mm_personName, .ref mm_personOff, .ref mm_personGain, .ref mm_personRough, .ref mm_custom, .ref mm_customA, .ref mm_customB, .ref mm_ruleFrom, .ref mm_ruleTo, .ref mm_roundOf, .ref mm_roundAt, .ref mm_roundHour, .ref mm_gunAt, .ref mm_gunHour, .ref mm_knotSort, .ref mm_knotValue, .int 0, .int 0, .int 0, .int 0, .int 0, .int 0, .int 0, .int 0, .int 0, .int (-1), .int 0, .int 0, .int 0, .int 0, .int 0, .int 0, .int 0, .int 0, .int 0, .int 0, .int 0, .int 0, .ref mm_start, .ref mm_off, .ref mm_last, .ref mm_passed, .ref mm_kept, .ref mm_keptMany, .int 0, .int 0, .ref mm_history, .ref mm_names, .ref mm_worked, .int 0, .int 0, .int (-1), .ref mm_readThing, .ref mm_readHour, .ref mm_readLow, .ref mm_readHigh, .int 0, .int 0, .int 0, .ref mm_imageOff, .ref mm_imageLast, .ref mm_imagePassed, .ref mm_imageKept, .ref mm_imageMany, .ref mm_imageHistory])), (mm_number, .inl (k_mm_number, 10, .inl (fun _ => 0)))]) hP hD [0, 1] [2, 3] rfl rfl (by decide) (by decide) hk1 hFc hP1 hD1
  generalize H1 = H at hP hS ⊢
  have hP : va_P (dC, dI) vwCl [(xx, .inr (10, [.ref rr, .ref ta, .ref tb, .ref pa, .ref pb, .ref cn, .ref ci, .int 0, .ref cp, .ref ct, .ref hs, .ref rd, .ref wy, .ref ea, .ref eb])), (ta, .inr (8, [.int 0, .int 0, .int 0, .int 0, .int 0, .ref ta_name, .ref ta_first, .ref ta_gain, .ref ta_rough, .ref ta_custom, .ref ta_part, .ref ta_whole, .ref ta_roundPerson, .ref ta_roundClock, .ref ta_roundHour, .ref ta_gunClock, .ref ta_gunHour, .ref tau])), (mm, .inr (11, [.int 0, .ref mm_tape, .int 0, .ref mm_number, .ref mm_clockName, .ref mm_clockOff, .ref mm_clockGain, .ref mm_clockRough, .ref mm_personName, .ref mm_personOff, .ref mm_personGain, .ref mm_personRough, .ref mm_custom, .ref mm_customA, .ref mm_customB, .ref mm_ruleFrom, .ref mm_ruleTo, .ref mm_roundOf, .ref mm_roundAt, .ref mm_roundHour, .ref mm_gunAt, .ref mm_gunHour, .ref mm_knotSort, .ref mm_knotValue, .int 0, .int 0, .int 0, .int 0, .int 0, .int 0, .int 0, .int 0, .int 0, .int (-1), .int 0, .int 0, .int 0, .int 0, .int 0, .int 0, .int 0, .int 0, .int 0, .int 0, .int 0, .int 0, .ref mm_start, .ref mm_off, .ref mm_last, .ref mm_passed, .ref mm_kept, .ref mm_keptMany, .int 0, .int 0, .ref mm_history, .ref mm_names, .ref mm_worked, .int 0, .int 0, .int (-1), .ref mm_readThing, .ref mm_readHour, .ref mm_readLow, .ref mm_readHigh, .int 0, .int 0, .int 0, .ref mm_imageOff, .ref mm_imageLast, .ref mm_imagePassed, .ref mm_imageKept, .ref mm_imageMany, .ref mm_imageHistory])), (mm_number, .inl (k_mm_number, 10, .inl (fun _ => 0)))] H := hP
  have hD : va_D A [(xx, .inr (10, [.ref rr, .ref ta, .ref tb, .ref pa, .ref pb, .ref cn, .ref ci, .int 0, .ref cp, .ref ct, .ref hs, .ref rd, .ref wy, .ref ea, .ref eb])), (ta, .inr (8, [.int 0, .int 0, .int 0, .int 0, .int 0, .ref ta_name, .ref ta_first, .ref ta_gain, .ref ta_rough, .ref ta_custom, .ref ta_part, .ref ta_whole, .ref ta_roundPerson, .ref ta_roundClock, .ref ta_roundHour, .ref ta_gunClock, .ref ta_gunHour, .ref tau])), (mm, .inr (11, [.int 0, .ref mm_tape, .int 0, .ref mm_number, .ref mm_clockName, .ref mm_clockOff, .ref mm_clockGain, .ref mm_clockRough, .ref mm_personName, .ref mm_personOff, .ref mm_personGain, .ref mm_personRough, .ref mm_custom, .ref mm_customA, .ref mm_customB, .ref mm_ruleFrom, .ref mm_ruleTo, .ref mm_roundOf, .ref mm_roundAt, .ref mm_roundHour, .ref mm_gunAt, .ref mm_gunHour, .ref mm_knotSort, .ref mm_knotValue, .int 0, .int 0, .int 0, .int 0, .int 0, .int 0, .int 0, .int 0, .int 0, .int (-1), .int 0, .int 0, .int 0, .int 0, .int 0, .int 0, .int 0, .int 0, .int 0, .int 0, .int 0, .int 0, .ref mm_start, .ref mm_off, .ref mm_last, .ref mm_passed, .ref mm_kept, .ref mm_keptMany, .int 0, .int 0, .ref mm_history, .ref mm_names, .ref mm_worked, .int 0, .int 0, .int (-1), .ref mm_readThing, .ref mm_readHour, .ref mm_readLow, .ref mm_readHigh, .int 0, .int 0, .int 0, .ref mm_imageOff, .ref mm_imageLast, .ref mm_imagePassed, .ref mm_imageKept, .ref mm_imageMany, .ref mm_imageHistory])), (mm_number, .inl (k_mm_number, 10, .inl (fun _ => 0)))] := hD
  clear hPc hDc hKc hFc hP1 hD1 hk1 hz1 ht hvm
  have hw : r_12 = -2147483648 := hw
  subst r_12
  refine lv_icmp_eq (tgt := 1482) hx hb dL_law_667 (by decide) (fun c_13 => ?_) (fun c_13 => absurd c_13 (by decide))
  refine lv_iinc (v := 7) (lv' := [(4, .int 7), (3, .ref oo), (2, .ref mm), (1, .ref xx), (0, .ref b)]) hx hb dL_law_1482 hl (k := 0) rfl (by decide) (by decide) rfl (fun ls hl => ?_)
  refine lv_goto (tgt := 23) hx hb dL_law_1485 (by decide) ?_
  refine lv_iload hx hb dL_law_23 (lv_at hl 0 rfl) ?_
  refine lv_aload_n hx hb dL_law_25 rfl (lv_at hl 4 rfl) ?_
  refine va_slen hx hb hX hbl hbA hS dL_law_26 ?_
  refine lv_topi (fun z_14 ez_14 => ?_)
  obtain rfl : z_14 = 7 := ez_14.trans (by decide)
  refine lv_bipush (v := 7) hx hb dL_law_27 (by decide) ?_
  refine lv_isub hx hb dL_law_29 ?_
  refine lv_topi (fun z_15 ez_15 => ?_)
  obtain rfl : z_15 = 0 := ez_15.trans (by decide)
  refine lv_icmp_gt (tgt := 1488) hx hb dL_law_30 (by decide) (fun c_16 => ?_) (fun c_16 => absurd c_16 (by decide))
  refine lv_iconst (v := 1) hx hb dL_law_1488 (by decide) ?_
  refine va_forget (fun q hq => hAo _ (hS.2.2 q hq)) ?_
  refine W.widen (k := 600002) (n := 7302232) (Nat.le_of_ble_eq_true rfl) (Nat.le_of_ble_eq_true rfl) ?_
  exact lw_ret hx hb hr hlocks dL_law_1489
set_option maxHeartbeats 4000000 in
set_option maxRecDepth 100000 in
theorem law_op_13 {p : Program} {l : Launch} {e : Env} {s : State} {m : MethodId} {below : List Frame} {meth : Method} {c : Code} {dC : Nat → ClassId} {dI : Nat → Nat → Nat} {b : Nat} {xs : Nat → Int32} {A : Nat → Prop} (C0 : lw_At p s m meth c b 7 xs) (hA : ∀ q, s.heap.size ≤ q → A q) (hbA : ¬ A b) (hAo : ∀ q, A q → s.heap.size ≤ q) {xx : Nat} {rr : Nat} {ta : Nat} {tb : Nat} {pa : Nat} {pb : Nat} {cn : Nat} {ci : Nat} {cp : Nat} {ct : Nat} {hs : Nat} {rd : Nat} {wy : Nat} {ea : Nat} {eb : Nat} {ta_name : Nat} {ta_first : Nat} {ta_gain : Nat} {ta_rough : Nat} {ta_custom : Nat} {ta_part : Nat} {ta_whole : Nat} {ta_roundPerson : Nat} {ta_roundClock : Nat} {ta_roundHour : Nat} {ta_gunClock : Nat} {ta_gunHour : Nat} {tau : Nat} {mm : Nat} {mm_tape : Nat} {mm_number : Nat} {mm_clockName : Nat} {mm_clockOff : Nat} {mm_clockGain : Nat} {mm_clockRough : Nat} {mm_personName : Nat} {mm_personOff : Nat} {mm_personGain : Nat} {mm_personRough : Nat} {mm_custom : Nat} {mm_customA : Nat} {mm_customB : Nat} {mm_ruleFrom : Nat} {mm_ruleTo : Nat} {mm_roundOf : Nat} {mm_roundAt : Nat} {mm_roundHour : Nat} {mm_gunAt : Nat} {mm_gunHour : Nat} {mm_knotSort : Nat} {mm_knotValue : Nat} {mm_start : Nat} {mm_off : Nat} {mm_last : Nat} {mm_passed : Nat} {mm_kept : Nat} {mm_keptMany : Nat} {mm_history : Nat} {mm_names : Nat} {mm_worked : Nat} {mm_readThing : Nat} {mm_readHour : Nat} {mm_readLow : Nat} {mm_readHigh : Nat} {mm_imageOff : Nat} {mm_imageLast : Nat} {mm_imagePassed : Nat} {mm_imageKept : Nat} {mm_imageMany : Nat} {mm_imageHistory : Nat} {k_mm_number : ClassId} {oo : Nat} {H : Heap} {locs : List Loc} {ls : Array Slot} (hK : va_K (dC, dI) vwCl [(k_mm_number, .int)] s) (hP : va_P (dC, dI) vwCl [(xx, .inr (10, [.ref rr, .ref ta, .ref tb, .ref pa, .ref pb, .ref cn, .ref ci, .int 0, .ref cp, .ref ct, .ref hs, .ref rd, .ref wy, .ref ea, .ref eb])), (ta, .inr (8, [.int 0, .int 0, .int 0, .int 0, .int 0, .ref ta_name, .ref ta_first, .ref ta_gain, .ref ta_rough, .ref ta_custom, .ref ta_part, .ref ta_whole, .ref ta_roundPerson, .ref ta_roundClock, .ref ta_roundHour, .ref ta_gunClock, .ref ta_gunHour, .ref tau])), (mm, .inr (11, [.int 0, .ref mm_tape, .int 0, .ref mm_number, .ref mm_clockName, .ref mm_clockOff, .ref mm_clockGain, .ref mm_clockRough, .ref mm_personName, .ref mm_personOff, .ref mm_personGain, .ref mm_personRough, .ref mm_custom, .ref mm_customA, .ref mm_customB, .ref mm_ruleFrom, .ref mm_ruleTo, .ref mm_roundOf, .ref mm_roundAt, .ref mm_roundHour, .ref mm_gunAt, .ref mm_gunHour, .ref mm_knotSort, .ref mm_knotValue, .int 0, .int 0, .int 0, .int 0, .int 0, .int 0, .int 0, .int 0, .int 0, .int (-1), .int 0, .int 0, .int 0, .int 0, .int 0, .int 0, .int 0, .int 0, .int 0, .int 0, .int 0, .int 0, .ref mm_start, .ref mm_off, .ref mm_last, .ref mm_passed, .ref mm_kept, .ref mm_keptMany, .int 0, .int 0, .ref mm_history, .ref mm_names, .ref mm_worked, .int 0, .int 0, .int (-1), .ref mm_readThing, .ref mm_readHour, .ref mm_readLow, .ref mm_readHigh, .int 0, .int 0, .int 0, .ref mm_imageOff, .ref mm_imageLast, .ref mm_imagePassed, .ref mm_imageKept, .ref mm_imageMany, .ref mm_imageHistory])), (mm_number, .inl (k_mm_number, 10, .inl (fun _ => 0)))] H) (hD : va_D A [(xx, .inr (10, [.ref rr, .ref ta, .ref tb, .ref pa, .ref pb, .ref cn, .ref ci, .int 0, .ref cp, .ref ct, .ref hs, .ref rd, .ref wy, .ref ea, .ref eb])), (ta, .inr (8, [.int 0, .int 0, .int 0, .int 0, .int 0, .ref ta_name, .ref ta_first, .ref ta_gain, .ref ta_rough, .ref ta_custom, .ref ta_part, .ref ta_whole, .ref ta_roundPerson, .ref ta_roundClock, .ref ta_roundHour, .ref ta_gunClock, .ref ta_gunHour, .ref tau])), (mm, .inr (11, [.int 0, .ref mm_tape, .int 0, .ref mm_number, .ref mm_clockName, .ref mm_clockOff, .ref mm_clockGain, .ref mm_clockRough, .ref mm_personName, .ref mm_personOff, .ref mm_personGain, .ref mm_personRough, .ref mm_custom, .ref mm_customA, .ref mm_customB, .ref mm_ruleFrom, .ref mm_ruleTo, .ref mm_roundOf, .ref mm_roundAt, .ref mm_roundHour, .ref mm_gunAt, .ref mm_gunHour, .ref mm_knotSort, .ref mm_knotValue, .int 0, .int 0, .int 0, .int 0, .int 0, .int 0, .int 0, .int 0, .int 0, .int (-1), .int 0, .int 0, .int 0, .int 0, .int 0, .int 0, .int 0, .int 0, .int 0, .int 0, .int 0, .int 0, .ref mm_start, .ref mm_off, .ref mm_last, .ref mm_passed, .ref mm_kept, .ref mm_keptMany, .int 0, .int 0, .ref mm_history, .ref mm_names, .ref mm_worked, .int 0, .int 0, .int (-1), .ref mm_readThing, .ref mm_readHour, .ref mm_readLow, .ref mm_readHigh, .int 0, .int 0, .int 0, .ref mm_imageOff, .ref mm_imageLast, .ref mm_imagePassed, .ref mm_imageKept, .ref mm_imageMany, .ref mm_imageHistory])), (mm_number, .inl (k_mm_number, 10, .inl (fun _ => 0)))]) (hS : va_S A s.heap H locs) (hl : lv_has ls 7 [(4, .int 0), (3, .ref oo), (2, .ref mm), (1, .ref xx), (0, .ref b)]) : W p l e room_1 s m #[Value.ref b] below meth c H locs 160 67979 (lw_Z below #[Value.ref b] s) (F0 m 672 ls []) := by
  obtain ⟨hx, hb, hr, hml, hown, hts, hX, hbl, hlocks, hgv⟩ := C0
  have hT : ∀ w ∈ pw_T, w.before #[Value.ref b] s = true := fun w h => hts w (List.mem_filter.mp h).1
  have hown : s.vm.findClass RL = some m.cls := hown
  refine lv_aload_n hx hb dL_law_672 rfl (lv_at hl 3 rfl) ?_
  refine lv_aload_n hx hb dL_law_673 rfl (lv_at hl 4 rfl) ?_
  refine lv_iload hx hb dL_law_674 (lv_at hl 0 rfl) ?_
  refine lv_iconst (v := 1) hx hb dL_law_676 (by decide) ?_
  refine lv_iadd hx hb dL_law_677 ?_
  refine lv_topi (fun z_1 ez_1 => ?_)
  obtain rfl : z_1 = 1 := ez_1.trans (by decide)
  refine va_sld hx hb hX hbl hbA hS (pk_in 1 7 (by decide) (by decide) (by decide)) dL_law_678 ?_
  refine lv_topi (fun z_2 ez_2 => ?_)
  replace ez_2 : z_2 = xs 1 := ez_2
  subst z_2
  refine lv_aload_n hx hb dL_law_679 rfl (lv_at hl 4 rfl) ?_
  refine lv_iload hx hb dL_law_680 (lv_at hl 0 rfl) ?_
  refine lv_iconst (v := 2) hx hb dL_law_682 (by decide) ?_
  refine lv_iadd hx hb dL_law_683 ?_
  refine lv_topi (fun z_3 ez_3 => ?_)
  obtain rfl : z_3 = 2 := ez_3.trans (by decide)
  refine va_sld hx hb hX hbl hbA hS (pk_in 2 7 (by decide) (by decide) (by decide)) dL_law_684 ?_
  refine lv_topi (fun z_4 ez_4 => ?_)
  replace ez_4 : z_4 = xs 2 := ez_4
  subst z_4
  refine lv_i2l hx hb dL_law_685 rfl ?_
  refine lv_topl (fun z_5 ez_5 => ?_)
  clear ez_5
  refine lv_bipush (v := 32) hx hb dL_law_686 (by decide) ?_
  refine lv_lshl hx hb dL_law_688 rfl ?_
  refine lv_topl (fun z_6 ez_6 => ?_)
  clear ez_6
  refine lv_aload_n hx hb dL_law_689 rfl (lv_at hl 4 rfl) ?_
  refine lv_iload hx hb dL_law_690 (lv_at hl 0 rfl) ?_
  refine lv_iconst (v := 3) hx hb dL_law_692 (by decide) ?_
  refine lv_iadd hx hb dL_law_693 ?_
  refine lv_topi (fun z_7 ez_7 => ?_)
  obtain rfl : z_7 = 3 := ez_7.trans (by decide)
  refine va_sld hx hb hX hbl hbA hS (pk_in 3 7 (by decide) (by decide) (by decide)) dL_law_694 ?_
  refine lv_topi (fun z_8 ez_8 => ?_)
  replace ez_8 : z_8 = xs 3 := ez_8
  subst z_8
  refine lv_i2l hx hb dL_law_695 rfl ?_
  refine lv_topl (fun z_9 ez_9 => ?_)
  clear ez_9
  refine lv_ldc2 (v := 4294967295) hx hb hown (hT _ mw_8_181) dL_law_696 ?_
  refine lv_land hx hb dL_law_699 ?_
  refine lv_topl (fun z_10 ez_10 => ?_)
  clear ez_10
  refine lv_lor hx hb dL_law_700 ?_
  refine lv_topl (fun z_11 ez_11 => ?_)
  clear ez_11
  refine lv_aload_n hx hb dL_law_701 rfl (lv_at hl 4 rfl) ?_
  refine lv_iload hx hb dL_law_702 (lv_at hl 0 rfl) ?_
  refine lv_iconst (v := 4) hx hb dL_law_704 (by decide) ?_
  refine lv_iadd hx hb dL_law_705 ?_
  refine lv_topi (fun z_12 ez_12 => ?_)
  obtain rfl : z_12 = 4 := ez_12.trans (by decide)
  refine va_sld hx hb hX hbl hbA hS (pk_in 4 7 (by decide) (by decide) (by decide)) dL_law_706 ?_
  refine lv_topi (fun z_13 ez_13 => ?_)
  replace ez_13 : z_13 = xs 4 := ez_13
  subst z_13
  refine lv_i2l hx hb dL_law_707 rfl ?_
  refine lv_topl (fun z_14 ez_14 => ?_)
  clear ez_14
  refine lv_bipush (v := 32) hx hb dL_law_708 (by decide) ?_
  refine lv_lshl hx hb dL_law_710 rfl ?_
  refine lv_topl (fun z_15 ez_15 => ?_)
  clear ez_15
  refine lv_aload_n hx hb dL_law_711 rfl (lv_at hl 4 rfl) ?_
  refine lv_iload hx hb dL_law_712 (lv_at hl 0 rfl) ?_
  refine lv_iconst (v := 5) hx hb dL_law_714 (by decide) ?_
  refine lv_iadd hx hb dL_law_715 ?_
  refine lv_topi (fun z_16 ez_16 => ?_)
  obtain rfl : z_16 = 5 := ez_16.trans (by decide)
  refine va_sld hx hb hX hbl hbA hS (pk_in 5 7 (by decide) (by decide) (by decide)) dL_law_716 ?_
  refine lv_topi (fun z_17 ez_17 => ?_)
  replace ez_17 : z_17 = xs 5 := ez_17
  subst z_17
  refine lv_i2l hx hb dL_law_717 rfl ?_
  refine lv_topl (fun z_18 ez_18 => ?_)
  clear ez_18
  refine lv_ldc2 (v := 4294967295) hx hb hown (hT _ mw_8_181) dL_law_718 ?_
  refine lv_land hx hb dL_law_721 ?_
  refine lv_topl (fun z_19 ez_19 => ?_)
  clear ez_19
  refine lv_lor hx hb dL_law_722 ?_
  refine lv_topl (fun z_20 ez_20 => ?_)
  clear ez_20
  refine lv_aload_n hx hb dL_law_723 rfl (lv_at hl 4 rfl) ?_
  refine lv_iload hx hb dL_law_724 (lv_at hl 0 rfl) ?_
  refine lv_bipush (v := 6) hx hb dL_law_726 (by decide) ?_
  refine lv_iadd hx hb dL_law_728 ?_
  refine lv_topi (fun z_21 ez_21 => ?_)
  obtain rfl : z_21 = 6 := ez_21.trans (by decide)
  refine va_sld hx hb hX hbl hbA hS (pk_in 6 7 (by decide) (by decide) (by decide)) dL_law_729 ?_
  refine lv_topi (fun z_22 ez_22 => ?_)
  replace ez_22 : z_22 = xs 6 := ez_22
  subst z_22
  have hPc := hP.sub (ws' := [(xx, .inr (10, [.ref rr, .ref ta, .ref tb, .ref pa, .ref pb, .ref cn, .ref ci, .int 0, .ref cp, .ref ct, .ref hs, .ref rd, .ref wy, .ref ea, .ref eb])), (ta, .inr (8, [.int 0, .int 0, .int 0, .int 0, .int 0, .ref ta_name, .ref ta_first, .ref ta_gain, .ref ta_rough, .ref ta_custom, .ref ta_part, .ref ta_whole, .ref ta_roundPerson, .ref ta_roundClock, .ref ta_roundHour, .ref ta_gunClock, .ref ta_gunHour, .ref tau]))]) [0, 1] rfl
  have hDc := hD.sub (ws' := [(xx, .inr (10, [.ref rr, .ref ta, .ref tb, .ref pa, .ref pb, .ref cn, .ref ci, .int 0, .ref cp, .ref ct, .ref hs, .ref rd, .ref wy, .ref ea, .ref eb])), (ta, .inr (8, [.int 0, .int 0, .int 0, .int 0, .int 0, .ref ta_name, .ref ta_first, .ref ta_gain, .ref ta_rough, .ref ta_custom, .ref ta_part, .ref ta_whole, .ref ta_roundPerson, .ref ta_roundClock, .ref ta_roundHour, .ref ta_gunClock, .ref ta_gunHour, .ref tau]))]) [0, 1] (by decide) rfl
  have hKc := hK.sub (tys' := []) [] rfl
  have hFc := va_free (wc := [(xx, .inr (10, [.ref rr, .ref ta, .ref tb, .ref pa, .ref pb, .ref cn, .ref ci, .int 0, .ref cp, .ref ct, .ref hs, .ref rd, .ref wy, .ref ea, .ref eb])), (ta, .inr (8, [.int 0, .int 0, .int 0, .int 0, .int 0, .ref ta_name, .ref ta_first, .ref ta_gain, .ref ta_rough, .ref ta_custom, .ref ta_part, .ref ta_whole, .ref ta_roundPerson, .ref ta_roundClock, .ref ta_roundHour, .ref ta_gunClock, .ref ta_gunHour, .ref tau]))]) hD hS hA [0, 1] rfl
  refine va_calli (va_runV (As := [.int (xs 1), .long z_11, .long z_20, .int (xs 6)]) (rest := []) ⟨hx, hb, hml, hown, hT⟩ (c_X10_row l dC dI H.size xx (xs 1) z_11 z_20 (xs 6) rr ta tb pa pb cn ci (0 : Int32) cp ct hs rd wy ea eb (0 : Int32) (0 : Int32) (0 : Int32) ta_name ta_first ta_gain ta_rough ta_custom ta_part ta_whole ta_roundPerson ta_roundClock ta_roundHour ta_gunClock ta_gunHour tau ) (cwV 4 hT (gwV mw_4_180 mw_4_181 mw_4_182 mw_1_1 mw_4_183) rfl rfl rfl (by decide +kernel) ⟨Nat.le_of_ble_eq_true rfl, Nat.le_of_ble_eq_true rfl⟩) ⟨fun a U g mk q => by obtain ⟨q0, q1, qP, qK, qD⟩ := q; exact ⟨q0, q1, qP, va_K.moved (u := U) (U := U.calling g mk a) (Vm.Alike.refl U.vm) qK, qD⟩, va_recv hK hP (ci := 10) (q0 := 0) rfl rfl, fun U hU hW => ⟨rfl, by rw [hU], by rw [hU]; exact hPc, va_K.moved hW.alike hKc, hDc.weaken (fun _ _ _ _ => trivial)⟩⟩ rfl rfl hl.1 rfl (lv_room (Nat.le_of_ble_eq_true rfl)) dL_law_730 ⟨Nat.le_of_ble_eq_true rfl, Nat.le_of_ble_eq_true rfl⟩) hS (fun q _ h => hFc q h) hFc (fun r_24 u t H1 locs ht hvm hw hB hz1 hk1 hS => ?_)
  obtain ⟨hP1, hD1⟩ := hB
  rw [ht] at hP1
  obtain ⟨hP, hD⟩ := va_join (wr := [(mm, .inr (11, [.int 0, .ref mm_tape, .int 0, .ref mm_number, .ref mm_clockName, .ref mm_clockOff, .ref mm_clockGain, .ref mm_clockRough, .ref mm_personName, .ref mm_personOff, .ref mm_personGain, .ref mm_personRough, .ref mm_custom, .ref mm_customA, .ref mm_customB, .ref mm_ruleFrom, .ref mm_ruleTo, .ref mm_roundOf, .ref mm_roundAt, .ref mm_roundHour, .ref mm_gunAt, .ref mm_gunHour, .ref mm_knotSort, .ref mm_knotValue, .int 0, .int 0, .int 0, .int 0, .int 0, .int 0, .int 0, .int 0, .int 0, .int (-1), .int 0, .int 0, .int 0, .int 0, .int 0, .int 0, .int 0, .int 0, .int 0, .int 0, .int 0, .int 0, .ref mm_start, .ref mm_off, .ref mm_last, .ref mm_passed, .ref mm_kept, .ref mm_keptMany, .int 0, .int 0, .ref mm_history, .ref mm_names, .ref mm_worked, .int 0, .int 0, .int (-1), .ref mm_readThing, .ref mm_readHour, .ref mm_readLow, .ref mm_readHigh, .int 0, .int 0, .int 0, .ref mm_imageOff, .ref mm_imageLast, .ref mm_imagePassed, .ref mm_imageKept, .ref mm_imageMany, .ref mm_imageHistory])), (mm_number, .inl (k_mm_number, 10, .inl (fun _ => 0)))]) (w1 := [(xx, .inr (10, [.ref rr, .ref ta, .ref tb, .ref pa, .ref pb, .ref cn, .ref ci, .int 0, .ref cp, .ref ct, .ref hs, .ref rd, .ref wy, .ref ea, .ref eb])), (ta, .inr (8, [.int 0, .int 0, .int 0, .int 0, .int 0, .ref ta_name, .ref ta_first, .ref ta_gain, .ref ta_rough, .ref ta_custom, .ref ta_part, .ref ta_whole, .ref ta_roundPerson, .ref ta_roundClock, .ref ta_roundHour, .ref ta_gunClock, .ref ta_gunHour, .ref tau]))]) hP hD [0, 1] [2, 3] rfl rfl (by decide) (by decide) hk1 hFc hP1 hD1
  generalize H1 = H at hP hS ⊢
  have hP : va_P (dC, dI) vwCl [(mm, .inr (11, [.int 0, .ref mm_tape, .int 0, .ref mm_number, .ref mm_clockName, .ref mm_clockOff, .ref mm_clockGain, .ref mm_clockRough, .ref mm_personName, .ref mm_personOff, .ref mm_personGain, .ref mm_personRough, .ref mm_custom, .ref mm_customA, .ref mm_customB, .ref mm_ruleFrom, .ref mm_ruleTo, .ref mm_roundOf, .ref mm_roundAt, .ref mm_roundHour, .ref mm_gunAt, .ref mm_gunHour, .ref mm_knotSort, .ref mm_knotValue, .int 0, .int 0, .int 0, .int 0, .int 0, .int 0, .int 0, .int 0, .int 0, .int (-1), .int 0, .int 0, .int 0, .int 0, .int 0, .int 0, .int 0, .int 0, .int 0, .int 0, .int 0, .int 0, .ref mm_start, .ref mm_off, .ref mm_last, .ref mm_passed, .ref mm_kept, .ref mm_keptMany, .int 0, .int 0, .ref mm_history, .ref mm_names, .ref mm_worked, .int 0, .int 0, .int (-1), .ref mm_readThing, .ref mm_readHour, .ref mm_readLow, .ref mm_readHigh, .int 0, .int 0, .int 0, .ref mm_imageOff, .ref mm_imageLast, .ref mm_imagePassed, .ref mm_imageKept, .ref mm_imageMany, .ref mm_imageHistory])), (mm_number, .inl (k_mm_number, 10, .inl (fun _ => 0))), (xx, .inr (10, [.ref rr, .ref ta, .ref tb, .ref pa, .ref pb, .ref cn, .ref ci, .int 0, .ref cp, .ref ct, .ref hs, .ref rd, .ref wy, .ref ea, .ref eb])), (ta, .inr (8, [.int 0, .int 0, .int 0, .int 0, .int 0, .ref ta_name, .ref ta_first, .ref ta_gain, .ref ta_rough, .ref ta_custom, .ref ta_part, .ref ta_whole, .ref ta_roundPerson, .ref ta_roundClock, .ref ta_roundHour, .ref ta_gunClock, .ref ta_gunHour, .ref tau]))] H := hP
  have hD : va_D A [(mm, .inr (11, [.int 0, .ref mm_tape, .int 0, .ref mm_number, .ref mm_clockName, .ref mm_clockOff, .ref mm_clockGain, .ref mm_clockRough, .ref mm_personName, .ref mm_personOff, .ref mm_personGain, .ref mm_personRough, .ref mm_custom, .ref mm_customA, .ref mm_customB, .ref mm_ruleFrom, .ref mm_ruleTo, .ref mm_roundOf, .ref mm_roundAt, .ref mm_roundHour, .ref mm_gunAt, .ref mm_gunHour, .ref mm_knotSort, .ref mm_knotValue, .int 0, .int 0, .int 0, .int 0, .int 0, .int 0, .int 0, .int 0, .int 0, .int (-1), .int 0, .int 0, .int 0, .int 0, .int 0, .int 0, .int 0, .int 0, .int 0, .int 0, .int 0, .int 0, .ref mm_start, .ref mm_off, .ref mm_last, .ref mm_passed, .ref mm_kept, .ref mm_keptMany, .int 0, .int 0, .ref mm_history, .ref mm_names, .ref mm_worked, .int 0, .int 0, .int (-1), .ref mm_readThing, .ref mm_readHour, .ref mm_readLow, .ref mm_readHigh, .int 0, .int 0, .int 0, .ref mm_imageOff, .ref mm_imageLast, .ref mm_imagePassed, .ref mm_imageKept, .ref mm_imageMany, .ref mm_imageHistory])), (mm_number, .inl (k_mm_number, 10, .inl (fun _ => 0))), (xx, .inr (10, [.ref rr, .ref ta, .ref tb, .ref pa, .ref pb, .ref cn, .ref ci, .int 0, .ref cp, .ref ct, .ref hs, .ref rd, .ref wy, .ref ea, .ref eb])), (ta, .inr (8, [.int 0, .int 0, .int 0, .int 0, .int 0, .ref ta_name, .ref ta_first, .ref ta_gain, .ref ta_rough, .ref ta_custom, .ref ta_part, .ref ta_whole, .ref ta_roundPerson, .ref ta_roundClock, .ref ta_roundHour, .ref ta_gunClock, .ref ta_gunHour, .ref tau]))] := hD
  clear hPc hDc hKc hFc hP1 hD1 hk1 hz1 ht hvm
  have hw : r_24 = -2147483648 := hw
  subst r_24
  refine lv_aload_n hx hb dL_law_733 rfl (lv_at hl 2 rfl) ?_
  refine lv_aload_n hx hb dL_law_734 rfl (lv_at hl 4 rfl) ?_
  refine lv_iload hx hb dL_law_735 (lv_at hl 0 rfl) ?_
  refine lv_iconst (v := 1) hx hb dL_law_737 (by decide) ?_
  refine lv_iadd hx hb dL_law_738 ?_
  refine lv_topi (fun z_25 ez_25 => ?_)
  obtain rfl : z_25 = 1 := ez_25.trans (by decide)
  refine va_sld hx hb hX hbl hbA hS (pk_in 1 7 (by decide) (by decide) (by decide)) dL_law_739 ?_
  refine lv_topi (fun z_26 ez_26 => ?_)
  replace ez_26 : z_26 = xs 1 := ez_26
  subst z_26
  refine lv_aload_n hx hb dL_law_740 rfl (lv_at hl 4 rfl) ?_
  refine lv_iload hx hb dL_law_741 (lv_at hl 0 rfl) ?_
  refine lv_iconst (v := 2) hx hb dL_law_743 (by decide) ?_
  refine lv_iadd hx hb dL_law_744 ?_
  refine lv_topi (fun z_27 ez_27 => ?_)
  obtain rfl : z_27 = 2 := ez_27.trans (by decide)
  refine va_sld hx hb hX hbl hbA hS (pk_in 2 7 (by decide) (by decide) (by decide)) dL_law_745 ?_
  refine lv_topi (fun z_28 ez_28 => ?_)
  replace ez_28 : z_28 = xs 2 := ez_28
  subst z_28
  refine lv_i2l hx hb dL_law_746 rfl ?_
  refine lv_topl (fun z_29 ez_29 => ?_)
  clear ez_29
  refine lv_bipush (v := 32) hx hb dL_law_747 (by decide) ?_
  refine lv_lshl hx hb dL_law_749 rfl ?_
  refine lv_topl (fun z_30 ez_30 => ?_)
  clear ez_30
  refine lv_aload_n hx hb dL_law_750 rfl (lv_at hl 4 rfl) ?_
  refine lv_iload hx hb dL_law_751 (lv_at hl 0 rfl) ?_
  refine lv_iconst (v := 3) hx hb dL_law_753 (by decide) ?_
  refine lv_iadd hx hb dL_law_754 ?_
  refine lv_topi (fun z_31 ez_31 => ?_)
  obtain rfl : z_31 = 3 := ez_31.trans (by decide)
  refine va_sld hx hb hX hbl hbA hS (pk_in 3 7 (by decide) (by decide) (by decide)) dL_law_755 ?_
  refine lv_topi (fun z_32 ez_32 => ?_)
  replace ez_32 : z_32 = xs 3 := ez_32
  subst z_32
  refine lv_i2l hx hb dL_law_756 rfl ?_
  refine lv_topl (fun z_33 ez_33 => ?_)
  clear ez_33
  refine lv_ldc2 (v := 4294967295) hx hb hown (hT _ mw_8_181) dL_law_757 ?_
  refine lv_land hx hb dL_law_760 ?_
  refine lv_topl (fun z_34 ez_34 => ?_)
  clear ez_34
  refine lv_lor hx hb dL_law_761 ?_
  refine lv_topl (fun z_35 ez_35 => ?_)
  clear ez_35
  refine lv_aload_n hx hb dL_law_762 rfl (lv_at hl 4 rfl) ?_
  refine lv_iload hx hb dL_law_763 (lv_at hl 0 rfl) ?_
  refine lv_iconst (v := 4) hx hb dL_law_765 (by decide) ?_
  refine lv_iadd hx hb dL_law_766 ?_
  refine lv_topi (fun z_36 ez_36 => ?_)
  obtain rfl : z_36 = 4 := ez_36.trans (by decide)
  refine va_sld hx hb hX hbl hbA hS (pk_in 4 7 (by decide) (by decide) (by decide)) dL_law_767 ?_
  refine lv_topi (fun z_37 ez_37 => ?_)
  replace ez_37 : z_37 = xs 4 := ez_37
  subst z_37
  refine lv_i2l hx hb dL_law_768 rfl ?_
  refine lv_topl (fun z_38 ez_38 => ?_)
  clear ez_38
  refine lv_bipush (v := 32) hx hb dL_law_769 (by decide) ?_
  refine lv_lshl hx hb dL_law_771 rfl ?_
  refine lv_topl (fun z_39 ez_39 => ?_)
  clear ez_39
  refine lv_aload_n hx hb dL_law_772 rfl (lv_at hl 4 rfl) ?_
  refine lv_iload hx hb dL_law_773 (lv_at hl 0 rfl) ?_
  refine lv_iconst (v := 5) hx hb dL_law_775 (by decide) ?_
  refine lv_iadd hx hb dL_law_776 ?_
  refine lv_topi (fun z_40 ez_40 => ?_)
  obtain rfl : z_40 = 5 := ez_40.trans (by decide)
  refine va_sld hx hb hX hbl hbA hS (pk_in 5 7 (by decide) (by decide) (by decide)) dL_law_777 ?_
  refine lv_topi (fun z_41 ez_41 => ?_)
  replace ez_41 : z_41 = xs 5 := ez_41
  subst z_41
  refine lv_i2l hx hb dL_law_778 rfl ?_
  refine lv_topl (fun z_42 ez_42 => ?_)
  clear ez_42
  refine lv_ldc2 (v := 4294967295) hx hb hown (hT _ mw_8_181) dL_law_779 ?_
  refine lv_land hx hb dL_law_782 ?_
  refine lv_topl (fun z_43 ez_43 => ?_)
  clear ez_43
  refine lv_lor hx hb dL_law_783 ?_
  refine lv_topl (fun z_44 ez_44 => ?_)
  clear ez_44
  refine lv_aload_n hx hb dL_law_784 rfl (lv_at hl 4 rfl) ?_
  refine lv_iload hx hb dL_law_785 (lv_at hl 0 rfl) ?_
  refine lv_bipush (v := 6) hx hb dL_law_787 (by decide) ?_
  refine lv_iadd hx hb dL_law_789 ?_
  refine lv_topi (fun z_45 ez_45 => ?_)
  obtain rfl : z_45 = 6 := ez_45.trans (by decide)
  refine va_sld hx hb hX hbl hbA hS (pk_in 6 7 (by decide) (by decide) (by decide)) dL_law_790 ?_
  refine lv_topi (fun z_46 ez_46 => ?_)
  replace ez_46 : z_46 = xs 6 := ez_46
  subst z_46
  have hPc := hP.sub (ws' := [(mm, .inr (11, [.int 0, .ref mm_tape, .int 0, .ref mm_number, .ref mm_clockName, .ref mm_clockOff, .ref mm_clockGain, .ref mm_clockRough, .ref mm_personName, .ref mm_personOff, .ref mm_personGain, .ref mm_personRough, .ref mm_custom, .ref mm_customA, .ref mm_customB, .ref mm_ruleFrom, .ref mm_ruleTo, .ref mm_roundOf, .ref mm_roundAt, .ref mm_roundHour, .ref mm_gunAt, .ref mm_gunHour, .ref mm_knotSort, .ref mm_knotValue, .int 0, .int 0, .int 0, .int 0, .int 0, .int 0, .int 0, .int 0, .int 0, .int (-1), .int 0, .int 0, .int 0, .int 0, .int 0, .int 0, .int 0, .int 0, .int 0, .int 0, .int 0, .int 0, .ref mm_start, .ref mm_off, .ref mm_last, .ref mm_passed, .ref mm_kept, .ref mm_keptMany, .int 0, .int 0, .ref mm_history, .ref mm_names, .ref mm_worked, .int 0, .int 0, .int (-1), .ref mm_readThing, .ref mm_readHour, .ref mm_readLow, .ref mm_readHigh, .int 0, .int 0, .int 0, .ref mm_imageOff, .ref mm_imageLast, .ref mm_imagePassed, .ref mm_imageKept, .ref mm_imageMany, .ref mm_imageHistory])), (mm_number, .inl (k_mm_number, 10, .inl (fun _ => 0)))]) [0, 1] rfl
  have hDc := hD.sub (ws' := [(mm, .inr (11, [.int 0, .ref mm_tape, .int 0, .ref mm_number, .ref mm_clockName, .ref mm_clockOff, .ref mm_clockGain, .ref mm_clockRough, .ref mm_personName, .ref mm_personOff, .ref mm_personGain, .ref mm_personRough, .ref mm_custom, .ref mm_customA, .ref mm_customB, .ref mm_ruleFrom, .ref mm_ruleTo, .ref mm_roundOf, .ref mm_roundAt, .ref mm_roundHour, .ref mm_gunAt, .ref mm_gunHour, .ref mm_knotSort, .ref mm_knotValue, .int 0, .int 0, .int 0, .int 0, .int 0, .int 0, .int 0, .int 0, .int 0, .int (-1), .int 0, .int 0, .int 0, .int 0, .int 0, .int 0, .int 0, .int 0, .int 0, .int 0, .int 0, .int 0, .ref mm_start, .ref mm_off, .ref mm_last, .ref mm_passed, .ref mm_kept, .ref mm_keptMany, .int 0, .int 0, .ref mm_history, .ref mm_names, .ref mm_worked, .int 0, .int 0, .int (-1), .ref mm_readThing, .ref mm_readHour, .ref mm_readLow, .ref mm_readHigh, .int 0, .int 0, .int 0, .ref mm_imageOff, .ref mm_imageLast, .ref mm_imagePassed, .ref mm_imageKept, .ref mm_imageMany, .ref mm_imageHistory])), (mm_number, .inl (k_mm_number, 10, .inl (fun _ => 0)))]) [0, 1] (by decide) rfl
  have hKc := hK.sub (tys' := [(k_mm_number, .int)]) [0] rfl
  have hFc := va_free (wc := [(mm, .inr (11, [.int 0, .ref mm_tape, .int 0, .ref mm_number, .ref mm_clockName, .ref mm_clockOff, .ref mm_clockGain, .ref mm_clockRough, .ref mm_personName, .ref mm_personOff, .ref mm_personGain, .ref mm_personRough, .ref mm_custom, .ref mm_customA, .ref mm_customB, .ref mm_ruleFrom, .ref mm_ruleTo, .ref mm_roundOf, .ref mm_roundAt, .ref mm_roundHour, .ref mm_gunAt, .ref mm_gunHour, .ref mm_knotSort, .ref mm_knotValue, .int 0, .int 0, .int 0, .int 0, .int 0, .int 0, .int 0, .int 0, .int 0, .int (-1), .int 0, .int 0, .int 0, .int 0, .int 0, .int 0, .int 0, .int 0, .int 0, .int 0, .int 0, .int 0, .ref mm_start, .ref mm_off, .ref mm_last, .ref mm_passed, .ref mm_kept, .ref mm_keptMany, .int 0, .int 0, .ref mm_history, .ref mm_names, .ref mm_worked, .int 0, .int 0, .int (-1), .ref mm_readThing, .ref mm_readHour, .ref mm_readLow, .ref mm_readHigh, .int 0, .int 0, .int 0, .ref mm_imageOff, .ref mm_imageLast, .ref mm_imagePassed, .ref mm_imageKept, .ref mm_imageMany, .ref mm_imageHistory])), (mm_number, .inl (k_mm_number, 10, .inl (fun _ => 0)))]) hD hS hA [0, 1] rfl
  have := (by decide : (0 : Int32).toInt = 0)
  have := (by decide : (0 : Int32).toInt = 0)
  have := (by decide : (0 : Int32).toInt = 0)
  have := (by decide : (0 : Int32).toInt = 0)
  have := (by decide : (0 : Int32).toInt = 0)
  have := (by decide : (0 : Int32).toInt = 0)
  have := (by decide : (0 : Int32).toInt = 0)
  have := (by decide : (0 : Int32).toInt = 0)
  have := (by decide : (0 : Int32).toInt = 0)
  have := (by decide : (0 : Int32).toInt = 0)
  have := (by decide : (0 : Int32).toInt = 0)
  have := (by decide : ((-1) : Int32).toInt = -1)
  have := (by decide : (0 : Int32).toInt = 0)
  have := (by decide : (0 : Int32).toInt = 0)
  have := (by decide : (0 : Int32).toInt = 0)
  have := (by decide : (0 : Int32).toInt = 0)
  have := (by decide : (0 : Int32).toInt = 0)
  have := (by decide : (0 : Int32).toInt = 0)
  have := (by decide : (0 : Int32).toInt = 0)
  have := (by decide : (0 : Int32).toInt = 0)
  have := (by decide : (0 : Int32).toInt = 0)
  have := (by decide : (0 : Int32).toInt = 0)
  have := (by decide : (0 : Int32).toInt = 0)
  have := (by decide : (0 : Int32).toInt = 0)
  have := (by decide : (0 : Int32).toInt = 0)
  have := (by decide : (0 : Int32).toInt = 0)
  have := (by decide : (0 : Int32).toInt = 0)
  have := (by decide : (0 : Int32).toInt = 0)
  have := (by decide : ((-1) : Int32).toInt = -1)
  have := (by decide : (0 : Int32).toInt = 0)
  have := (by decide : (0 : Int32).toInt = 0)
  have := (by decide : (0 : Int32).toInt = 0)
  refine va_calli (va_runV (As := [.int (xs 1), .long z_35, .long z_44, .int (xs 6)]) (rest := [.int (-2147483648)]) ⟨hx, hb, hml, hown, hT⟩ (c_X11_row l dC dI H.size mm (xs 1) z_35 z_44 (xs 6) (0 : Int32) mm_tape (0 : Int32) mm_number mm_clockName mm_clockOff mm_clockGain mm_clockRough mm_personName mm_personOff mm_personGain mm_personRough mm_custom mm_customA mm_customB mm_ruleFrom mm_ruleTo mm_roundOf mm_roundAt mm_roundHour mm_gunAt mm_gunHour mm_knotSort mm_knotValue (0 : Int32) (0 : Int32) (0 : Int32) (0 : Int32) (0 : Int32) (0 : Int32) (0 : Int32) (0 : Int32) (0 : Int32) ((-1) : Int32) (0 : Int32) (0 : Int32) (0 : Int32) (0 : Int32) (0 : Int32) (0 : Int32) (0 : Int32) (0 : Int32) (0 : Int32) (0 : Int32) (0 : Int32) (0 : Int32) mm_start mm_off mm_last mm_passed mm_kept mm_keptMany (0 : Int32) (0 : Int32) mm_history mm_names mm_worked (0 : Int32) (0 : Int32) ((-1) : Int32) mm_readThing mm_readHour mm_readLow mm_readHigh (0 : Int32) (0 : Int32) (0 : Int32) mm_imageOff mm_imageLast mm_imagePassed mm_imageKept mm_imageMany mm_imageHistory k_mm_number (fun _ => 0) (fun _ => rfl)) (cwV 4 hT (gwV mw_8_56 mw_8_57 mw_8_58 mw_1_16 mw_8_59) rfl rfl rfl (by decide +kernel) ⟨Nat.le_of_ble_eq_true rfl, Nat.le_of_ble_eq_true rfl⟩) ⟨fun a U g mk q => by obtain ⟨q0, q1, qP, qK, qD⟩ := q; exact ⟨q0, q1, qP, va_K.moved (u := U) (U := U.calling g mk a) (Vm.Alike.refl U.vm) qK, qD⟩, va_recv hK hP (ci := 11) (q0 := 0) rfl rfl, fun U hU hW => ⟨rfl, by rw [hU], by rw [hU]; exact hPc, va_K.moved hW.alike hKc, hDc.weaken (fun _ _ _ _ => trivial)⟩⟩ rfl rfl hl.1 rfl (lv_room (Nat.le_of_ble_eq_true rfl)) dL_law_791 ⟨Nat.le_of_ble_eq_true rfl, Nat.le_of_ble_eq_true rfl⟩) hS (fun q _ h => hFc q h) hFc (fun r_48 u t H1 locs ht hvm hw hB hz1 hk1 hS => ?_)
  obtain ⟨hP1, hD1⟩ := hB
  rw [ht] at hP1
  obtain ⟨hP, hD⟩ := va_join (wr := [(xx, .inr (10, [.ref rr, .ref ta, .ref tb, .ref pa, .ref pb, .ref cn, .ref ci, .int 0, .ref cp, .ref ct, .ref hs, .ref rd, .ref wy, .ref ea, .ref eb])), (ta, .inr (8, [.int 0, .int 0, .int 0, .int 0, .int 0, .ref ta_name, .ref ta_first, .ref ta_gain, .ref ta_rough, .ref ta_custom, .ref ta_part, .ref ta_whole, .ref ta_roundPerson, .ref ta_roundClock, .ref ta_roundHour, .ref ta_gunClock, .ref ta_gunHour, .ref tau]))]) (w1 := [(mm, .inr (11, [.int 0, .ref mm_tape, .int 0, .ref mm_number, .ref mm_clockName, .ref mm_clockOff, .ref mm_clockGain, .ref mm_clockRough, .ref mm_personName, .ref mm_personOff, .ref mm_personGain, .ref mm_personRough, .ref mm_custom, .ref mm_customA, .ref mm_customB, .ref mm_ruleFrom, .ref mm_ruleTo, .ref mm_roundOf, .ref mm_roundAt, .ref mm_roundHour, .ref mm_gunAt, .ref mm_gunHour, .ref mm_knotSort, .ref mm_knotValue, .int 0, .int 0, .int 0, .int 0, .int 0, .int 0, .int 0, .int 0, .int 0, .int (-1), .int 0, .int 0, .int 0, .int 0, .int 0, .int 0, .int 0, .int 0, .int 0, .int 0, .int 0, .int 0, .ref mm_start, .ref mm_off, .ref mm_last, .ref mm_passed, .ref mm_kept, .ref mm_keptMany, .int 0, .int 0, .ref mm_history, .ref mm_names, .ref mm_worked, .int 0, .int 0, .int (-1), .ref mm_readThing, .ref mm_readHour, .ref mm_readLow, .ref mm_readHigh, .int 0, .int 0, .int 0, .ref mm_imageOff, .ref mm_imageLast, .ref mm_imagePassed, .ref mm_imageKept, .ref mm_imageMany, .ref mm_imageHistory])), (mm_number, .inl (k_mm_number, 10, .inl (fun _ => 0)))]) hP hD [0, 1] [2, 3] rfl rfl (by decide) (by decide) hk1 hFc hP1 hD1
  generalize H1 = H at hP hS ⊢
  have hP : va_P (dC, dI) vwCl [(xx, .inr (10, [.ref rr, .ref ta, .ref tb, .ref pa, .ref pb, .ref cn, .ref ci, .int 0, .ref cp, .ref ct, .ref hs, .ref rd, .ref wy, .ref ea, .ref eb])), (ta, .inr (8, [.int 0, .int 0, .int 0, .int 0, .int 0, .ref ta_name, .ref ta_first, .ref ta_gain, .ref ta_rough, .ref ta_custom, .ref ta_part, .ref ta_whole, .ref ta_roundPerson, .ref ta_roundClock, .ref ta_roundHour, .ref ta_gunClock, .ref ta_gunHour, .ref tau])), (mm, .inr (11, [.int 0, .ref mm_tape, .int 0, .ref mm_number, .ref mm_clockName, .ref mm_clockOff, .ref mm_clockGain, .ref mm_clockRough, .ref mm_personName, .ref mm_personOff, .ref mm_personGain, .ref mm_personRough, .ref mm_custom, .ref mm_customA, .ref mm_customB, .ref mm_ruleFrom, .ref mm_ruleTo, .ref mm_roundOf, .ref mm_roundAt, .ref mm_roundHour, .ref mm_gunAt, .ref mm_gunHour, .ref mm_knotSort, .ref mm_knotValue, .int 0, .int 0, .int 0, .int 0, .int 0, .int 0, .int 0, .int 0, .int 0, .int (-1), .int 0, .int 0, .int 0, .int 0, .int 0, .int 0, .int 0, .int 0, .int 0, .int 0, .int 0, .int 0, .ref mm_start, .ref mm_off, .ref mm_last, .ref mm_passed, .ref mm_kept, .ref mm_keptMany, .int 0, .int 0, .ref mm_history, .ref mm_names, .ref mm_worked, .int 0, .int 0, .int (-1), .ref mm_readThing, .ref mm_readHour, .ref mm_readLow, .ref mm_readHigh, .int 0, .int 0, .int 0, .ref mm_imageOff, .ref mm_imageLast, .ref mm_imagePassed, .ref mm_imageKept, .ref mm_imageMany, .ref mm_imageHistory])), (mm_number, .inl (k_mm_number, 10, .inl (fun _ => 0)))] H := hP
  have hD : va_D A [(xx, .inr (10, [.ref rr, .ref ta, .ref tb, .ref pa, .ref pb, .ref cn, .ref ci, .int 0, .ref cp, .ref ct, .ref hs, .ref rd, .ref wy, .ref ea, .ref eb])), (ta, .inr (8, [.int 0, .int 0, .int 0, .int 0, .int 0, .ref ta_name, .ref ta_first, .ref ta_gain, .ref ta_rough, .ref ta_custom, .ref ta_part, .ref ta_whole, .ref ta_roundPerson, .ref ta_roundClock, .ref ta_roundHour, .ref ta_gunClock, .ref ta_gunHour, .ref tau])), (mm, .inr (11, [.int 0, .ref mm_tape, .int 0, .ref mm_number, .ref mm_clockName, .ref mm_clockOff, .ref mm_clockGain, .ref mm_clockRough, .ref mm_personName, .ref mm_personOff, .ref mm_personGain, .ref mm_personRough, .ref mm_custom, .ref mm_customA, .ref mm_customB, .ref mm_ruleFrom, .ref mm_ruleTo, .ref mm_roundOf, .ref mm_roundAt, .ref mm_roundHour, .ref mm_gunAt, .ref mm_gunHour, .ref mm_knotSort, .ref mm_knotValue, .int 0, .int 0, .int 0, .int 0, .int 0, .int 0, .int 0, .int 0, .int 0, .int (-1), .int 0, .int 0, .int 0, .int 0, .int 0, .int 0, .int 0, .int 0, .int 0, .int 0, .int 0, .int 0, .ref mm_start, .ref mm_off, .ref mm_last, .ref mm_passed, .ref mm_kept, .ref mm_keptMany, .int 0, .int 0, .ref mm_history, .ref mm_names, .ref mm_worked, .int 0, .int 0, .int (-1), .ref mm_readThing, .ref mm_readHour, .ref mm_readLow, .ref mm_readHigh, .int 0, .int 0, .int 0, .ref mm_imageOff, .ref mm_imageLast, .ref mm_imagePassed, .ref mm_imageKept, .ref mm_imageMany, .ref mm_imageHistory])), (mm_number, .inl (k_mm_number, 10, .inl (fun _ => 0)))] := hD
  clear hPc hDc hKc hFc hP1 hD1 hk1 hz1 ht hvm
  have hw : r_48 = -2147483648 := hw
  subst r_48
  refine lv_icmp_eq (tgt := 1482) hx hb dL_law_794 (by decide) (fun c_49 => ?_) (fun c_49 => absurd c_49 (by decide))
  refine lv_iinc (v := 7) (lv' := [(4, .int 7), (3, .ref oo), (2, .ref mm), (1, .ref xx), (0, .ref b)]) hx hb dL_law_1482 hl (k := 0) rfl (by decide) (by decide) rfl (fun ls hl => ?_)
  refine lv_goto (tgt := 23) hx hb dL_law_1485 (by decide) ?_
  refine lv_iload hx hb dL_law_23 (lv_at hl 0 rfl) ?_
  refine lv_aload_n hx hb dL_law_25 rfl (lv_at hl 4 rfl) ?_
  refine va_slen hx hb hX hbl hbA hS dL_law_26 ?_
  refine lv_topi (fun z_50 ez_50 => ?_)
  obtain rfl : z_50 = 7 := ez_50.trans (by decide)
  refine lv_bipush (v := 7) hx hb dL_law_27 (by decide) ?_
  refine lv_isub hx hb dL_law_29 ?_
  refine lv_topi (fun z_51 ez_51 => ?_)
  obtain rfl : z_51 = 0 := ez_51.trans (by decide)
  refine lv_icmp_gt (tgt := 1488) hx hb dL_law_30 (by decide) (fun c_52 => ?_) (fun c_52 => absurd c_52 (by decide))
  refine lv_iconst (v := 1) hx hb dL_law_1488 (by decide) ?_
  refine va_forget (fun q hq => hAo _ (hS.2.2 q hq)) ?_
  refine W.widen (k := 600002) (n := 7302232) (Nat.le_of_ble_eq_true rfl) (Nat.le_of_ble_eq_true rfl) ?_
  exact lw_ret hx hb hr hlocks dL_law_1489
set_option maxHeartbeats 4000000 in
set_option maxRecDepth 100000 in
theorem law_op_14 {p : Program} {l : Launch} {e : Env} {s : State} {m : MethodId} {below : List Frame} {meth : Method} {c : Code} {dC : Nat → ClassId} {dI : Nat → Nat → Nat} {b : Nat} {xs : Nat → Int32} {A : Nat → Prop} (C0 : lw_At p s m meth c b 7 xs) (hA : ∀ q, s.heap.size ≤ q → A q) (hbA : ¬ A b) (hAo : ∀ q, A q → s.heap.size ≤ q) {xx : Nat} {rr : Nat} {ta : Nat} {tb : Nat} {pa : Nat} {pb : Nat} {cn : Nat} {ci : Nat} {cp : Nat} {ct : Nat} {hs : Nat} {rd : Nat} {wy : Nat} {ea : Nat} {eb : Nat} {ta_name : Nat} {ta_first : Nat} {ta_gain : Nat} {ta_rough : Nat} {ta_custom : Nat} {ta_part : Nat} {ta_whole : Nat} {ta_roundPerson : Nat} {ta_roundClock : Nat} {ta_roundHour : Nat} {ta_gunClock : Nat} {ta_gunHour : Nat} {tau : Nat} {mm : Nat} {mm_tape : Nat} {mm_number : Nat} {mm_clockName : Nat} {mm_clockOff : Nat} {mm_clockGain : Nat} {mm_clockRough : Nat} {mm_personName : Nat} {mm_personOff : Nat} {mm_personGain : Nat} {mm_personRough : Nat} {mm_custom : Nat} {mm_customA : Nat} {mm_customB : Nat} {mm_ruleFrom : Nat} {mm_ruleTo : Nat} {mm_roundOf : Nat} {mm_roundAt : Nat} {mm_roundHour : Nat} {mm_gunAt : Nat} {mm_gunHour : Nat} {mm_knotSort : Nat} {mm_knotValue : Nat} {mm_start : Nat} {mm_off : Nat} {mm_last : Nat} {mm_passed : Nat} {mm_kept : Nat} {mm_keptMany : Nat} {mm_history : Nat} {mm_names : Nat} {mm_worked : Nat} {mm_readThing : Nat} {mm_readHour : Nat} {mm_readLow : Nat} {mm_readHigh : Nat} {mm_imageOff : Nat} {mm_imageLast : Nat} {mm_imagePassed : Nat} {mm_imageKept : Nat} {mm_imageMany : Nat} {mm_imageHistory : Nat} {k_mm_number : ClassId} {oo : Nat} {H : Heap} {locs : List Loc} {ls : Array Slot} (hK : va_K (dC, dI) vwCl [(k_mm_number, .int)] s) (hP : va_P (dC, dI) vwCl [(xx, .inr (10, [.ref rr, .ref ta, .ref tb, .ref pa, .ref pb, .ref cn, .ref ci, .int 0, .ref cp, .ref ct, .ref hs, .ref rd, .ref wy, .ref ea, .ref eb])), (ta, .inr (8, [.int 0, .int 0, .int 0, .int 0, .int 0, .ref ta_name, .ref ta_first, .ref ta_gain, .ref ta_rough, .ref ta_custom, .ref ta_part, .ref ta_whole, .ref ta_roundPerson, .ref ta_roundClock, .ref ta_roundHour, .ref ta_gunClock, .ref ta_gunHour, .ref tau])), (mm, .inr (11, [.int 0, .ref mm_tape, .int 0, .ref mm_number, .ref mm_clockName, .ref mm_clockOff, .ref mm_clockGain, .ref mm_clockRough, .ref mm_personName, .ref mm_personOff, .ref mm_personGain, .ref mm_personRough, .ref mm_custom, .ref mm_customA, .ref mm_customB, .ref mm_ruleFrom, .ref mm_ruleTo, .ref mm_roundOf, .ref mm_roundAt, .ref mm_roundHour, .ref mm_gunAt, .ref mm_gunHour, .ref mm_knotSort, .ref mm_knotValue, .int 0, .int 0, .int 0, .int 0, .int 0, .int 0, .int 0, .int 0, .int 0, .int (-1), .int 0, .int 0, .int 0, .int 0, .int 0, .int 0, .int 0, .int 0, .int 0, .int 0, .int 0, .int 0, .ref mm_start, .ref mm_off, .ref mm_last, .ref mm_passed, .ref mm_kept, .ref mm_keptMany, .int 0, .int 0, .ref mm_history, .ref mm_names, .ref mm_worked, .int 0, .int 0, .int (-1), .ref mm_readThing, .ref mm_readHour, .ref mm_readLow, .ref mm_readHigh, .int 0, .int 0, .int 0, .ref mm_imageOff, .ref mm_imageLast, .ref mm_imagePassed, .ref mm_imageKept, .ref mm_imageMany, .ref mm_imageHistory])), (mm_number, .inl (k_mm_number, 10, .inl (fun _ => 0)))] H) (hD : va_D A [(xx, .inr (10, [.ref rr, .ref ta, .ref tb, .ref pa, .ref pb, .ref cn, .ref ci, .int 0, .ref cp, .ref ct, .ref hs, .ref rd, .ref wy, .ref ea, .ref eb])), (ta, .inr (8, [.int 0, .int 0, .int 0, .int 0, .int 0, .ref ta_name, .ref ta_first, .ref ta_gain, .ref ta_rough, .ref ta_custom, .ref ta_part, .ref ta_whole, .ref ta_roundPerson, .ref ta_roundClock, .ref ta_roundHour, .ref ta_gunClock, .ref ta_gunHour, .ref tau])), (mm, .inr (11, [.int 0, .ref mm_tape, .int 0, .ref mm_number, .ref mm_clockName, .ref mm_clockOff, .ref mm_clockGain, .ref mm_clockRough, .ref mm_personName, .ref mm_personOff, .ref mm_personGain, .ref mm_personRough, .ref mm_custom, .ref mm_customA, .ref mm_customB, .ref mm_ruleFrom, .ref mm_ruleTo, .ref mm_roundOf, .ref mm_roundAt, .ref mm_roundHour, .ref mm_gunAt, .ref mm_gunHour, .ref mm_knotSort, .ref mm_knotValue, .int 0, .int 0, .int 0, .int 0, .int 0, .int 0, .int 0, .int 0, .int 0, .int (-1), .int 0, .int 0, .int 0, .int 0, .int 0, .int 0, .int 0, .int 0, .int 0, .int 0, .int 0, .int 0, .ref mm_start, .ref mm_off, .ref mm_last, .ref mm_passed, .ref mm_kept, .ref mm_keptMany, .int 0, .int 0, .ref mm_history, .ref mm_names, .ref mm_worked, .int 0, .int 0, .int (-1), .ref mm_readThing, .ref mm_readHour, .ref mm_readLow, .ref mm_readHigh, .int 0, .int 0, .int 0, .ref mm_imageOff, .ref mm_imageLast, .ref mm_imagePassed, .ref mm_imageKept, .ref mm_imageMany, .ref mm_imageHistory])), (mm_number, .inl (k_mm_number, 10, .inl (fun _ => 0)))]) (hS : va_S A s.heap H locs) (hl : lv_has ls 7 [(4, .int 0), (3, .ref oo), (2, .ref mm), (1, .ref xx), (0, .ref b)]) : W p l e room_1 s m #[Value.ref b] below meth c H locs 160 67979 (lw_Z below #[Value.ref b] s) (F0 m 799 ls []) := by
  obtain ⟨hx, hb, hr, hml, hown, hts, hX, hbl, hlocks, hgv⟩ := C0
  have hT : ∀ w ∈ pw_T, w.before #[Value.ref b] s = true := fun w h => hts w (List.mem_filter.mp h).1
  have hown : s.vm.findClass RL = some m.cls := hown
  refine lv_aload_n hx hb dL_law_799 rfl (lv_at hl 3 rfl) ?_
  refine lv_aload_n hx hb dL_law_800 rfl (lv_at hl 4 rfl) ?_
  refine lv_iload hx hb dL_law_801 (lv_at hl 0 rfl) ?_
  refine lv_iconst (v := 1) hx hb dL_law_803 (by decide) ?_
  refine lv_iadd hx hb dL_law_804 ?_
  refine lv_topi (fun z_1 ez_1 => ?_)
  obtain rfl : z_1 = 1 := ez_1.trans (by decide)
  refine va_sld hx hb hX hbl hbA hS (pk_in 1 7 (by decide) (by decide) (by decide)) dL_law_805 ?_
  refine lv_topi (fun z_2 ez_2 => ?_)
  replace ez_2 : z_2 = xs 1 := ez_2
  subst z_2
  refine lv_aload_n hx hb dL_law_806 rfl (lv_at hl 4 rfl) ?_
  refine lv_iload hx hb dL_law_807 (lv_at hl 0 rfl) ?_
  refine lv_iconst (v := 2) hx hb dL_law_809 (by decide) ?_
  refine lv_iadd hx hb dL_law_810 ?_
  refine lv_topi (fun z_3 ez_3 => ?_)
  obtain rfl : z_3 = 2 := ez_3.trans (by decide)
  refine va_sld hx hb hX hbl hbA hS (pk_in 2 7 (by decide) (by decide) (by decide)) dL_law_811 ?_
  refine lv_topi (fun z_4 ez_4 => ?_)
  replace ez_4 : z_4 = xs 2 := ez_4
  subst z_4
  refine lv_aload_n hx hb dL_law_812 rfl (lv_at hl 4 rfl) ?_
  refine lv_iload hx hb dL_law_813 (lv_at hl 0 rfl) ?_
  refine lv_iconst (v := 3) hx hb dL_law_815 (by decide) ?_
  refine lv_iadd hx hb dL_law_816 ?_
  refine lv_topi (fun z_5 ez_5 => ?_)
  obtain rfl : z_5 = 3 := ez_5.trans (by decide)
  refine va_sld hx hb hX hbl hbA hS (pk_in 3 7 (by decide) (by decide) (by decide)) dL_law_817 ?_
  refine lv_topi (fun z_6 ez_6 => ?_)
  replace ez_6 : z_6 = xs 3 := ez_6
  subst z_6
  refine lv_aload_n hx hb dL_law_818 rfl (lv_at hl 4 rfl) ?_
  refine lv_iload hx hb dL_law_819 (lv_at hl 0 rfl) ?_
  refine lv_iconst (v := 4) hx hb dL_law_821 (by decide) ?_
  refine lv_iadd hx hb dL_law_822 ?_
  refine lv_topi (fun z_7 ez_7 => ?_)
  obtain rfl : z_7 = 4 := ez_7.trans (by decide)
  refine va_sld hx hb hX hbl hbA hS (pk_in 4 7 (by decide) (by decide) (by decide)) dL_law_823 ?_
  refine lv_topi (fun z_8 ez_8 => ?_)
  replace ez_8 : z_8 = xs 4 := ez_8
  subst z_8
  refine lv_aload_n hx hb dL_law_824 rfl (lv_at hl 4 rfl) ?_
  refine lv_iload hx hb dL_law_825 (lv_at hl 0 rfl) ?_
  refine lv_iconst (v := 5) hx hb dL_law_827 (by decide) ?_
  refine lv_iadd hx hb dL_law_828 ?_
  refine lv_topi (fun z_9 ez_9 => ?_)
  obtain rfl : z_9 = 5 := ez_9.trans (by decide)
  refine va_sld hx hb hX hbl hbA hS (pk_in 5 7 (by decide) (by decide) (by decide)) dL_law_829 ?_
  refine lv_topi (fun z_10 ez_10 => ?_)
  replace ez_10 : z_10 = xs 5 := ez_10
  subst z_10
  have hPc := hP.sub (ws' := [(xx, .inr (10, [.ref rr, .ref ta, .ref tb, .ref pa, .ref pb, .ref cn, .ref ci, .int 0, .ref cp, .ref ct, .ref hs, .ref rd, .ref wy, .ref ea, .ref eb])), (ta, .inr (8, [.int 0, .int 0, .int 0, .int 0, .int 0, .ref ta_name, .ref ta_first, .ref ta_gain, .ref ta_rough, .ref ta_custom, .ref ta_part, .ref ta_whole, .ref ta_roundPerson, .ref ta_roundClock, .ref ta_roundHour, .ref ta_gunClock, .ref ta_gunHour, .ref tau]))]) [0, 1] rfl
  have hDc := hD.sub (ws' := [(xx, .inr (10, [.ref rr, .ref ta, .ref tb, .ref pa, .ref pb, .ref cn, .ref ci, .int 0, .ref cp, .ref ct, .ref hs, .ref rd, .ref wy, .ref ea, .ref eb])), (ta, .inr (8, [.int 0, .int 0, .int 0, .int 0, .int 0, .ref ta_name, .ref ta_first, .ref ta_gain, .ref ta_rough, .ref ta_custom, .ref ta_part, .ref ta_whole, .ref ta_roundPerson, .ref ta_roundClock, .ref ta_roundHour, .ref ta_gunClock, .ref ta_gunHour, .ref tau]))]) [0, 1] (by decide) rfl
  have hKc := hK.sub (tys' := []) [] rfl
  have hFc := va_free (wc := [(xx, .inr (10, [.ref rr, .ref ta, .ref tb, .ref pa, .ref pb, .ref cn, .ref ci, .int 0, .ref cp, .ref ct, .ref hs, .ref rd, .ref wy, .ref ea, .ref eb])), (ta, .inr (8, [.int 0, .int 0, .int 0, .int 0, .int 0, .ref ta_name, .ref ta_first, .ref ta_gain, .ref ta_rough, .ref ta_custom, .ref ta_part, .ref ta_whole, .ref ta_roundPerson, .ref ta_roundClock, .ref ta_roundHour, .ref ta_gunClock, .ref ta_gunHour, .ref tau]))]) hD hS hA [0, 1] rfl
  refine va_calll (va_runV (As := [.int (xs 1), .int (xs 2), .int (xs 3), .int (xs 4), .int (xs 5)]) (rest := []) ⟨hx, hb, hml, hown, hT⟩ (c_X10_rule l dC dI H.size xx (xs 1) (xs 2) (xs 3) (xs 4) (xs 5) rr ta tb pa pb cn ci (0 : Int32) cp ct hs rd wy ea eb (0 : Int32) (0 : Int32) (0 : Int32) ta_name ta_first ta_gain ta_rough ta_custom ta_part ta_whole ta_roundPerson ta_roundClock ta_roundHour ta_gunClock ta_gunHour tau ) (cwV 5 hT (gwV mw_4_189 mw_4_190 mw_4_191 mw_1_1 mw_4_192) rfl rfl rfl (by decide +kernel) ⟨Nat.le_of_ble_eq_true rfl, Nat.le_of_ble_eq_true rfl⟩) ⟨fun a U g mk q => by obtain ⟨q0, q1, qP, qK, qD⟩ := q; exact ⟨q0, q1, qP, va_K.moved (u := U) (U := U.calling g mk a) (Vm.Alike.refl U.vm) qK, qD⟩, va_recv hK hP (ci := 10) (q0 := 0) rfl rfl, fun U hU hW => ⟨rfl, by rw [hU], by rw [hU]; exact hPc, va_K.moved hW.alike hKc, hDc.weaken (fun _ _ _ _ => trivial)⟩⟩ rfl rfl hl.1 rfl (lv_room (Nat.le_of_ble_eq_true rfl)) dL_law_830 ⟨Nat.le_of_ble_eq_true rfl, Nat.le_of_ble_eq_true rfl⟩) hS (fun q _ h => hFc q h) hFc (fun r_12 u t H1 locs ht hvm hw hB hz1 hk1 hS => ?_)
  obtain ⟨hP1, hD1⟩ := hB
  rw [ht] at hP1
  obtain ⟨hP, hD⟩ := va_join (wr := [(mm, .inr (11, [.int 0, .ref mm_tape, .int 0, .ref mm_number, .ref mm_clockName, .ref mm_clockOff, .ref mm_clockGain, .ref mm_clockRough, .ref mm_personName, .ref mm_personOff, .ref mm_personGain, .ref mm_personRough, .ref mm_custom, .ref mm_customA, .ref mm_customB, .ref mm_ruleFrom, .ref mm_ruleTo, .ref mm_roundOf, .ref mm_roundAt, .ref mm_roundHour, .ref mm_gunAt, .ref mm_gunHour, .ref mm_knotSort, .ref mm_knotValue, .int 0, .int 0, .int 0, .int 0, .int 0, .int 0, .int 0, .int 0, .int 0, .int (-1), .int 0, .int 0, .int 0, .int 0, .int 0, .int 0, .int 0, .int 0, .int 0, .int 0, .int 0, .int 0, .ref mm_start, .ref mm_off, .ref mm_last, .ref mm_passed, .ref mm_kept, .ref mm_keptMany, .int 0, .int 0, .ref mm_history, .ref mm_names, .ref mm_worked, .int 0, .int 0, .int (-1), .ref mm_readThing, .ref mm_readHour, .ref mm_readLow, .ref mm_readHigh, .int 0, .int 0, .int 0, .ref mm_imageOff, .ref mm_imageLast, .ref mm_imagePassed, .ref mm_imageKept, .ref mm_imageMany, .ref mm_imageHistory])), (mm_number, .inl (k_mm_number, 10, .inl (fun _ => 0)))]) (w1 := [(xx, .inr (10, [.ref rr, .ref ta, .ref tb, .ref pa, .ref pb, .ref cn, .ref ci, .int 0, .ref cp, .ref ct, .ref hs, .ref rd, .ref wy, .ref ea, .ref eb])), (ta, .inr (8, [.int 0, .int 0, .int 0, .int 0, .int 0, .ref ta_name, .ref ta_first, .ref ta_gain, .ref ta_rough, .ref ta_custom, .ref ta_part, .ref ta_whole, .ref ta_roundPerson, .ref ta_roundClock, .ref ta_roundHour, .ref ta_gunClock, .ref ta_gunHour, .ref tau]))]) hP hD [0, 1] [2, 3] rfl rfl (by decide) (by decide) hk1 hFc hP1 hD1
  generalize H1 = H at hP hS ⊢
  have hP : va_P (dC, dI) vwCl [(mm, .inr (11, [.int 0, .ref mm_tape, .int 0, .ref mm_number, .ref mm_clockName, .ref mm_clockOff, .ref mm_clockGain, .ref mm_clockRough, .ref mm_personName, .ref mm_personOff, .ref mm_personGain, .ref mm_personRough, .ref mm_custom, .ref mm_customA, .ref mm_customB, .ref mm_ruleFrom, .ref mm_ruleTo, .ref mm_roundOf, .ref mm_roundAt, .ref mm_roundHour, .ref mm_gunAt, .ref mm_gunHour, .ref mm_knotSort, .ref mm_knotValue, .int 0, .int 0, .int 0, .int 0, .int 0, .int 0, .int 0, .int 0, .int 0, .int (-1), .int 0, .int 0, .int 0, .int 0, .int 0, .int 0, .int 0, .int 0, .int 0, .int 0, .int 0, .int 0, .ref mm_start, .ref mm_off, .ref mm_last, .ref mm_passed, .ref mm_kept, .ref mm_keptMany, .int 0, .int 0, .ref mm_history, .ref mm_names, .ref mm_worked, .int 0, .int 0, .int (-1), .ref mm_readThing, .ref mm_readHour, .ref mm_readLow, .ref mm_readHigh, .int 0, .int 0, .int 0, .ref mm_imageOff, .ref mm_imageLast, .ref mm_imagePassed, .ref mm_imageKept, .ref mm_imageMany, .ref mm_imageHistory])), (mm_number, .inl (k_mm_number, 10, .inl (fun _ => 0))), (xx, .inr (10, [.ref rr, .ref ta, .ref tb, .ref pa, .ref pb, .ref cn, .ref ci, .int 0, .ref cp, .ref ct, .ref hs, .ref rd, .ref wy, .ref ea, .ref eb])), (ta, .inr (8, [.int 0, .int 0, .int 0, .int 0, .int 0, .ref ta_name, .ref ta_first, .ref ta_gain, .ref ta_rough, .ref ta_custom, .ref ta_part, .ref ta_whole, .ref ta_roundPerson, .ref ta_roundClock, .ref ta_roundHour, .ref ta_gunClock, .ref ta_gunHour, .ref tau]))] H := hP
  have hD : va_D A [(mm, .inr (11, [.int 0, .ref mm_tape, .int 0, .ref mm_number, .ref mm_clockName, .ref mm_clockOff, .ref mm_clockGain, .ref mm_clockRough, .ref mm_personName, .ref mm_personOff, .ref mm_personGain, .ref mm_personRough, .ref mm_custom, .ref mm_customA, .ref mm_customB, .ref mm_ruleFrom, .ref mm_ruleTo, .ref mm_roundOf, .ref mm_roundAt, .ref mm_roundHour, .ref mm_gunAt, .ref mm_gunHour, .ref mm_knotSort, .ref mm_knotValue, .int 0, .int 0, .int 0, .int 0, .int 0, .int 0, .int 0, .int 0, .int 0, .int (-1), .int 0, .int 0, .int 0, .int 0, .int 0, .int 0, .int 0, .int 0, .int 0, .int 0, .int 0, .int 0, .ref mm_start, .ref mm_off, .ref mm_last, .ref mm_passed, .ref mm_kept, .ref mm_keptMany, .int 0, .int 0, .ref mm_history, .ref mm_names, .ref mm_worked, .int 0, .int 0, .int (-1), .ref mm_readThing, .ref mm_readHour, .ref mm_readLow, .ref mm_readHigh, .int 0, .int 0, .int 0, .ref mm_imageOff, .ref mm_imageLast, .ref mm_imagePassed, .ref mm_imageKept, .ref mm_imageMany, .ref mm_imageHistory])), (mm_number, .inl (k_mm_number, 10, .inl (fun _ => 0))), (xx, .inr (10, [.ref rr, .ref ta, .ref tb, .ref pa, .ref pb, .ref cn, .ref ci, .int 0, .ref cp, .ref ct, .ref hs, .ref rd, .ref wy, .ref ea, .ref eb])), (ta, .inr (8, [.int 0, .int 0, .int 0, .int 0, .int 0, .ref ta_name, .ref ta_first, .ref ta_gain, .ref ta_rough, .ref ta_custom, .ref ta_part, .ref ta_whole, .ref ta_roundPerson, .ref ta_roundClock, .ref ta_roundHour, .ref ta_gunClock, .ref ta_gunHour, .ref tau]))] := hD
  clear hPc hDc hKc hFc hP1 hD1 hk1 hz1 ht hvm
  have hw : r_12 = -9223372036854775808 := hw
  subst r_12
  refine lv_aload_n hx hb dL_law_833 rfl (lv_at hl 2 rfl) ?_
  refine lv_aload_n hx hb dL_law_834 rfl (lv_at hl 4 rfl) ?_
  refine lv_iload hx hb dL_law_835 (lv_at hl 0 rfl) ?_
  refine lv_iconst (v := 1) hx hb dL_law_837 (by decide) ?_
  refine lv_iadd hx hb dL_law_838 ?_
  refine lv_topi (fun z_13 ez_13 => ?_)
  obtain rfl : z_13 = 1 := ez_13.trans (by decide)
  refine va_sld hx hb hX hbl hbA hS (pk_in 1 7 (by decide) (by decide) (by decide)) dL_law_839 ?_
  refine lv_topi (fun z_14 ez_14 => ?_)
  replace ez_14 : z_14 = xs 1 := ez_14
  subst z_14
  refine lv_aload_n hx hb dL_law_840 rfl (lv_at hl 4 rfl) ?_
  refine lv_iload hx hb dL_law_841 (lv_at hl 0 rfl) ?_
  refine lv_iconst (v := 2) hx hb dL_law_843 (by decide) ?_
  refine lv_iadd hx hb dL_law_844 ?_
  refine lv_topi (fun z_15 ez_15 => ?_)
  obtain rfl : z_15 = 2 := ez_15.trans (by decide)
  refine va_sld hx hb hX hbl hbA hS (pk_in 2 7 (by decide) (by decide) (by decide)) dL_law_845 ?_
  refine lv_topi (fun z_16 ez_16 => ?_)
  replace ez_16 : z_16 = xs 2 := ez_16
  subst z_16
  refine lv_aload_n hx hb dL_law_846 rfl (lv_at hl 4 rfl) ?_
  refine lv_iload hx hb dL_law_847 (lv_at hl 0 rfl) ?_
  refine lv_iconst (v := 3) hx hb dL_law_849 (by decide) ?_
  refine lv_iadd hx hb dL_law_850 ?_
  refine lv_topi (fun z_17 ez_17 => ?_)
  obtain rfl : z_17 = 3 := ez_17.trans (by decide)
  refine va_sld hx hb hX hbl hbA hS (pk_in 3 7 (by decide) (by decide) (by decide)) dL_law_851 ?_
  refine lv_topi (fun z_18 ez_18 => ?_)
  replace ez_18 : z_18 = xs 3 := ez_18
  subst z_18
  refine lv_aload_n hx hb dL_law_852 rfl (lv_at hl 4 rfl) ?_
  refine lv_iload hx hb dL_law_853 (lv_at hl 0 rfl) ?_
  refine lv_iconst (v := 4) hx hb dL_law_855 (by decide) ?_
  refine lv_iadd hx hb dL_law_856 ?_
  refine lv_topi (fun z_19 ez_19 => ?_)
  obtain rfl : z_19 = 4 := ez_19.trans (by decide)
  refine va_sld hx hb hX hbl hbA hS (pk_in 4 7 (by decide) (by decide) (by decide)) dL_law_857 ?_
  refine lv_topi (fun z_20 ez_20 => ?_)
  replace ez_20 : z_20 = xs 4 := ez_20
  subst z_20
  refine lv_aload_n hx hb dL_law_858 rfl (lv_at hl 4 rfl) ?_
  refine lv_iload hx hb dL_law_859 (lv_at hl 0 rfl) ?_
  refine lv_iconst (v := 5) hx hb dL_law_861 (by decide) ?_
  refine lv_iadd hx hb dL_law_862 ?_
  refine lv_topi (fun z_21 ez_21 => ?_)
  obtain rfl : z_21 = 5 := ez_21.trans (by decide)
  refine va_sld hx hb hX hbl hbA hS (pk_in 5 7 (by decide) (by decide) (by decide)) dL_law_863 ?_
  refine lv_topi (fun z_22 ez_22 => ?_)
  replace ez_22 : z_22 = xs 5 := ez_22
  subst z_22
  have hPc := hP.sub (ws' := [(mm, .inr (11, [.int 0, .ref mm_tape, .int 0, .ref mm_number, .ref mm_clockName, .ref mm_clockOff, .ref mm_clockGain, .ref mm_clockRough, .ref mm_personName, .ref mm_personOff, .ref mm_personGain, .ref mm_personRough, .ref mm_custom, .ref mm_customA, .ref mm_customB, .ref mm_ruleFrom, .ref mm_ruleTo, .ref mm_roundOf, .ref mm_roundAt, .ref mm_roundHour, .ref mm_gunAt, .ref mm_gunHour, .ref mm_knotSort, .ref mm_knotValue, .int 0, .int 0, .int 0, .int 0, .int 0, .int 0, .int 0, .int 0, .int 0, .int (-1), .int 0, .int 0, .int 0, .int 0, .int 0, .int 0, .int 0, .int 0, .int 0, .int 0, .int 0, .int 0, .ref mm_start, .ref mm_off, .ref mm_last, .ref mm_passed, .ref mm_kept, .ref mm_keptMany, .int 0, .int 0, .ref mm_history, .ref mm_names, .ref mm_worked, .int 0, .int 0, .int (-1), .ref mm_readThing, .ref mm_readHour, .ref mm_readLow, .ref mm_readHigh, .int 0, .int 0, .int 0, .ref mm_imageOff, .ref mm_imageLast, .ref mm_imagePassed, .ref mm_imageKept, .ref mm_imageMany, .ref mm_imageHistory])), (mm_number, .inl (k_mm_number, 10, .inl (fun _ => 0)))]) [0, 1] rfl
  have hDc := hD.sub (ws' := [(mm, .inr (11, [.int 0, .ref mm_tape, .int 0, .ref mm_number, .ref mm_clockName, .ref mm_clockOff, .ref mm_clockGain, .ref mm_clockRough, .ref mm_personName, .ref mm_personOff, .ref mm_personGain, .ref mm_personRough, .ref mm_custom, .ref mm_customA, .ref mm_customB, .ref mm_ruleFrom, .ref mm_ruleTo, .ref mm_roundOf, .ref mm_roundAt, .ref mm_roundHour, .ref mm_gunAt, .ref mm_gunHour, .ref mm_knotSort, .ref mm_knotValue, .int 0, .int 0, .int 0, .int 0, .int 0, .int 0, .int 0, .int 0, .int 0, .int (-1), .int 0, .int 0, .int 0, .int 0, .int 0, .int 0, .int 0, .int 0, .int 0, .int 0, .int 0, .int 0, .ref mm_start, .ref mm_off, .ref mm_last, .ref mm_passed, .ref mm_kept, .ref mm_keptMany, .int 0, .int 0, .ref mm_history, .ref mm_names, .ref mm_worked, .int 0, .int 0, .int (-1), .ref mm_readThing, .ref mm_readHour, .ref mm_readLow, .ref mm_readHigh, .int 0, .int 0, .int 0, .ref mm_imageOff, .ref mm_imageLast, .ref mm_imagePassed, .ref mm_imageKept, .ref mm_imageMany, .ref mm_imageHistory])), (mm_number, .inl (k_mm_number, 10, .inl (fun _ => 0)))]) [0, 1] (by decide) rfl
  have hKc := hK.sub (tys' := [(k_mm_number, .int)]) [0] rfl
  have hFc := va_free (wc := [(mm, .inr (11, [.int 0, .ref mm_tape, .int 0, .ref mm_number, .ref mm_clockName, .ref mm_clockOff, .ref mm_clockGain, .ref mm_clockRough, .ref mm_personName, .ref mm_personOff, .ref mm_personGain, .ref mm_personRough, .ref mm_custom, .ref mm_customA, .ref mm_customB, .ref mm_ruleFrom, .ref mm_ruleTo, .ref mm_roundOf, .ref mm_roundAt, .ref mm_roundHour, .ref mm_gunAt, .ref mm_gunHour, .ref mm_knotSort, .ref mm_knotValue, .int 0, .int 0, .int 0, .int 0, .int 0, .int 0, .int 0, .int 0, .int 0, .int (-1), .int 0, .int 0, .int 0, .int 0, .int 0, .int 0, .int 0, .int 0, .int 0, .int 0, .int 0, .int 0, .ref mm_start, .ref mm_off, .ref mm_last, .ref mm_passed, .ref mm_kept, .ref mm_keptMany, .int 0, .int 0, .ref mm_history, .ref mm_names, .ref mm_worked, .int 0, .int 0, .int (-1), .ref mm_readThing, .ref mm_readHour, .ref mm_readLow, .ref mm_readHigh, .int 0, .int 0, .int 0, .ref mm_imageOff, .ref mm_imageLast, .ref mm_imagePassed, .ref mm_imageKept, .ref mm_imageMany, .ref mm_imageHistory])), (mm_number, .inl (k_mm_number, 10, .inl (fun _ => 0)))]) hD hS hA [0, 1] rfl
  have := (by decide : (0 : Int32).toInt = 0)
  have := (by decide : (0 : Int32).toInt = 0)
  have := (by decide : (0 : Int32).toInt = 0)
  have := (by decide : (0 : Int32).toInt = 0)
  have := (by decide : (0 : Int32).toInt = 0)
  have := (by decide : (0 : Int32).toInt = 0)
  have := (by decide : (0 : Int32).toInt = 0)
  have := (by decide : (0 : Int32).toInt = 0)
  have := (by decide : (0 : Int32).toInt = 0)
  have := (by decide : (0 : Int32).toInt = 0)
  have := (by decide : (0 : Int32).toInt = 0)
  have := (by decide : ((-1) : Int32).toInt = -1)
  have := (by decide : (0 : Int32).toInt = 0)
  have := (by decide : (0 : Int32).toInt = 0)
  have := (by decide : (0 : Int32).toInt = 0)
  have := (by decide : (0 : Int32).toInt = 0)
  have := (by decide : (0 : Int32).toInt = 0)
  have := (by decide : (0 : Int32).toInt = 0)
  have := (by decide : (0 : Int32).toInt = 0)
  have := (by decide : (0 : Int32).toInt = 0)
  have := (by decide : (0 : Int32).toInt = 0)
  have := (by decide : (0 : Int32).toInt = 0)
  have := (by decide : (0 : Int32).toInt = 0)
  have := (by decide : (0 : Int32).toInt = 0)
  have := (by decide : (0 : Int32).toInt = 0)
  have := (by decide : (0 : Int32).toInt = 0)
  have := (by decide : (0 : Int32).toInt = 0)
  have := (by decide : (0 : Int32).toInt = 0)
  have := (by decide : ((-1) : Int32).toInt = -1)
  have := (by decide : (0 : Int32).toInt = 0)
  have := (by decide : (0 : Int32).toInt = 0)
  have := (by decide : (0 : Int32).toInt = 0)
  refine va_calll (va_runV (As := [.int (xs 1), .int (xs 2), .int (xs 3), .int (xs 4), .int (xs 5)]) (rest := [.long (-9223372036854775808)]) ⟨hx, hb, hml, hown, hT⟩ (c_X11_rule l dC dI H.size mm (xs 1) (xs 2) (xs 3) (xs 4) (xs 5) (0 : Int32) mm_tape (0 : Int32) mm_number mm_clockName mm_clockOff mm_clockGain mm_clockRough mm_personName mm_personOff mm_personGain mm_personRough mm_custom mm_customA mm_customB mm_ruleFrom mm_ruleTo mm_roundOf mm_roundAt mm_roundHour mm_gunAt mm_gunHour mm_knotSort mm_knotValue (0 : Int32) (0 : Int32) (0 : Int32) (0 : Int32) (0 : Int32) (0 : Int32) (0 : Int32) (0 : Int32) (0 : Int32) ((-1) : Int32) (0 : Int32) (0 : Int32) (0 : Int32) (0 : Int32) (0 : Int32) (0 : Int32) (0 : Int32) (0 : Int32) (0 : Int32) (0 : Int32) (0 : Int32) (0 : Int32) mm_start mm_off mm_last mm_passed mm_kept mm_keptMany (0 : Int32) (0 : Int32) mm_history mm_names mm_worked (0 : Int32) (0 : Int32) ((-1) : Int32) mm_readThing mm_readHour mm_readLow mm_readHigh (0 : Int32) (0 : Int32) (0 : Int32) mm_imageOff mm_imageLast mm_imagePassed mm_imageKept mm_imageMany mm_imageHistory k_mm_number (fun _ => 0) (fun _ => rfl)) (cwV 5 hT (gwV mw_7_179 mw_7_180 mw_7_181 mw_1_16 mw_7_182) rfl rfl rfl (by decide +kernel) ⟨Nat.le_of_ble_eq_true rfl, Nat.le_of_ble_eq_true rfl⟩) ⟨fun a U g mk q => by obtain ⟨q0, q1, qP, qK, qD⟩ := q; exact ⟨q0, q1, qP, va_K.moved (u := U) (U := U.calling g mk a) (Vm.Alike.refl U.vm) qK, qD⟩, va_recv hK hP (ci := 11) (q0 := 0) rfl rfl, fun U hU hW => ⟨rfl, by rw [hU], by rw [hU]; exact hPc, va_K.moved hW.alike hKc, hDc.weaken (fun _ _ _ _ => trivial)⟩⟩ rfl rfl hl.1 rfl (lv_room (Nat.le_of_ble_eq_true rfl)) dL_law_864 ⟨Nat.le_of_ble_eq_true rfl, Nat.le_of_ble_eq_true rfl⟩) hS (fun q _ h => hFc q h) hFc (fun r_24 u t H1 locs ht hvm hw hB hz1 hk1 hS => ?_)
  obtain ⟨hP1, hD1⟩ := hB
  rw [ht] at hP1
  obtain ⟨hP, hD⟩ := va_join (wr := [(xx, .inr (10, [.ref rr, .ref ta, .ref tb, .ref pa, .ref pb, .ref cn, .ref ci, .int 0, .ref cp, .ref ct, .ref hs, .ref rd, .ref wy, .ref ea, .ref eb])), (ta, .inr (8, [.int 0, .int 0, .int 0, .int 0, .int 0, .ref ta_name, .ref ta_first, .ref ta_gain, .ref ta_rough, .ref ta_custom, .ref ta_part, .ref ta_whole, .ref ta_roundPerson, .ref ta_roundClock, .ref ta_roundHour, .ref ta_gunClock, .ref ta_gunHour, .ref tau]))]) (w1 := [(mm, .inr (11, [.int 0, .ref mm_tape, .int 0, .ref mm_number, .ref mm_clockName, .ref mm_clockOff, .ref mm_clockGain, .ref mm_clockRough, .ref mm_personName, .ref mm_personOff, .ref mm_personGain, .ref mm_personRough, .ref mm_custom, .ref mm_customA, .ref mm_customB, .ref mm_ruleFrom, .ref mm_ruleTo, .ref mm_roundOf, .ref mm_roundAt, .ref mm_roundHour, .ref mm_gunAt, .ref mm_gunHour, .ref mm_knotSort, .ref mm_knotValue, .int 0, .int 0, .int 0, .int 0, .int 0, .int 0, .int 0, .int 0, .int 0, .int (-1), .int 0, .int 0, .int 0, .int 0, .int 0, .int 0, .int 0, .int 0, .int 0, .int 0, .int 0, .int 0, .ref mm_start, .ref mm_off, .ref mm_last, .ref mm_passed, .ref mm_kept, .ref mm_keptMany, .int 0, .int 0, .ref mm_history, .ref mm_names, .ref mm_worked, .int 0, .int 0, .int (-1), .ref mm_readThing, .ref mm_readHour, .ref mm_readLow, .ref mm_readHigh, .int 0, .int 0, .int 0, .ref mm_imageOff, .ref mm_imageLast, .ref mm_imagePassed, .ref mm_imageKept, .ref mm_imageMany, .ref mm_imageHistory])), (mm_number, .inl (k_mm_number, 10, .inl (fun _ => 0)))]) hP hD [0, 1] [2, 3] rfl rfl (by decide) (by decide) hk1 hFc hP1 hD1
  generalize H1 = H at hP hS ⊢
  have hP : va_P (dC, dI) vwCl [(xx, .inr (10, [.ref rr, .ref ta, .ref tb, .ref pa, .ref pb, .ref cn, .ref ci, .int 0, .ref cp, .ref ct, .ref hs, .ref rd, .ref wy, .ref ea, .ref eb])), (ta, .inr (8, [.int 0, .int 0, .int 0, .int 0, .int 0, .ref ta_name, .ref ta_first, .ref ta_gain, .ref ta_rough, .ref ta_custom, .ref ta_part, .ref ta_whole, .ref ta_roundPerson, .ref ta_roundClock, .ref ta_roundHour, .ref ta_gunClock, .ref ta_gunHour, .ref tau])), (mm, .inr (11, [.int 0, .ref mm_tape, .int 0, .ref mm_number, .ref mm_clockName, .ref mm_clockOff, .ref mm_clockGain, .ref mm_clockRough, .ref mm_personName, .ref mm_personOff, .ref mm_personGain, .ref mm_personRough, .ref mm_custom, .ref mm_customA, .ref mm_customB, .ref mm_ruleFrom, .ref mm_ruleTo, .ref mm_roundOf, .ref mm_roundAt, .ref mm_roundHour, .ref mm_gunAt, .ref mm_gunHour, .ref mm_knotSort, .ref mm_knotValue, .int 0, .int 0, .int 0, .int 0, .int 0, .int 0, .int 0, .int 0, .int 0, .int (-1), .int 0, .int 0, .int 0, .int 0, .int 0, .int 0, .int 0, .int 0, .int 0, .int 0, .int 0, .int 0, .ref mm_start, .ref mm_off, .ref mm_last, .ref mm_passed, .ref mm_kept, .ref mm_keptMany, .int 0, .int 0, .ref mm_history, .ref mm_names, .ref mm_worked, .int 0, .int 0, .int (-1), .ref mm_readThing, .ref mm_readHour, .ref mm_readLow, .ref mm_readHigh, .int 0, .int 0, .int 0, .ref mm_imageOff, .ref mm_imageLast, .ref mm_imagePassed, .ref mm_imageKept, .ref mm_imageMany, .ref mm_imageHistory])), (mm_number, .inl (k_mm_number, 10, .inl (fun _ => 0)))] H := hP
  have hD : va_D A [(xx, .inr (10, [.ref rr, .ref ta, .ref tb, .ref pa, .ref pb, .ref cn, .ref ci, .int 0, .ref cp, .ref ct, .ref hs, .ref rd, .ref wy, .ref ea, .ref eb])), (ta, .inr (8, [.int 0, .int 0, .int 0, .int 0, .int 0, .ref ta_name, .ref ta_first, .ref ta_gain, .ref ta_rough, .ref ta_custom, .ref ta_part, .ref ta_whole, .ref ta_roundPerson, .ref ta_roundClock, .ref ta_roundHour, .ref ta_gunClock, .ref ta_gunHour, .ref tau])), (mm, .inr (11, [.int 0, .ref mm_tape, .int 0, .ref mm_number, .ref mm_clockName, .ref mm_clockOff, .ref mm_clockGain, .ref mm_clockRough, .ref mm_personName, .ref mm_personOff, .ref mm_personGain, .ref mm_personRough, .ref mm_custom, .ref mm_customA, .ref mm_customB, .ref mm_ruleFrom, .ref mm_ruleTo, .ref mm_roundOf, .ref mm_roundAt, .ref mm_roundHour, .ref mm_gunAt, .ref mm_gunHour, .ref mm_knotSort, .ref mm_knotValue, .int 0, .int 0, .int 0, .int 0, .int 0, .int 0, .int 0, .int 0, .int 0, .int (-1), .int 0, .int 0, .int 0, .int 0, .int 0, .int 0, .int 0, .int 0, .int 0, .int 0, .int 0, .int 0, .ref mm_start, .ref mm_off, .ref mm_last, .ref mm_passed, .ref mm_kept, .ref mm_keptMany, .int 0, .int 0, .ref mm_history, .ref mm_names, .ref mm_worked, .int 0, .int 0, .int (-1), .ref mm_readThing, .ref mm_readHour, .ref mm_readLow, .ref mm_readHigh, .int 0, .int 0, .int 0, .ref mm_imageOff, .ref mm_imageLast, .ref mm_imagePassed, .ref mm_imageKept, .ref mm_imageMany, .ref mm_imageHistory])), (mm_number, .inl (k_mm_number, 10, .inl (fun _ => 0)))] := hD
  clear hPc hDc hKc hFc hP1 hD1 hk1 hz1 ht hvm
  have hw : r_24 = -9223372036854775808 := hw
  subst r_24
  refine W.lcmp hx hb dL_law_867 ?_
  refine lv_topi (fun z_25 ez_25 => ?_)
  obtain rfl : z_25 = 0 := ez_25.trans (by decide)
  refine lv_if_eq (tgt := 1482) hx hb dL_law_868 (by decide) (fun c_26 => ?_) (fun c_26 => absurd c_26 (by decide))
  refine lv_iinc (v := 7) (lv' := [(4, .int 7), (3, .ref oo), (2, .ref mm), (1, .ref xx), (0, .ref b)]) hx hb dL_law_1482 hl (k := 0) rfl (by decide) (by decide) rfl (fun ls hl => ?_)
  refine lv_goto (tgt := 23) hx hb dL_law_1485 (by decide) ?_
  refine lv_iload hx hb dL_law_23 (lv_at hl 0 rfl) ?_
  refine lv_aload_n hx hb dL_law_25 rfl (lv_at hl 4 rfl) ?_
  refine va_slen hx hb hX hbl hbA hS dL_law_26 ?_
  refine lv_topi (fun z_27 ez_27 => ?_)
  obtain rfl : z_27 = 7 := ez_27.trans (by decide)
  refine lv_bipush (v := 7) hx hb dL_law_27 (by decide) ?_
  refine lv_isub hx hb dL_law_29 ?_
  refine lv_topi (fun z_28 ez_28 => ?_)
  obtain rfl : z_28 = 0 := ez_28.trans (by decide)
  refine lv_icmp_gt (tgt := 1488) hx hb dL_law_30 (by decide) (fun c_29 => ?_) (fun c_29 => absurd c_29 (by decide))
  refine lv_iconst (v := 1) hx hb dL_law_1488 (by decide) ?_
  refine va_forget (fun q hq => hAo _ (hS.2.2 q hq)) ?_
  refine W.widen (k := 600002) (n := 7302232) (Nat.le_of_ble_eq_true rfl) (Nat.le_of_ble_eq_true rfl) ?_
  exact lw_ret hx hb hr hlocks dL_law_1489
set_option maxHeartbeats 4000000 in
set_option maxRecDepth 100000 in
theorem law_op_15 {p : Program} {l : Launch} {e : Env} {s : State} {m : MethodId} {below : List Frame} {meth : Method} {c : Code} {dC : Nat → ClassId} {dI : Nat → Nat → Nat} {b : Nat} {xs : Nat → Int32} {A : Nat → Prop} (C0 : lw_At p s m meth c b 7 xs) (hA : ∀ q, s.heap.size ≤ q → A q) (hbA : ¬ A b) (hAo : ∀ q, A q → s.heap.size ≤ q) {xx : Nat} {rr : Nat} {ta : Nat} {tb : Nat} {pa : Nat} {pb : Nat} {cn : Nat} {ci : Nat} {cp : Nat} {ct : Nat} {hs : Nat} {rd : Nat} {wy : Nat} {ea : Nat} {eb : Nat} {ta_name : Nat} {ta_first : Nat} {ta_gain : Nat} {ta_rough : Nat} {ta_custom : Nat} {ta_part : Nat} {ta_whole : Nat} {ta_roundPerson : Nat} {ta_roundClock : Nat} {ta_roundHour : Nat} {ta_gunClock : Nat} {ta_gunHour : Nat} {tau : Nat} {mm : Nat} {mm_tape : Nat} {mm_number : Nat} {mm_clockName : Nat} {mm_clockOff : Nat} {mm_clockGain : Nat} {mm_clockRough : Nat} {mm_personName : Nat} {mm_personOff : Nat} {mm_personGain : Nat} {mm_personRough : Nat} {mm_custom : Nat} {mm_customA : Nat} {mm_customB : Nat} {mm_ruleFrom : Nat} {mm_ruleTo : Nat} {mm_roundOf : Nat} {mm_roundAt : Nat} {mm_roundHour : Nat} {mm_gunAt : Nat} {mm_gunHour : Nat} {mm_knotSort : Nat} {mm_knotValue : Nat} {mm_start : Nat} {mm_off : Nat} {mm_last : Nat} {mm_passed : Nat} {mm_kept : Nat} {mm_keptMany : Nat} {mm_history : Nat} {mm_names : Nat} {mm_worked : Nat} {mm_readThing : Nat} {mm_readHour : Nat} {mm_readLow : Nat} {mm_readHigh : Nat} {mm_imageOff : Nat} {mm_imageLast : Nat} {mm_imagePassed : Nat} {mm_imageKept : Nat} {mm_imageMany : Nat} {mm_imageHistory : Nat} {k_mm_number : ClassId} {oo : Nat} {H : Heap} {locs : List Loc} {ls : Array Slot} (hK : va_K (dC, dI) vwCl [(k_mm_number, .int)] s) (hP : va_P (dC, dI) vwCl [(xx, .inr (10, [.ref rr, .ref ta, .ref tb, .ref pa, .ref pb, .ref cn, .ref ci, .int 0, .ref cp, .ref ct, .ref hs, .ref rd, .ref wy, .ref ea, .ref eb])), (ta, .inr (8, [.int 0, .int 0, .int 0, .int 0, .int 0, .ref ta_name, .ref ta_first, .ref ta_gain, .ref ta_rough, .ref ta_custom, .ref ta_part, .ref ta_whole, .ref ta_roundPerson, .ref ta_roundClock, .ref ta_roundHour, .ref ta_gunClock, .ref ta_gunHour, .ref tau])), (mm, .inr (11, [.int 0, .ref mm_tape, .int 0, .ref mm_number, .ref mm_clockName, .ref mm_clockOff, .ref mm_clockGain, .ref mm_clockRough, .ref mm_personName, .ref mm_personOff, .ref mm_personGain, .ref mm_personRough, .ref mm_custom, .ref mm_customA, .ref mm_customB, .ref mm_ruleFrom, .ref mm_ruleTo, .ref mm_roundOf, .ref mm_roundAt, .ref mm_roundHour, .ref mm_gunAt, .ref mm_gunHour, .ref mm_knotSort, .ref mm_knotValue, .int 0, .int 0, .int 0, .int 0, .int 0, .int 0, .int 0, .int 0, .int 0, .int (-1), .int 0, .int 0, .int 0, .int 0, .int 0, .int 0, .int 0, .int 0, .int 0, .int 0, .int 0, .int 0, .ref mm_start, .ref mm_off, .ref mm_last, .ref mm_passed, .ref mm_kept, .ref mm_keptMany, .int 0, .int 0, .ref mm_history, .ref mm_names, .ref mm_worked, .int 0, .int 0, .int (-1), .ref mm_readThing, .ref mm_readHour, .ref mm_readLow, .ref mm_readHigh, .int 0, .int 0, .int 0, .ref mm_imageOff, .ref mm_imageLast, .ref mm_imagePassed, .ref mm_imageKept, .ref mm_imageMany, .ref mm_imageHistory])), (mm_number, .inl (k_mm_number, 10, .inl (fun _ => 0)))] H) (hD : va_D A [(xx, .inr (10, [.ref rr, .ref ta, .ref tb, .ref pa, .ref pb, .ref cn, .ref ci, .int 0, .ref cp, .ref ct, .ref hs, .ref rd, .ref wy, .ref ea, .ref eb])), (ta, .inr (8, [.int 0, .int 0, .int 0, .int 0, .int 0, .ref ta_name, .ref ta_first, .ref ta_gain, .ref ta_rough, .ref ta_custom, .ref ta_part, .ref ta_whole, .ref ta_roundPerson, .ref ta_roundClock, .ref ta_roundHour, .ref ta_gunClock, .ref ta_gunHour, .ref tau])), (mm, .inr (11, [.int 0, .ref mm_tape, .int 0, .ref mm_number, .ref mm_clockName, .ref mm_clockOff, .ref mm_clockGain, .ref mm_clockRough, .ref mm_personName, .ref mm_personOff, .ref mm_personGain, .ref mm_personRough, .ref mm_custom, .ref mm_customA, .ref mm_customB, .ref mm_ruleFrom, .ref mm_ruleTo, .ref mm_roundOf, .ref mm_roundAt, .ref mm_roundHour, .ref mm_gunAt, .ref mm_gunHour, .ref mm_knotSort, .ref mm_knotValue, .int 0, .int 0, .int 0, .int 0, .int 0, .int 0, .int 0, .int 0, .int 0, .int (-1), .int 0, .int 0, .int 0, .int 0, .int 0, .int 0, .int 0, .int 0, .int 0, .int 0, .int 0, .int 0, .ref mm_start, .ref mm_off, .ref mm_last, .ref mm_passed, .ref mm_kept, .ref mm_keptMany, .int 0, .int 0, .ref mm_history, .ref mm_names, .ref mm_worked, .int 0, .int 0, .int (-1), .ref mm_readThing, .ref mm_readHour, .ref mm_readLow, .ref mm_readHigh, .int 0, .int 0, .int 0, .ref mm_imageOff, .ref mm_imageLast, .ref mm_imagePassed, .ref mm_imageKept, .ref mm_imageMany, .ref mm_imageHistory])), (mm_number, .inl (k_mm_number, 10, .inl (fun _ => 0)))]) (hS : va_S A s.heap H locs) (hl : lv_has ls 7 [(4, .int 0), (3, .ref oo), (2, .ref mm), (1, .ref xx), (0, .ref b)]) : W p l e room_1 s m #[Value.ref b] below meth c H locs 160 67979 (lw_Z below #[Value.ref b] s) (F0 m 873 ls []) := by
  obtain ⟨hx, hb, hr, hml, hown, hts, hX, hbl, hlocks, hgv⟩ := C0
  have hT : ∀ w ∈ pw_T, w.before #[Value.ref b] s = true := fun w h => hts w (List.mem_filter.mp h).1
  have hown : s.vm.findClass RL = some m.cls := hown
  refine lv_aload_n hx hb dL_law_873 rfl (lv_at hl 3 rfl) ?_
  refine lv_aload_n hx hb dL_law_874 rfl (lv_at hl 4 rfl) ?_
  refine lv_iload hx hb dL_law_875 (lv_at hl 0 rfl) ?_
  refine lv_iconst (v := 1) hx hb dL_law_877 (by decide) ?_
  refine lv_iadd hx hb dL_law_878 ?_
  refine lv_topi (fun z_1 ez_1 => ?_)
  obtain rfl : z_1 = 1 := ez_1.trans (by decide)
  refine va_sld hx hb hX hbl hbA hS (pk_in 1 7 (by decide) (by decide) (by decide)) dL_law_879 ?_
  refine lv_topi (fun z_2 ez_2 => ?_)
  replace ez_2 : z_2 = xs 1 := ez_2
  subst z_2
  refine lv_aload_n hx hb dL_law_880 rfl (lv_at hl 4 rfl) ?_
  refine lv_iload hx hb dL_law_881 (lv_at hl 0 rfl) ?_
  refine lv_iconst (v := 2) hx hb dL_law_883 (by decide) ?_
  refine lv_iadd hx hb dL_law_884 ?_
  refine lv_topi (fun z_3 ez_3 => ?_)
  obtain rfl : z_3 = 2 := ez_3.trans (by decide)
  refine va_sld hx hb hX hbl hbA hS (pk_in 2 7 (by decide) (by decide) (by decide)) dL_law_885 ?_
  refine lv_topi (fun z_4 ez_4 => ?_)
  replace ez_4 : z_4 = xs 2 := ez_4
  subst z_4
  refine lv_aload_n hx hb dL_law_886 rfl (lv_at hl 4 rfl) ?_
  refine lv_iload hx hb dL_law_887 (lv_at hl 0 rfl) ?_
  refine lv_iconst (v := 3) hx hb dL_law_889 (by decide) ?_
  refine lv_iadd hx hb dL_law_890 ?_
  refine lv_topi (fun z_5 ez_5 => ?_)
  obtain rfl : z_5 = 3 := ez_5.trans (by decide)
  refine va_sld hx hb hX hbl hbA hS (pk_in 3 7 (by decide) (by decide) (by decide)) dL_law_891 ?_
  refine lv_topi (fun z_6 ez_6 => ?_)
  replace ez_6 : z_6 = xs 3 := ez_6
  subst z_6
  have hPc := hP.sub (ws' := [(xx, .inr (10, [.ref rr, .ref ta, .ref tb, .ref pa, .ref pb, .ref cn, .ref ci, .int 0, .ref cp, .ref ct, .ref hs, .ref rd, .ref wy, .ref ea, .ref eb])), (ta, .inr (8, [.int 0, .int 0, .int 0, .int 0, .int 0, .ref ta_name, .ref ta_first, .ref ta_gain, .ref ta_rough, .ref ta_custom, .ref ta_part, .ref ta_whole, .ref ta_roundPerson, .ref ta_roundClock, .ref ta_roundHour, .ref ta_gunClock, .ref ta_gunHour, .ref tau]))]) [0, 1] rfl
  have hDc := hD.sub (ws' := [(xx, .inr (10, [.ref rr, .ref ta, .ref tb, .ref pa, .ref pb, .ref cn, .ref ci, .int 0, .ref cp, .ref ct, .ref hs, .ref rd, .ref wy, .ref ea, .ref eb])), (ta, .inr (8, [.int 0, .int 0, .int 0, .int 0, .int 0, .ref ta_name, .ref ta_first, .ref ta_gain, .ref ta_rough, .ref ta_custom, .ref ta_part, .ref ta_whole, .ref ta_roundPerson, .ref ta_roundClock, .ref ta_roundHour, .ref ta_gunClock, .ref ta_gunHour, .ref tau]))]) [0, 1] (by decide) rfl
  have hKc := hK.sub (tys' := []) [] rfl
  have hFc := va_free (wc := [(xx, .inr (10, [.ref rr, .ref ta, .ref tb, .ref pa, .ref pb, .ref cn, .ref ci, .int 0, .ref cp, .ref ct, .ref hs, .ref rd, .ref wy, .ref ea, .ref eb])), (ta, .inr (8, [.int 0, .int 0, .int 0, .int 0, .int 0, .ref ta_name, .ref ta_first, .ref ta_gain, .ref ta_rough, .ref ta_custom, .ref ta_part, .ref ta_whole, .ref ta_roundPerson, .ref ta_roundClock, .ref ta_roundHour, .ref ta_gunClock, .ref ta_gunHour, .ref tau]))]) hD hS hA [0, 1] rfl
  refine va_calli (va_runV (As := [.int (xs 1), .int (xs 2), .int (xs 3)]) (rest := []) ⟨hx, hb, hml, hown, hT⟩ (c_X10_moved l dC dI H.size xx (xs 1) (xs 2) (xs 3) rr ta tb pa pb cn ci (0 : Int32) cp ct hs rd wy ea eb (0 : Int32) (0 : Int32) (0 : Int32) ta_name ta_first ta_gain ta_rough ta_custom ta_part ta_whole ta_roundPerson ta_roundClock ta_roundHour ta_gunClock ta_gunHour tau ) (cwV 3 hT (gwV mw_4_202 mw_4_203 mw_4_204 mw_1_1 mw_4_205) rfl rfl rfl (by decide +kernel) ⟨Nat.le_of_ble_eq_true rfl, Nat.le_of_ble_eq_true rfl⟩) ⟨fun a U g mk q => by obtain ⟨q0, q1, qP, qK, qD⟩ := q; exact ⟨q0, q1, qP, va_K.moved (u := U) (U := U.calling g mk a) (Vm.Alike.refl U.vm) qK, qD⟩, va_recv hK hP (ci := 10) (q0 := 0) rfl rfl, fun U hU hW => ⟨rfl, by rw [hU], by rw [hU]; exact hPc, va_K.moved hW.alike hKc, hDc.weaken (fun _ _ _ _ => trivial)⟩⟩ rfl rfl hl.1 rfl (lv_room (Nat.le_of_ble_eq_true rfl)) dL_law_892 ⟨Nat.le_of_ble_eq_true rfl, Nat.le_of_ble_eq_true rfl⟩) hS (fun q _ h => hFc q h) hFc (fun r_8 u t H1 locs ht hvm hw hB hz1 hk1 hS => ?_)
  obtain ⟨hP1, hD1⟩ := hB
  rw [ht] at hP1
  obtain ⟨hP, hD⟩ := va_join (wr := [(mm, .inr (11, [.int 0, .ref mm_tape, .int 0, .ref mm_number, .ref mm_clockName, .ref mm_clockOff, .ref mm_clockGain, .ref mm_clockRough, .ref mm_personName, .ref mm_personOff, .ref mm_personGain, .ref mm_personRough, .ref mm_custom, .ref mm_customA, .ref mm_customB, .ref mm_ruleFrom, .ref mm_ruleTo, .ref mm_roundOf, .ref mm_roundAt, .ref mm_roundHour, .ref mm_gunAt, .ref mm_gunHour, .ref mm_knotSort, .ref mm_knotValue, .int 0, .int 0, .int 0, .int 0, .int 0, .int 0, .int 0, .int 0, .int 0, .int (-1), .int 0, .int 0, .int 0, .int 0, .int 0, .int 0, .int 0, .int 0, .int 0, .int 0, .int 0, .int 0, .ref mm_start, .ref mm_off, .ref mm_last, .ref mm_passed, .ref mm_kept, .ref mm_keptMany, .int 0, .int 0, .ref mm_history, .ref mm_names, .ref mm_worked, .int 0, .int 0, .int (-1), .ref mm_readThing, .ref mm_readHour, .ref mm_readLow, .ref mm_readHigh, .int 0, .int 0, .int 0, .ref mm_imageOff, .ref mm_imageLast, .ref mm_imagePassed, .ref mm_imageKept, .ref mm_imageMany, .ref mm_imageHistory])), (mm_number, .inl (k_mm_number, 10, .inl (fun _ => 0)))]) (w1 := [(xx, .inr (10, [.ref rr, .ref ta, .ref tb, .ref pa, .ref pb, .ref cn, .ref ci, .int 0, .ref cp, .ref ct, .ref hs, .ref rd, .ref wy, .ref ea, .ref eb])), (ta, .inr (8, [.int 0, .int 0, .int 0, .int 0, .int 0, .ref ta_name, .ref ta_first, .ref ta_gain, .ref ta_rough, .ref ta_custom, .ref ta_part, .ref ta_whole, .ref ta_roundPerson, .ref ta_roundClock, .ref ta_roundHour, .ref ta_gunClock, .ref ta_gunHour, .ref tau]))]) hP hD [0, 1] [2, 3] rfl rfl (by decide) (by decide) hk1 hFc hP1 hD1
  generalize H1 = H at hP hS ⊢
  have hP : va_P (dC, dI) vwCl [(mm, .inr (11, [.int 0, .ref mm_tape, .int 0, .ref mm_number, .ref mm_clockName, .ref mm_clockOff, .ref mm_clockGain, .ref mm_clockRough, .ref mm_personName, .ref mm_personOff, .ref mm_personGain, .ref mm_personRough, .ref mm_custom, .ref mm_customA, .ref mm_customB, .ref mm_ruleFrom, .ref mm_ruleTo, .ref mm_roundOf, .ref mm_roundAt, .ref mm_roundHour, .ref mm_gunAt, .ref mm_gunHour, .ref mm_knotSort, .ref mm_knotValue, .int 0, .int 0, .int 0, .int 0, .int 0, .int 0, .int 0, .int 0, .int 0, .int (-1), .int 0, .int 0, .int 0, .int 0, .int 0, .int 0, .int 0, .int 0, .int 0, .int 0, .int 0, .int 0, .ref mm_start, .ref mm_off, .ref mm_last, .ref mm_passed, .ref mm_kept, .ref mm_keptMany, .int 0, .int 0, .ref mm_history, .ref mm_names, .ref mm_worked, .int 0, .int 0, .int (-1), .ref mm_readThing, .ref mm_readHour, .ref mm_readLow, .ref mm_readHigh, .int 0, .int 0, .int 0, .ref mm_imageOff, .ref mm_imageLast, .ref mm_imagePassed, .ref mm_imageKept, .ref mm_imageMany, .ref mm_imageHistory])), (mm_number, .inl (k_mm_number, 10, .inl (fun _ => 0))), (xx, .inr (10, [.ref rr, .ref ta, .ref tb, .ref pa, .ref pb, .ref cn, .ref ci, .int 0, .ref cp, .ref ct, .ref hs, .ref rd, .ref wy, .ref ea, .ref eb])), (ta, .inr (8, [.int 0, .int 0, .int 0, .int 0, .int 0, .ref ta_name, .ref ta_first, .ref ta_gain, .ref ta_rough, .ref ta_custom, .ref ta_part, .ref ta_whole, .ref ta_roundPerson, .ref ta_roundClock, .ref ta_roundHour, .ref ta_gunClock, .ref ta_gunHour, .ref tau]))] H := hP
  have hD : va_D A [(mm, .inr (11, [.int 0, .ref mm_tape, .int 0, .ref mm_number, .ref mm_clockName, .ref mm_clockOff, .ref mm_clockGain, .ref mm_clockRough, .ref mm_personName, .ref mm_personOff, .ref mm_personGain, .ref mm_personRough, .ref mm_custom, .ref mm_customA, .ref mm_customB, .ref mm_ruleFrom, .ref mm_ruleTo, .ref mm_roundOf, .ref mm_roundAt, .ref mm_roundHour, .ref mm_gunAt, .ref mm_gunHour, .ref mm_knotSort, .ref mm_knotValue, .int 0, .int 0, .int 0, .int 0, .int 0, .int 0, .int 0, .int 0, .int 0, .int (-1), .int 0, .int 0, .int 0, .int 0, .int 0, .int 0, .int 0, .int 0, .int 0, .int 0, .int 0, .int 0, .ref mm_start, .ref mm_off, .ref mm_last, .ref mm_passed, .ref mm_kept, .ref mm_keptMany, .int 0, .int 0, .ref mm_history, .ref mm_names, .ref mm_worked, .int 0, .int 0, .int (-1), .ref mm_readThing, .ref mm_readHour, .ref mm_readLow, .ref mm_readHigh, .int 0, .int 0, .int 0, .ref mm_imageOff, .ref mm_imageLast, .ref mm_imagePassed, .ref mm_imageKept, .ref mm_imageMany, .ref mm_imageHistory])), (mm_number, .inl (k_mm_number, 10, .inl (fun _ => 0))), (xx, .inr (10, [.ref rr, .ref ta, .ref tb, .ref pa, .ref pb, .ref cn, .ref ci, .int 0, .ref cp, .ref ct, .ref hs, .ref rd, .ref wy, .ref ea, .ref eb])), (ta, .inr (8, [.int 0, .int 0, .int 0, .int 0, .int 0, .ref ta_name, .ref ta_first, .ref ta_gain, .ref ta_rough, .ref ta_custom, .ref ta_part, .ref ta_whole, .ref ta_roundPerson, .ref ta_roundClock, .ref ta_roundHour, .ref ta_gunClock, .ref ta_gunHour, .ref tau]))] := hD
  clear hPc hDc hKc hFc hP1 hD1 hk1 hz1 ht hvm
  have hw : r_8 = -2147483648 := hw
  subst r_8
  refine lv_aload_n hx hb dL_law_895 rfl (lv_at hl 2 rfl) ?_
  refine lv_aload_n hx hb dL_law_896 rfl (lv_at hl 4 rfl) ?_
  refine lv_iload hx hb dL_law_897 (lv_at hl 0 rfl) ?_
  refine lv_iconst (v := 1) hx hb dL_law_899 (by decide) ?_
  refine lv_iadd hx hb dL_law_900 ?_
  refine lv_topi (fun z_9 ez_9 => ?_)
  obtain rfl : z_9 = 1 := ez_9.trans (by decide)
  refine va_sld hx hb hX hbl hbA hS (pk_in 1 7 (by decide) (by decide) (by decide)) dL_law_901 ?_
  refine lv_topi (fun z_10 ez_10 => ?_)
  replace ez_10 : z_10 = xs 1 := ez_10
  subst z_10
  refine lv_aload_n hx hb dL_law_902 rfl (lv_at hl 4 rfl) ?_
  refine lv_iload hx hb dL_law_903 (lv_at hl 0 rfl) ?_
  refine lv_iconst (v := 2) hx hb dL_law_905 (by decide) ?_
  refine lv_iadd hx hb dL_law_906 ?_
  refine lv_topi (fun z_11 ez_11 => ?_)
  obtain rfl : z_11 = 2 := ez_11.trans (by decide)
  refine va_sld hx hb hX hbl hbA hS (pk_in 2 7 (by decide) (by decide) (by decide)) dL_law_907 ?_
  refine lv_topi (fun z_12 ez_12 => ?_)
  replace ez_12 : z_12 = xs 2 := ez_12
  subst z_12
  refine lv_aload_n hx hb dL_law_908 rfl (lv_at hl 4 rfl) ?_
  refine lv_iload hx hb dL_law_909 (lv_at hl 0 rfl) ?_
  refine lv_iconst (v := 3) hx hb dL_law_911 (by decide) ?_
  refine lv_iadd hx hb dL_law_912 ?_
  refine lv_topi (fun z_13 ez_13 => ?_)
  obtain rfl : z_13 = 3 := ez_13.trans (by decide)
  refine va_sld hx hb hX hbl hbA hS (pk_in 3 7 (by decide) (by decide) (by decide)) dL_law_913 ?_
  refine lv_topi (fun z_14 ez_14 => ?_)
  replace ez_14 : z_14 = xs 3 := ez_14
  subst z_14
  have hPc := hP.sub (ws' := [(mm, .inr (11, [.int 0, .ref mm_tape, .int 0, .ref mm_number, .ref mm_clockName, .ref mm_clockOff, .ref mm_clockGain, .ref mm_clockRough, .ref mm_personName, .ref mm_personOff, .ref mm_personGain, .ref mm_personRough, .ref mm_custom, .ref mm_customA, .ref mm_customB, .ref mm_ruleFrom, .ref mm_ruleTo, .ref mm_roundOf, .ref mm_roundAt, .ref mm_roundHour, .ref mm_gunAt, .ref mm_gunHour, .ref mm_knotSort, .ref mm_knotValue, .int 0, .int 0, .int 0, .int 0, .int 0, .int 0, .int 0, .int 0, .int 0, .int (-1), .int 0, .int 0, .int 0, .int 0, .int 0, .int 0, .int 0, .int 0, .int 0, .int 0, .int 0, .int 0, .ref mm_start, .ref mm_off, .ref mm_last, .ref mm_passed, .ref mm_kept, .ref mm_keptMany, .int 0, .int 0, .ref mm_history, .ref mm_names, .ref mm_worked, .int 0, .int 0, .int (-1), .ref mm_readThing, .ref mm_readHour, .ref mm_readLow, .ref mm_readHigh, .int 0, .int 0, .int 0, .ref mm_imageOff, .ref mm_imageLast, .ref mm_imagePassed, .ref mm_imageKept, .ref mm_imageMany, .ref mm_imageHistory])), (mm_number, .inl (k_mm_number, 10, .inl (fun _ => 0)))]) [0, 1] rfl
  have hDc := hD.sub (ws' := [(mm, .inr (11, [.int 0, .ref mm_tape, .int 0, .ref mm_number, .ref mm_clockName, .ref mm_clockOff, .ref mm_clockGain, .ref mm_clockRough, .ref mm_personName, .ref mm_personOff, .ref mm_personGain, .ref mm_personRough, .ref mm_custom, .ref mm_customA, .ref mm_customB, .ref mm_ruleFrom, .ref mm_ruleTo, .ref mm_roundOf, .ref mm_roundAt, .ref mm_roundHour, .ref mm_gunAt, .ref mm_gunHour, .ref mm_knotSort, .ref mm_knotValue, .int 0, .int 0, .int 0, .int 0, .int 0, .int 0, .int 0, .int 0, .int 0, .int (-1), .int 0, .int 0, .int 0, .int 0, .int 0, .int 0, .int 0, .int 0, .int 0, .int 0, .int 0, .int 0, .ref mm_start, .ref mm_off, .ref mm_last, .ref mm_passed, .ref mm_kept, .ref mm_keptMany, .int 0, .int 0, .ref mm_history, .ref mm_names, .ref mm_worked, .int 0, .int 0, .int (-1), .ref mm_readThing, .ref mm_readHour, .ref mm_readLow, .ref mm_readHigh, .int 0, .int 0, .int 0, .ref mm_imageOff, .ref mm_imageLast, .ref mm_imagePassed, .ref mm_imageKept, .ref mm_imageMany, .ref mm_imageHistory])), (mm_number, .inl (k_mm_number, 10, .inl (fun _ => 0)))]) [0, 1] (by decide) rfl
  have hKc := hK.sub (tys' := [(k_mm_number, .int)]) [0] rfl
  have hFc := va_free (wc := [(mm, .inr (11, [.int 0, .ref mm_tape, .int 0, .ref mm_number, .ref mm_clockName, .ref mm_clockOff, .ref mm_clockGain, .ref mm_clockRough, .ref mm_personName, .ref mm_personOff, .ref mm_personGain, .ref mm_personRough, .ref mm_custom, .ref mm_customA, .ref mm_customB, .ref mm_ruleFrom, .ref mm_ruleTo, .ref mm_roundOf, .ref mm_roundAt, .ref mm_roundHour, .ref mm_gunAt, .ref mm_gunHour, .ref mm_knotSort, .ref mm_knotValue, .int 0, .int 0, .int 0, .int 0, .int 0, .int 0, .int 0, .int 0, .int 0, .int (-1), .int 0, .int 0, .int 0, .int 0, .int 0, .int 0, .int 0, .int 0, .int 0, .int 0, .int 0, .int 0, .ref mm_start, .ref mm_off, .ref mm_last, .ref mm_passed, .ref mm_kept, .ref mm_keptMany, .int 0, .int 0, .ref mm_history, .ref mm_names, .ref mm_worked, .int 0, .int 0, .int (-1), .ref mm_readThing, .ref mm_readHour, .ref mm_readLow, .ref mm_readHigh, .int 0, .int 0, .int 0, .ref mm_imageOff, .ref mm_imageLast, .ref mm_imagePassed, .ref mm_imageKept, .ref mm_imageMany, .ref mm_imageHistory])), (mm_number, .inl (k_mm_number, 10, .inl (fun _ => 0)))]) hD hS hA [0, 1] rfl
  have := (by decide : (0 : Int32).toInt = 0)
  have := (by decide : (0 : Int32).toInt = 0)
  have := (by decide : (0 : Int32).toInt = 0)
  have := (by decide : (0 : Int32).toInt = 0)
  have := (by decide : (0 : Int32).toInt = 0)
  have := (by decide : (0 : Int32).toInt = 0)
  have := (by decide : (0 : Int32).toInt = 0)
  have := (by decide : (0 : Int32).toInt = 0)
  have := (by decide : (0 : Int32).toInt = 0)
  have := (by decide : (0 : Int32).toInt = 0)
  have := (by decide : (0 : Int32).toInt = 0)
  have := (by decide : ((-1) : Int32).toInt = -1)
  have := (by decide : (0 : Int32).toInt = 0)
  have := (by decide : (0 : Int32).toInt = 0)
  have := (by decide : (0 : Int32).toInt = 0)
  have := (by decide : (0 : Int32).toInt = 0)
  have := (by decide : (0 : Int32).toInt = 0)
  have := (by decide : (0 : Int32).toInt = 0)
  have := (by decide : (0 : Int32).toInt = 0)
  have := (by decide : (0 : Int32).toInt = 0)
  have := (by decide : (0 : Int32).toInt = 0)
  have := (by decide : (0 : Int32).toInt = 0)
  have := (by decide : (0 : Int32).toInt = 0)
  have := (by decide : (0 : Int32).toInt = 0)
  have := (by decide : (0 : Int32).toInt = 0)
  have := (by decide : (0 : Int32).toInt = 0)
  have := (by decide : (0 : Int32).toInt = 0)
  have := (by decide : (0 : Int32).toInt = 0)
  have := (by decide : ((-1) : Int32).toInt = -1)
  have := (by decide : (0 : Int32).toInt = 0)
  have := (by decide : (0 : Int32).toInt = 0)
  have := (by decide : (0 : Int32).toInt = 0)
  refine va_calli (va_runV (As := [.int (xs 1), .int (xs 2), .int (xs 3)]) (rest := [.int (-2147483648)]) ⟨hx, hb, hml, hown, hT⟩ (c_X11_moved l dC dI H.size mm (xs 1) (xs 2) (xs 3) (0 : Int32) mm_tape (0 : Int32) mm_number mm_clockName mm_clockOff mm_clockGain mm_clockRough mm_personName mm_personOff mm_personGain mm_personRough mm_custom mm_customA mm_customB mm_ruleFrom mm_ruleTo mm_roundOf mm_roundAt mm_roundHour mm_gunAt mm_gunHour mm_knotSort mm_knotValue (0 : Int32) (0 : Int32) (0 : Int32) (0 : Int32) (0 : Int32) (0 : Int32) (0 : Int32) (0 : Int32) (0 : Int32) ((-1) : Int32) (0 : Int32) (0 : Int32) (0 : Int32) (0 : Int32) (0 : Int32) (0 : Int32) (0 : Int32) (0 : Int32) (0 : Int32) (0 : Int32) (0 : Int32) (0 : Int32) mm_start mm_off mm_last mm_passed mm_kept mm_keptMany (0 : Int32) (0 : Int32) mm_history mm_names mm_worked (0 : Int32) (0 : Int32) ((-1) : Int32) mm_readThing mm_readHour mm_readLow mm_readHigh (0 : Int32) (0 : Int32) (0 : Int32) mm_imageOff mm_imageLast mm_imagePassed mm_imageKept mm_imageMany mm_imageHistory k_mm_number (fun _ => 0) (fun _ => rfl)) (cwV 3 hT (gwV mw_8_68 mw_8_69 mw_8_70 mw_1_16 mw_8_71) rfl rfl rfl (by decide +kernel) ⟨Nat.le_of_ble_eq_true rfl, Nat.le_of_ble_eq_true rfl⟩) ⟨fun a U g mk q => by obtain ⟨q0, q1, qP, qK, qD⟩ := q; exact ⟨q0, q1, qP, va_K.moved (u := U) (U := U.calling g mk a) (Vm.Alike.refl U.vm) qK, qD⟩, va_recv hK hP (ci := 11) (q0 := 0) rfl rfl, fun U hU hW => ⟨rfl, by rw [hU], by rw [hU]; exact hPc, va_K.moved hW.alike hKc, hDc.weaken (fun _ _ _ _ => trivial)⟩⟩ rfl rfl hl.1 rfl (lv_room (Nat.le_of_ble_eq_true rfl)) dL_law_914 ⟨Nat.le_of_ble_eq_true rfl, Nat.le_of_ble_eq_true rfl⟩) hS (fun q _ h => hFc q h) hFc (fun r_16 u t H1 locs ht hvm hw hB hz1 hk1 hS => ?_)
  obtain ⟨hP1, hD1⟩ := hB
  rw [ht] at hP1
  obtain ⟨hP, hD⟩ := va_join (wr := [(xx, .inr (10, [.ref rr, .ref ta, .ref tb, .ref pa, .ref pb, .ref cn, .ref ci, .int 0, .ref cp, .ref ct, .ref hs, .ref rd, .ref wy, .ref ea, .ref eb])), (ta, .inr (8, [.int 0, .int 0, .int 0, .int 0, .int 0, .ref ta_name, .ref ta_first, .ref ta_gain, .ref ta_rough, .ref ta_custom, .ref ta_part, .ref ta_whole, .ref ta_roundPerson, .ref ta_roundClock, .ref ta_roundHour, .ref ta_gunClock, .ref ta_gunHour, .ref tau]))]) (w1 := [(mm, .inr (11, [.int 0, .ref mm_tape, .int 0, .ref mm_number, .ref mm_clockName, .ref mm_clockOff, .ref mm_clockGain, .ref mm_clockRough, .ref mm_personName, .ref mm_personOff, .ref mm_personGain, .ref mm_personRough, .ref mm_custom, .ref mm_customA, .ref mm_customB, .ref mm_ruleFrom, .ref mm_ruleTo, .ref mm_roundOf, .ref mm_roundAt, .ref mm_roundHour, .ref mm_gunAt, .ref mm_gunHour, .ref mm_knotSort, .ref mm_knotValue, .int 0, .int 0, .int 0, .int 0, .int 0, .int 0, .int 0, .int 0, .int 0, .int (-1), .int 0, .int 0, .int 0, .int 0, .int 0, .int 0, .int 0, .int 0, .int 0, .int 0, .int 0, .int 0, .ref mm_start, .ref mm_off, .ref mm_last, .ref mm_passed, .ref mm_kept, .ref mm_keptMany, .int 0, .int 0, .ref mm_history, .ref mm_names, .ref mm_worked, .int 0, .int 0, .int (-1), .ref mm_readThing, .ref mm_readHour, .ref mm_readLow, .ref mm_readHigh, .int 0, .int 0, .int 0, .ref mm_imageOff, .ref mm_imageLast, .ref mm_imagePassed, .ref mm_imageKept, .ref mm_imageMany, .ref mm_imageHistory])), (mm_number, .inl (k_mm_number, 10, .inl (fun _ => 0)))]) hP hD [0, 1] [2, 3] rfl rfl (by decide) (by decide) hk1 hFc hP1 hD1
  generalize H1 = H at hP hS ⊢
  have hP : va_P (dC, dI) vwCl [(xx, .inr (10, [.ref rr, .ref ta, .ref tb, .ref pa, .ref pb, .ref cn, .ref ci, .int 0, .ref cp, .ref ct, .ref hs, .ref rd, .ref wy, .ref ea, .ref eb])), (ta, .inr (8, [.int 0, .int 0, .int 0, .int 0, .int 0, .ref ta_name, .ref ta_first, .ref ta_gain, .ref ta_rough, .ref ta_custom, .ref ta_part, .ref ta_whole, .ref ta_roundPerson, .ref ta_roundClock, .ref ta_roundHour, .ref ta_gunClock, .ref ta_gunHour, .ref tau])), (mm, .inr (11, [.int 0, .ref mm_tape, .int 0, .ref mm_number, .ref mm_clockName, .ref mm_clockOff, .ref mm_clockGain, .ref mm_clockRough, .ref mm_personName, .ref mm_personOff, .ref mm_personGain, .ref mm_personRough, .ref mm_custom, .ref mm_customA, .ref mm_customB, .ref mm_ruleFrom, .ref mm_ruleTo, .ref mm_roundOf, .ref mm_roundAt, .ref mm_roundHour, .ref mm_gunAt, .ref mm_gunHour, .ref mm_knotSort, .ref mm_knotValue, .int 0, .int 0, .int 0, .int 0, .int 0, .int 0, .int 0, .int 0, .int 0, .int (-1), .int 0, .int 0, .int 0, .int 0, .int 0, .int 0, .int 0, .int 0, .int 0, .int 0, .int 0, .int 0, .ref mm_start, .ref mm_off, .ref mm_last, .ref mm_passed, .ref mm_kept, .ref mm_keptMany, .int 0, .int 0, .ref mm_history, .ref mm_names, .ref mm_worked, .int 0, .int 0, .int (-1), .ref mm_readThing, .ref mm_readHour, .ref mm_readLow, .ref mm_readHigh, .int 0, .int 0, .int 0, .ref mm_imageOff, .ref mm_imageLast, .ref mm_imagePassed, .ref mm_imageKept, .ref mm_imageMany, .ref mm_imageHistory])), (mm_number, .inl (k_mm_number, 10, .inl (fun _ => 0)))] H := hP
  have hD : va_D A [(xx, .inr (10, [.ref rr, .ref ta, .ref tb, .ref pa, .ref pb, .ref cn, .ref ci, .int 0, .ref cp, .ref ct, .ref hs, .ref rd, .ref wy, .ref ea, .ref eb])), (ta, .inr (8, [.int 0, .int 0, .int 0, .int 0, .int 0, .ref ta_name, .ref ta_first, .ref ta_gain, .ref ta_rough, .ref ta_custom, .ref ta_part, .ref ta_whole, .ref ta_roundPerson, .ref ta_roundClock, .ref ta_roundHour, .ref ta_gunClock, .ref ta_gunHour, .ref tau])), (mm, .inr (11, [.int 0, .ref mm_tape, .int 0, .ref mm_number, .ref mm_clockName, .ref mm_clockOff, .ref mm_clockGain, .ref mm_clockRough, .ref mm_personName, .ref mm_personOff, .ref mm_personGain, .ref mm_personRough, .ref mm_custom, .ref mm_customA, .ref mm_customB, .ref mm_ruleFrom, .ref mm_ruleTo, .ref mm_roundOf, .ref mm_roundAt, .ref mm_roundHour, .ref mm_gunAt, .ref mm_gunHour, .ref mm_knotSort, .ref mm_knotValue, .int 0, .int 0, .int 0, .int 0, .int 0, .int 0, .int 0, .int 0, .int 0, .int (-1), .int 0, .int 0, .int 0, .int 0, .int 0, .int 0, .int 0, .int 0, .int 0, .int 0, .int 0, .int 0, .ref mm_start, .ref mm_off, .ref mm_last, .ref mm_passed, .ref mm_kept, .ref mm_keptMany, .int 0, .int 0, .ref mm_history, .ref mm_names, .ref mm_worked, .int 0, .int 0, .int (-1), .ref mm_readThing, .ref mm_readHour, .ref mm_readLow, .ref mm_readHigh, .int 0, .int 0, .int 0, .ref mm_imageOff, .ref mm_imageLast, .ref mm_imagePassed, .ref mm_imageKept, .ref mm_imageMany, .ref mm_imageHistory])), (mm_number, .inl (k_mm_number, 10, .inl (fun _ => 0)))] := hD
  clear hPc hDc hKc hFc hP1 hD1 hk1 hz1 ht hvm
  have hw : r_16 = -2147483648 := hw
  subst r_16
  refine lv_icmp_eq (tgt := 1482) hx hb dL_law_917 (by decide) (fun c_17 => ?_) (fun c_17 => absurd c_17 (by decide))
  refine lv_iinc (v := 7) (lv' := [(4, .int 7), (3, .ref oo), (2, .ref mm), (1, .ref xx), (0, .ref b)]) hx hb dL_law_1482 hl (k := 0) rfl (by decide) (by decide) rfl (fun ls hl => ?_)
  refine lv_goto (tgt := 23) hx hb dL_law_1485 (by decide) ?_
  refine lv_iload hx hb dL_law_23 (lv_at hl 0 rfl) ?_
  refine lv_aload_n hx hb dL_law_25 rfl (lv_at hl 4 rfl) ?_
  refine va_slen hx hb hX hbl hbA hS dL_law_26 ?_
  refine lv_topi (fun z_18 ez_18 => ?_)
  obtain rfl : z_18 = 7 := ez_18.trans (by decide)
  refine lv_bipush (v := 7) hx hb dL_law_27 (by decide) ?_
  refine lv_isub hx hb dL_law_29 ?_
  refine lv_topi (fun z_19 ez_19 => ?_)
  obtain rfl : z_19 = 0 := ez_19.trans (by decide)
  refine lv_icmp_gt (tgt := 1488) hx hb dL_law_30 (by decide) (fun c_20 => ?_) (fun c_20 => absurd c_20 (by decide))
  refine lv_iconst (v := 1) hx hb dL_law_1488 (by decide) ?_
  refine va_forget (fun q hq => hAo _ (hS.2.2 q hq)) ?_
  refine W.widen (k := 600002) (n := 7302232) (Nat.le_of_ble_eq_true rfl) (Nat.le_of_ble_eq_true rfl) ?_
  exact lw_ret hx hb hr hlocks dL_law_1489
