set_option maxRecDepth 100000 in
theorem zh_dL_law_590_560 : zc cL_law 560 [182, 0, 60, 87, 44, 42, 21, 4, 4, 96, 46, 42, 21, 4, 5, 96, 46, 42, 21, 4, 6, 96, 46, 182, 0, 63, 87, 167, 4, 248, 43, 42, 21, 4, 4, 96, 46, 42, 21, 4] = true := by decide +kernel
set_option maxRecDepth 100000 in
theorem zh_dL_law_600_600 : zc cL_law 600 [5, 96, 46, 42, 21, 4, 6, 96, 46, 42, 21, 4, 7, 96, 46, 42, 21, 4, 8, 96, 46, 42, 21, 4, 16, 6, 96, 46, 182, 0, 64, 87, 44, 42, 21, 4, 4, 96, 46, 42] = true := by decide +kernel
set_option maxRecDepth 100000 in
theorem zh_dL_law_640_640 : zc cL_law 640 [21, 4, 5, 96, 46, 42, 21, 4, 6, 96, 46, 42, 21, 4, 7, 96, 46, 42, 21, 4, 8, 96, 46, 42, 21, 4, 16, 6, 96, 46, 182, 0, 68, 87, 167, 4, 161, 43, 42, 21] = true := by decide +kernel
set_option maxRecDepth 100000 in
theorem zh_dL_law_679_680 : zc cL_law 680 [4, 4, 96, 46, 42, 21, 4, 5, 96, 46, 182, 0, 69, 87, 44, 42, 21, 4, 4, 96, 46, 42, 21, 4, 5, 96, 46, 182, 0, 73, 87, 167, 4, 124, 43, 42, 21, 4, 4, 96] = true := by decide +kernel
set_option maxRecDepth 100000 in
theorem zh_dL_law_720_720 : zc cL_law 720 [46, 42, 21, 4, 5, 96, 46, 182, 0, 74, 87, 44, 42, 21, 4, 4, 96, 46, 42, 21, 4, 5, 96, 46, 182, 0, 77, 87, 167, 4, 87, 43, 42, 21, 4, 4, 96, 46, 42, 21] = true := by decide +kernel
set_option maxRecDepth 100000 in
theorem zh_dL_law_759_760 : zc cL_law 760 [4, 5, 96, 46, 42, 21, 4, 6, 96, 46, 42, 21, 4, 7, 96, 46, 182, 0, 78, 87, 44, 42, 21, 4, 4, 96, 46, 42, 21, 4, 5, 96, 46, 42, 21, 4, 6, 96, 46, 42] = true := by decide +kernel
set_option maxRecDepth 100000 in
theorem zh_dL_law_800_800 : zc cL_law 800 [21, 4, 7, 96, 46, 182, 0, 82, 87, 167, 4, 26, 43, 42, 21, 4, 4, 96, 46, 42, 21, 4, 5, 96, 46, 42, 21, 4, 6, 96, 46, 182, 0, 83, 87, 44, 42, 21, 4, 4] = true := by decide +kernel
set_option maxRecDepth 100000 in
theorem zh_dL_law_840_840 : zc cL_law 840 [96, 46, 42, 21, 4, 5, 96, 46, 42, 21, 4, 6, 96, 46, 182, 0, 86, 87, 167, 3, 233, 43, 42, 21, 4, 4, 96, 46, 42, 21, 4, 5, 96, 46, 42, 21, 4, 6, 96, 46] = true := by decide +kernel
set_option maxRecDepth 100000 in
theorem zh_dL_law_880_880 : zc cL_law 880 [182, 0, 87, 87, 44, 42, 21, 4, 4, 96, 46, 42, 21, 4, 5, 96, 46, 42, 21, 4, 6, 96, 46, 182, 0, 90, 87, 167, 3, 184, 43, 42, 21, 4, 4, 96, 46, 42, 21, 4] = true := by decide +kernel
set_option maxRecDepth 100000 in
theorem zh_dL_law_920_920 : zc cL_law 920 [5, 96, 46, 42, 21, 4, 6, 96, 46, 182, 0, 91, 87, 44, 42, 21, 4, 4, 96, 46, 42, 21, 4, 5, 96, 46, 42, 21, 4, 6, 96, 46, 182, 0, 94, 87, 167, 3, 135, 43] = true := by decide +kernel
set_option maxRecDepth 100000 in
theorem zh_dL_law_960_960 : zc cL_law 960 [42, 21, 4, 4, 96, 46, 42, 21, 4, 5, 96, 46, 182, 0, 95, 87, 44, 42, 21, 4, 4, 96, 46, 42, 21, 4, 5, 96, 46, 182, 0, 98, 87, 167, 3, 98, 43, 42, 21, 4] = true := by decide +kernel
set_option maxRecDepth 100000 in
theorem zh_dL_law_1000_1000 : zc cL_law 1000 [4, 96, 46, 42, 21, 4, 5, 96, 46, 42, 21, 4, 6, 96, 46, 182, 0, 99, 87, 44, 42, 21, 4, 4, 96, 46, 42, 21, 4, 5, 96, 46, 42, 21, 4, 6, 96, 46, 182, 0] = true := by decide +kernel
set_option maxRecDepth 100000 in
theorem zh_dL_law_1038_1040 : zc cL_law 1040 [102, 87, 167, 3, 49, 43, 42, 21, 4, 4, 96, 46, 42, 21, 4, 5, 96, 46, 42, 21, 4, 6, 96, 46, 182, 0, 103, 87, 44, 42, 21, 4, 4, 96, 46, 42, 21, 4, 5, 96] = true := by decide +kernel
set_option maxRecDepth 100000 in
theorem zh_dL_law_1080_1080 : zc cL_law 1080 [46, 42, 21, 4, 6, 96, 46, 182, 0, 106, 87, 167, 3, 0, 43, 42, 21, 4, 4, 96, 46, 42, 21, 4, 5, 96, 46, 182, 0, 107, 87, 44, 42, 21, 4, 4, 96, 46, 42, 21] = true := by decide +kernel
theorem dL_law_590 : decode cL_law 590 = .ok (.aload_n 1, 1) := zo_43 (zi_at zh_dL_law_590_560 30 rfl)
theorem dL_law_591 : decode cL_law 591 = .ok (.aload_n 0, 1) := zo_42 (zi_at zh_dL_law_590_560 31 rfl)
theorem dL_law_592 : decode cL_law 592 = .ok (.iload 4, 2) := zo_21 (zi_at zh_dL_law_590_560 32 rfl) (zi_at zh_dL_law_590_560 33 rfl)
theorem dL_law_594 : decode cL_law 594 = .ok (.iconst 1, 1) := zo_4 (zi_at zh_dL_law_590_560 34 rfl)
theorem dL_law_595 : decode cL_law 595 = .ok (.iadd, 1) := zo_96 (zi_at zh_dL_law_590_560 35 rfl)
theorem dL_law_596 : decode cL_law 596 = .ok (.iaload, 1) := zo_46 (zi_at zh_dL_law_590_560 36 rfl)
theorem dL_law_597 : decode cL_law 597 = .ok (.aload_n 0, 1) := zo_42 (zi_at zh_dL_law_590_560 37 rfl)
theorem dL_law_598 : decode cL_law 598 = .ok (.iload 4, 2) := zo_21 (zi_at zh_dL_law_590_560 38 rfl) (zi_at zh_dL_law_590_560 39 rfl)
theorem dL_law_600 : decode cL_law 600 = .ok (.iconst 2, 1) := zo_5 (zi_at zh_dL_law_600_600 0 rfl)
theorem dL_law_601 : decode cL_law 601 = .ok (.iadd, 1) := zo_96 (zi_at zh_dL_law_600_600 1 rfl)
theorem dL_law_602 : decode cL_law 602 = .ok (.iaload, 1) := zo_46 (zi_at zh_dL_law_600_600 2 rfl)
theorem dL_law_603 : decode cL_law 603 = .ok (.aload_n 0, 1) := zo_42 (zi_at zh_dL_law_600_600 3 rfl)
theorem dL_law_604 : decode cL_law 604 = .ok (.iload 4, 2) := zo_21 (zi_at zh_dL_law_600_600 4 rfl) (zi_at zh_dL_law_600_600 5 rfl)
theorem dL_law_606 : decode cL_law 606 = .ok (.iconst 3, 1) := zo_6 (zi_at zh_dL_law_600_600 6 rfl)
theorem dL_law_607 : decode cL_law 607 = .ok (.iadd, 1) := zo_96 (zi_at zh_dL_law_600_600 7 rfl)
theorem dL_law_608 : decode cL_law 608 = .ok (.iaload, 1) := zo_46 (zi_at zh_dL_law_600_600 8 rfl)
theorem dL_law_609 : decode cL_law 609 = .ok (.aload_n 0, 1) := zo_42 (zi_at zh_dL_law_600_600 9 rfl)
theorem dL_law_610 : decode cL_law 610 = .ok (.iload 4, 2) := zo_21 (zi_at zh_dL_law_600_600 10 rfl) (zi_at zh_dL_law_600_600 11 rfl)
theorem dL_law_612 : decode cL_law 612 = .ok (.iconst 4, 1) := zo_7 (zi_at zh_dL_law_600_600 12 rfl)
theorem dL_law_613 : decode cL_law 613 = .ok (.iadd, 1) := zo_96 (zi_at zh_dL_law_600_600 13 rfl)
theorem dL_law_614 : decode cL_law 614 = .ok (.iaload, 1) := zo_46 (zi_at zh_dL_law_600_600 14 rfl)
theorem dL_law_615 : decode cL_law 615 = .ok (.aload_n 0, 1) := zo_42 (zi_at zh_dL_law_600_600 15 rfl)
theorem dL_law_616 : decode cL_law 616 = .ok (.iload 4, 2) := zo_21 (zi_at zh_dL_law_600_600 16 rfl) (zi_at zh_dL_law_600_600 17 rfl)
theorem dL_law_618 : decode cL_law 618 = .ok (.iconst 5, 1) := zo_8 (zi_at zh_dL_law_600_600 18 rfl)
theorem dL_law_619 : decode cL_law 619 = .ok (.iadd, 1) := zo_96 (zi_at zh_dL_law_600_600 19 rfl)
theorem dL_law_620 : decode cL_law 620 = .ok (.iaload, 1) := zo_46 (zi_at zh_dL_law_600_600 20 rfl)
theorem dL_law_621 : decode cL_law 621 = .ok (.aload_n 0, 1) := zo_42 (zi_at zh_dL_law_600_600 21 rfl)
theorem dL_law_622 : decode cL_law 622 = .ok (.iload 4, 2) := zo_21 (zi_at zh_dL_law_600_600 22 rfl) (zi_at zh_dL_law_600_600 23 rfl)
theorem dL_law_624 : decode cL_law 624 = .ok (.bipush 6, 2) := zo_16 (zi_at zh_dL_law_600_600 24 rfl) (zi_at zh_dL_law_600_600 25 rfl) rfl
theorem dL_law_626 : decode cL_law 626 = .ok (.iadd, 1) := zo_96 (zi_at zh_dL_law_600_600 26 rfl)
theorem dL_law_627 : decode cL_law 627 = .ok (.iaload, 1) := zo_46 (zi_at zh_dL_law_600_600 27 rfl)
theorem dL_law_628 : decode cL_law 628 = .ok (.invokevirtual 64, 3) := zo_182 (zi_at zh_dL_law_600_600 28 rfl) (zi_at zh_dL_law_600_600 29 rfl) (zi_at zh_dL_law_600_600 30 rfl) rfl
theorem dL_law_631 : decode cL_law 631 = .ok (.pop, 1) := zo_87 (zi_at zh_dL_law_600_600 31 rfl)
theorem dL_law_632 : decode cL_law 632 = .ok (.aload_n 2, 1) := zo_44 (zi_at zh_dL_law_600_600 32 rfl)
theorem dL_law_633 : decode cL_law 633 = .ok (.aload_n 0, 1) := zo_42 (zi_at zh_dL_law_600_600 33 rfl)
theorem dL_law_634 : decode cL_law 634 = .ok (.iload 4, 2) := zo_21 (zi_at zh_dL_law_600_600 34 rfl) (zi_at zh_dL_law_600_600 35 rfl)
theorem dL_law_636 : decode cL_law 636 = .ok (.iconst 1, 1) := zo_4 (zi_at zh_dL_law_600_600 36 rfl)
theorem dL_law_637 : decode cL_law 637 = .ok (.iadd, 1) := zo_96 (zi_at zh_dL_law_600_600 37 rfl)
theorem dL_law_638 : decode cL_law 638 = .ok (.iaload, 1) := zo_46 (zi_at zh_dL_law_600_600 38 rfl)
theorem dL_law_639 : decode cL_law 639 = .ok (.aload_n 0, 1) := zo_42 (zi_at zh_dL_law_600_600 39 rfl)
theorem dL_law_640 : decode cL_law 640 = .ok (.iload 4, 2) := zo_21 (zi_at zh_dL_law_640_640 0 rfl) (zi_at zh_dL_law_640_640 1 rfl)
theorem dL_law_642 : decode cL_law 642 = .ok (.iconst 2, 1) := zo_5 (zi_at zh_dL_law_640_640 2 rfl)
theorem dL_law_643 : decode cL_law 643 = .ok (.iadd, 1) := zo_96 (zi_at zh_dL_law_640_640 3 rfl)
theorem dL_law_644 : decode cL_law 644 = .ok (.iaload, 1) := zo_46 (zi_at zh_dL_law_640_640 4 rfl)
theorem dL_law_645 : decode cL_law 645 = .ok (.aload_n 0, 1) := zo_42 (zi_at zh_dL_law_640_640 5 rfl)
theorem dL_law_646 : decode cL_law 646 = .ok (.iload 4, 2) := zo_21 (zi_at zh_dL_law_640_640 6 rfl) (zi_at zh_dL_law_640_640 7 rfl)
theorem dL_law_648 : decode cL_law 648 = .ok (.iconst 3, 1) := zo_6 (zi_at zh_dL_law_640_640 8 rfl)
theorem dL_law_649 : decode cL_law 649 = .ok (.iadd, 1) := zo_96 (zi_at zh_dL_law_640_640 9 rfl)
theorem dL_law_650 : decode cL_law 650 = .ok (.iaload, 1) := zo_46 (zi_at zh_dL_law_640_640 10 rfl)
theorem dL_law_651 : decode cL_law 651 = .ok (.aload_n 0, 1) := zo_42 (zi_at zh_dL_law_640_640 11 rfl)
theorem dL_law_652 : decode cL_law 652 = .ok (.iload 4, 2) := zo_21 (zi_at zh_dL_law_640_640 12 rfl) (zi_at zh_dL_law_640_640 13 rfl)
theorem dL_law_654 : decode cL_law 654 = .ok (.iconst 4, 1) := zo_7 (zi_at zh_dL_law_640_640 14 rfl)
theorem dL_law_655 : decode cL_law 655 = .ok (.iadd, 1) := zo_96 (zi_at zh_dL_law_640_640 15 rfl)
theorem dL_law_656 : decode cL_law 656 = .ok (.iaload, 1) := zo_46 (zi_at zh_dL_law_640_640 16 rfl)
theorem dL_law_657 : decode cL_law 657 = .ok (.aload_n 0, 1) := zo_42 (zi_at zh_dL_law_640_640 17 rfl)
theorem dL_law_658 : decode cL_law 658 = .ok (.iload 4, 2) := zo_21 (zi_at zh_dL_law_640_640 18 rfl) (zi_at zh_dL_law_640_640 19 rfl)
theorem dL_law_660 : decode cL_law 660 = .ok (.iconst 5, 1) := zo_8 (zi_at zh_dL_law_640_640 20 rfl)
theorem dL_law_661 : decode cL_law 661 = .ok (.iadd, 1) := zo_96 (zi_at zh_dL_law_640_640 21 rfl)
theorem dL_law_662 : decode cL_law 662 = .ok (.iaload, 1) := zo_46 (zi_at zh_dL_law_640_640 22 rfl)
theorem dL_law_663 : decode cL_law 663 = .ok (.aload_n 0, 1) := zo_42 (zi_at zh_dL_law_640_640 23 rfl)
theorem dL_law_664 : decode cL_law 664 = .ok (.iload 4, 2) := zo_21 (zi_at zh_dL_law_640_640 24 rfl) (zi_at zh_dL_law_640_640 25 rfl)
theorem dL_law_666 : decode cL_law 666 = .ok (.bipush 6, 2) := zo_16 (zi_at zh_dL_law_640_640 26 rfl) (zi_at zh_dL_law_640_640 27 rfl) rfl
theorem dL_law_668 : decode cL_law 668 = .ok (.iadd, 1) := zo_96 (zi_at zh_dL_law_640_640 28 rfl)
theorem dL_law_669 : decode cL_law 669 = .ok (.iaload, 1) := zo_46 (zi_at zh_dL_law_640_640 29 rfl)
theorem dL_law_670 : decode cL_law 670 = .ok (.invokevirtual 68, 3) := zo_182 (zi_at zh_dL_law_640_640 30 rfl) (zi_at zh_dL_law_640_640 31 rfl) (zi_at zh_dL_law_640_640 32 rfl) rfl
theorem dL_law_673 : decode cL_law 673 = .ok (.pop, 1) := zo_87 (zi_at zh_dL_law_640_640 33 rfl)
theorem dL_law_674 : decode cL_law 674 = .ok (.goto 1185, 3) := zo_167 (zi_at zh_dL_law_640_640 34 rfl) (zi_at zh_dL_law_640_640 35 rfl) (zi_at zh_dL_law_640_640 36 rfl) rfl
theorem dL_law_677 : decode cL_law 677 = .ok (.aload_n 1, 1) := zo_43 (zi_at zh_dL_law_640_640 37 rfl)
theorem dL_law_678 : decode cL_law 678 = .ok (.aload_n 0, 1) := zo_42 (zi_at zh_dL_law_640_640 38 rfl)
theorem dL_law_679 : decode cL_law 679 = .ok (.iload 4, 2) := zo_21 (zi_at zh_dL_law_640_640 39 rfl) (zi_at zh_dL_law_679_680 0 rfl)
theorem dL_law_681 : decode cL_law 681 = .ok (.iconst 1, 1) := zo_4 (zi_at zh_dL_law_679_680 1 rfl)
theorem dL_law_682 : decode cL_law 682 = .ok (.iadd, 1) := zo_96 (zi_at zh_dL_law_679_680 2 rfl)
theorem dL_law_683 : decode cL_law 683 = .ok (.iaload, 1) := zo_46 (zi_at zh_dL_law_679_680 3 rfl)
theorem dL_law_684 : decode cL_law 684 = .ok (.aload_n 0, 1) := zo_42 (zi_at zh_dL_law_679_680 4 rfl)
theorem dL_law_685 : decode cL_law 685 = .ok (.iload 4, 2) := zo_21 (zi_at zh_dL_law_679_680 5 rfl) (zi_at zh_dL_law_679_680 6 rfl)
theorem dL_law_687 : decode cL_law 687 = .ok (.iconst 2, 1) := zo_5 (zi_at zh_dL_law_679_680 7 rfl)
theorem dL_law_688 : decode cL_law 688 = .ok (.iadd, 1) := zo_96 (zi_at zh_dL_law_679_680 8 rfl)
theorem dL_law_689 : decode cL_law 689 = .ok (.iaload, 1) := zo_46 (zi_at zh_dL_law_679_680 9 rfl)
theorem dL_law_690 : decode cL_law 690 = .ok (.invokevirtual 69, 3) := zo_182 (zi_at zh_dL_law_679_680 10 rfl) (zi_at zh_dL_law_679_680 11 rfl) (zi_at zh_dL_law_679_680 12 rfl) rfl
theorem dL_law_693 : decode cL_law 693 = .ok (.pop, 1) := zo_87 (zi_at zh_dL_law_679_680 13 rfl)
theorem dL_law_694 : decode cL_law 694 = .ok (.aload_n 2, 1) := zo_44 (zi_at zh_dL_law_679_680 14 rfl)
theorem dL_law_695 : decode cL_law 695 = .ok (.aload_n 0, 1) := zo_42 (zi_at zh_dL_law_679_680 15 rfl)
theorem dL_law_696 : decode cL_law 696 = .ok (.iload 4, 2) := zo_21 (zi_at zh_dL_law_679_680 16 rfl) (zi_at zh_dL_law_679_680 17 rfl)
theorem dL_law_698 : decode cL_law 698 = .ok (.iconst 1, 1) := zo_4 (zi_at zh_dL_law_679_680 18 rfl)
theorem dL_law_699 : decode cL_law 699 = .ok (.iadd, 1) := zo_96 (zi_at zh_dL_law_679_680 19 rfl)
theorem dL_law_700 : decode cL_law 700 = .ok (.iaload, 1) := zo_46 (zi_at zh_dL_law_679_680 20 rfl)
theorem dL_law_701 : decode cL_law 701 = .ok (.aload_n 0, 1) := zo_42 (zi_at zh_dL_law_679_680 21 rfl)
theorem dL_law_702 : decode cL_law 702 = .ok (.iload 4, 2) := zo_21 (zi_at zh_dL_law_679_680 22 rfl) (zi_at zh_dL_law_679_680 23 rfl)
theorem dL_law_704 : decode cL_law 704 = .ok (.iconst 2, 1) := zo_5 (zi_at zh_dL_law_679_680 24 rfl)
theorem dL_law_705 : decode cL_law 705 = .ok (.iadd, 1) := zo_96 (zi_at zh_dL_law_679_680 25 rfl)
theorem dL_law_706 : decode cL_law 706 = .ok (.iaload, 1) := zo_46 (zi_at zh_dL_law_679_680 26 rfl)
theorem dL_law_707 : decode cL_law 707 = .ok (.invokevirtual 73, 3) := zo_182 (zi_at zh_dL_law_679_680 27 rfl) (zi_at zh_dL_law_679_680 28 rfl) (zi_at zh_dL_law_679_680 29 rfl) rfl
theorem dL_law_710 : decode cL_law 710 = .ok (.pop, 1) := zo_87 (zi_at zh_dL_law_679_680 30 rfl)
theorem dL_law_711 : decode cL_law 711 = .ok (.goto 1148, 3) := zo_167 (zi_at zh_dL_law_679_680 31 rfl) (zi_at zh_dL_law_679_680 32 rfl) (zi_at zh_dL_law_679_680 33 rfl) rfl
theorem dL_law_714 : decode cL_law 714 = .ok (.aload_n 1, 1) := zo_43 (zi_at zh_dL_law_679_680 34 rfl)
theorem dL_law_715 : decode cL_law 715 = .ok (.aload_n 0, 1) := zo_42 (zi_at zh_dL_law_679_680 35 rfl)
theorem dL_law_716 : decode cL_law 716 = .ok (.iload 4, 2) := zo_21 (zi_at zh_dL_law_679_680 36 rfl) (zi_at zh_dL_law_679_680 37 rfl)
theorem dL_law_718 : decode cL_law 718 = .ok (.iconst 1, 1) := zo_4 (zi_at zh_dL_law_679_680 38 rfl)
theorem dL_law_719 : decode cL_law 719 = .ok (.iadd, 1) := zo_96 (zi_at zh_dL_law_679_680 39 rfl)
theorem dL_law_720 : decode cL_law 720 = .ok (.iaload, 1) := zo_46 (zi_at zh_dL_law_720_720 0 rfl)
theorem dL_law_721 : decode cL_law 721 = .ok (.aload_n 0, 1) := zo_42 (zi_at zh_dL_law_720_720 1 rfl)
theorem dL_law_722 : decode cL_law 722 = .ok (.iload 4, 2) := zo_21 (zi_at zh_dL_law_720_720 2 rfl) (zi_at zh_dL_law_720_720 3 rfl)
theorem dL_law_724 : decode cL_law 724 = .ok (.iconst 2, 1) := zo_5 (zi_at zh_dL_law_720_720 4 rfl)
theorem dL_law_725 : decode cL_law 725 = .ok (.iadd, 1) := zo_96 (zi_at zh_dL_law_720_720 5 rfl)
theorem dL_law_726 : decode cL_law 726 = .ok (.iaload, 1) := zo_46 (zi_at zh_dL_law_720_720 6 rfl)
theorem dL_law_727 : decode cL_law 727 = .ok (.invokevirtual 74, 3) := zo_182 (zi_at zh_dL_law_720_720 7 rfl) (zi_at zh_dL_law_720_720 8 rfl) (zi_at zh_dL_law_720_720 9 rfl) rfl
theorem dL_law_730 : decode cL_law 730 = .ok (.pop, 1) := zo_87 (zi_at zh_dL_law_720_720 10 rfl)
theorem dL_law_731 : decode cL_law 731 = .ok (.aload_n 2, 1) := zo_44 (zi_at zh_dL_law_720_720 11 rfl)
theorem dL_law_732 : decode cL_law 732 = .ok (.aload_n 0, 1) := zo_42 (zi_at zh_dL_law_720_720 12 rfl)
theorem dL_law_733 : decode cL_law 733 = .ok (.iload 4, 2) := zo_21 (zi_at zh_dL_law_720_720 13 rfl) (zi_at zh_dL_law_720_720 14 rfl)
theorem dL_law_735 : decode cL_law 735 = .ok (.iconst 1, 1) := zo_4 (zi_at zh_dL_law_720_720 15 rfl)
theorem dL_law_736 : decode cL_law 736 = .ok (.iadd, 1) := zo_96 (zi_at zh_dL_law_720_720 16 rfl)
theorem dL_law_737 : decode cL_law 737 = .ok (.iaload, 1) := zo_46 (zi_at zh_dL_law_720_720 17 rfl)
theorem dL_law_738 : decode cL_law 738 = .ok (.aload_n 0, 1) := zo_42 (zi_at zh_dL_law_720_720 18 rfl)
theorem dL_law_739 : decode cL_law 739 = .ok (.iload 4, 2) := zo_21 (zi_at zh_dL_law_720_720 19 rfl) (zi_at zh_dL_law_720_720 20 rfl)
theorem dL_law_741 : decode cL_law 741 = .ok (.iconst 2, 1) := zo_5 (zi_at zh_dL_law_720_720 21 rfl)
theorem dL_law_742 : decode cL_law 742 = .ok (.iadd, 1) := zo_96 (zi_at zh_dL_law_720_720 22 rfl)
theorem dL_law_743 : decode cL_law 743 = .ok (.iaload, 1) := zo_46 (zi_at zh_dL_law_720_720 23 rfl)
theorem dL_law_744 : decode cL_law 744 = .ok (.invokevirtual 77, 3) := zo_182 (zi_at zh_dL_law_720_720 24 rfl) (zi_at zh_dL_law_720_720 25 rfl) (zi_at zh_dL_law_720_720 26 rfl) rfl
theorem dL_law_747 : decode cL_law 747 = .ok (.pop, 1) := zo_87 (zi_at zh_dL_law_720_720 27 rfl)
theorem dL_law_748 : decode cL_law 748 = .ok (.goto 1111, 3) := zo_167 (zi_at zh_dL_law_720_720 28 rfl) (zi_at zh_dL_law_720_720 29 rfl) (zi_at zh_dL_law_720_720 30 rfl) rfl
theorem dL_law_751 : decode cL_law 751 = .ok (.aload_n 1, 1) := zo_43 (zi_at zh_dL_law_720_720 31 rfl)
theorem dL_law_752 : decode cL_law 752 = .ok (.aload_n 0, 1) := zo_42 (zi_at zh_dL_law_720_720 32 rfl)
theorem dL_law_753 : decode cL_law 753 = .ok (.iload 4, 2) := zo_21 (zi_at zh_dL_law_720_720 33 rfl) (zi_at zh_dL_law_720_720 34 rfl)
theorem dL_law_755 : decode cL_law 755 = .ok (.iconst 1, 1) := zo_4 (zi_at zh_dL_law_720_720 35 rfl)
theorem dL_law_756 : decode cL_law 756 = .ok (.iadd, 1) := zo_96 (zi_at zh_dL_law_720_720 36 rfl)
theorem dL_law_757 : decode cL_law 757 = .ok (.iaload, 1) := zo_46 (zi_at zh_dL_law_720_720 37 rfl)
theorem dL_law_758 : decode cL_law 758 = .ok (.aload_n 0, 1) := zo_42 (zi_at zh_dL_law_720_720 38 rfl)
theorem dL_law_759 : decode cL_law 759 = .ok (.iload 4, 2) := zo_21 (zi_at zh_dL_law_720_720 39 rfl) (zi_at zh_dL_law_759_760 0 rfl)
theorem dL_law_761 : decode cL_law 761 = .ok (.iconst 2, 1) := zo_5 (zi_at zh_dL_law_759_760 1 rfl)
theorem dL_law_762 : decode cL_law 762 = .ok (.iadd, 1) := zo_96 (zi_at zh_dL_law_759_760 2 rfl)
theorem dL_law_763 : decode cL_law 763 = .ok (.iaload, 1) := zo_46 (zi_at zh_dL_law_759_760 3 rfl)
theorem dL_law_764 : decode cL_law 764 = .ok (.aload_n 0, 1) := zo_42 (zi_at zh_dL_law_759_760 4 rfl)
theorem dL_law_765 : decode cL_law 765 = .ok (.iload 4, 2) := zo_21 (zi_at zh_dL_law_759_760 5 rfl) (zi_at zh_dL_law_759_760 6 rfl)
theorem dL_law_767 : decode cL_law 767 = .ok (.iconst 3, 1) := zo_6 (zi_at zh_dL_law_759_760 7 rfl)
theorem dL_law_768 : decode cL_law 768 = .ok (.iadd, 1) := zo_96 (zi_at zh_dL_law_759_760 8 rfl)
theorem dL_law_769 : decode cL_law 769 = .ok (.iaload, 1) := zo_46 (zi_at zh_dL_law_759_760 9 rfl)
theorem dL_law_770 : decode cL_law 770 = .ok (.aload_n 0, 1) := zo_42 (zi_at zh_dL_law_759_760 10 rfl)
theorem dL_law_771 : decode cL_law 771 = .ok (.iload 4, 2) := zo_21 (zi_at zh_dL_law_759_760 11 rfl) (zi_at zh_dL_law_759_760 12 rfl)
theorem dL_law_773 : decode cL_law 773 = .ok (.iconst 4, 1) := zo_7 (zi_at zh_dL_law_759_760 13 rfl)
theorem dL_law_774 : decode cL_law 774 = .ok (.iadd, 1) := zo_96 (zi_at zh_dL_law_759_760 14 rfl)
theorem dL_law_775 : decode cL_law 775 = .ok (.iaload, 1) := zo_46 (zi_at zh_dL_law_759_760 15 rfl)
theorem dL_law_776 : decode cL_law 776 = .ok (.invokevirtual 78, 3) := zo_182 (zi_at zh_dL_law_759_760 16 rfl) (zi_at zh_dL_law_759_760 17 rfl) (zi_at zh_dL_law_759_760 18 rfl) rfl
theorem dL_law_779 : decode cL_law 779 = .ok (.pop, 1) := zo_87 (zi_at zh_dL_law_759_760 19 rfl)
theorem dL_law_780 : decode cL_law 780 = .ok (.aload_n 2, 1) := zo_44 (zi_at zh_dL_law_759_760 20 rfl)
theorem dL_law_781 : decode cL_law 781 = .ok (.aload_n 0, 1) := zo_42 (zi_at zh_dL_law_759_760 21 rfl)
theorem dL_law_782 : decode cL_law 782 = .ok (.iload 4, 2) := zo_21 (zi_at zh_dL_law_759_760 22 rfl) (zi_at zh_dL_law_759_760 23 rfl)
theorem dL_law_784 : decode cL_law 784 = .ok (.iconst 1, 1) := zo_4 (zi_at zh_dL_law_759_760 24 rfl)
theorem dL_law_785 : decode cL_law 785 = .ok (.iadd, 1) := zo_96 (zi_at zh_dL_law_759_760 25 rfl)
theorem dL_law_786 : decode cL_law 786 = .ok (.iaload, 1) := zo_46 (zi_at zh_dL_law_759_760 26 rfl)
theorem dL_law_787 : decode cL_law 787 = .ok (.aload_n 0, 1) := zo_42 (zi_at zh_dL_law_759_760 27 rfl)
theorem dL_law_788 : decode cL_law 788 = .ok (.iload 4, 2) := zo_21 (zi_at zh_dL_law_759_760 28 rfl) (zi_at zh_dL_law_759_760 29 rfl)
theorem dL_law_790 : decode cL_law 790 = .ok (.iconst 2, 1) := zo_5 (zi_at zh_dL_law_759_760 30 rfl)
theorem dL_law_791 : decode cL_law 791 = .ok (.iadd, 1) := zo_96 (zi_at zh_dL_law_759_760 31 rfl)
theorem dL_law_792 : decode cL_law 792 = .ok (.iaload, 1) := zo_46 (zi_at zh_dL_law_759_760 32 rfl)
theorem dL_law_793 : decode cL_law 793 = .ok (.aload_n 0, 1) := zo_42 (zi_at zh_dL_law_759_760 33 rfl)
theorem dL_law_794 : decode cL_law 794 = .ok (.iload 4, 2) := zo_21 (zi_at zh_dL_law_759_760 34 rfl) (zi_at zh_dL_law_759_760 35 rfl)
theorem dL_law_796 : decode cL_law 796 = .ok (.iconst 3, 1) := zo_6 (zi_at zh_dL_law_759_760 36 rfl)
theorem dL_law_797 : decode cL_law 797 = .ok (.iadd, 1) := zo_96 (zi_at zh_dL_law_759_760 37 rfl)
theorem dL_law_798 : decode cL_law 798 = .ok (.iaload, 1) := zo_46 (zi_at zh_dL_law_759_760 38 rfl)
theorem dL_law_799 : decode cL_law 799 = .ok (.aload_n 0, 1) := zo_42 (zi_at zh_dL_law_759_760 39 rfl)
theorem dL_law_800 : decode cL_law 800 = .ok (.iload 4, 2) := zo_21 (zi_at zh_dL_law_800_800 0 rfl) (zi_at zh_dL_law_800_800 1 rfl)
theorem dL_law_802 : decode cL_law 802 = .ok (.iconst 4, 1) := zo_7 (zi_at zh_dL_law_800_800 2 rfl)
theorem dL_law_803 : decode cL_law 803 = .ok (.iadd, 1) := zo_96 (zi_at zh_dL_law_800_800 3 rfl)
theorem dL_law_804 : decode cL_law 804 = .ok (.iaload, 1) := zo_46 (zi_at zh_dL_law_800_800 4 rfl)
theorem dL_law_805 : decode cL_law 805 = .ok (.invokevirtual 82, 3) := zo_182 (zi_at zh_dL_law_800_800 5 rfl) (zi_at zh_dL_law_800_800 6 rfl) (zi_at zh_dL_law_800_800 7 rfl) rfl
theorem dL_law_808 : decode cL_law 808 = .ok (.pop, 1) := zo_87 (zi_at zh_dL_law_800_800 8 rfl)
theorem dL_law_809 : decode cL_law 809 = .ok (.goto 1050, 3) := zo_167 (zi_at zh_dL_law_800_800 9 rfl) (zi_at zh_dL_law_800_800 10 rfl) (zi_at zh_dL_law_800_800 11 rfl) rfl
theorem dL_law_812 : decode cL_law 812 = .ok (.aload_n 1, 1) := zo_43 (zi_at zh_dL_law_800_800 12 rfl)
theorem dL_law_813 : decode cL_law 813 = .ok (.aload_n 0, 1) := zo_42 (zi_at zh_dL_law_800_800 13 rfl)
theorem dL_law_814 : decode cL_law 814 = .ok (.iload 4, 2) := zo_21 (zi_at zh_dL_law_800_800 14 rfl) (zi_at zh_dL_law_800_800 15 rfl)
theorem dL_law_816 : decode cL_law 816 = .ok (.iconst 1, 1) := zo_4 (zi_at zh_dL_law_800_800 16 rfl)
theorem dL_law_817 : decode cL_law 817 = .ok (.iadd, 1) := zo_96 (zi_at zh_dL_law_800_800 17 rfl)
theorem dL_law_818 : decode cL_law 818 = .ok (.iaload, 1) := zo_46 (zi_at zh_dL_law_800_800 18 rfl)
theorem dL_law_819 : decode cL_law 819 = .ok (.aload_n 0, 1) := zo_42 (zi_at zh_dL_law_800_800 19 rfl)
theorem dL_law_820 : decode cL_law 820 = .ok (.iload 4, 2) := zo_21 (zi_at zh_dL_law_800_800 20 rfl) (zi_at zh_dL_law_800_800 21 rfl)
theorem dL_law_822 : decode cL_law 822 = .ok (.iconst 2, 1) := zo_5 (zi_at zh_dL_law_800_800 22 rfl)
theorem dL_law_823 : decode cL_law 823 = .ok (.iadd, 1) := zo_96 (zi_at zh_dL_law_800_800 23 rfl)
theorem dL_law_824 : decode cL_law 824 = .ok (.iaload, 1) := zo_46 (zi_at zh_dL_law_800_800 24 rfl)
theorem dL_law_825 : decode cL_law 825 = .ok (.aload_n 0, 1) := zo_42 (zi_at zh_dL_law_800_800 25 rfl)
theorem dL_law_826 : decode cL_law 826 = .ok (.iload 4, 2) := zo_21 (zi_at zh_dL_law_800_800 26 rfl) (zi_at zh_dL_law_800_800 27 rfl)
theorem dL_law_828 : decode cL_law 828 = .ok (.iconst 3, 1) := zo_6 (zi_at zh_dL_law_800_800 28 rfl)
theorem dL_law_829 : decode cL_law 829 = .ok (.iadd, 1) := zo_96 (zi_at zh_dL_law_800_800 29 rfl)
theorem dL_law_830 : decode cL_law 830 = .ok (.iaload, 1) := zo_46 (zi_at zh_dL_law_800_800 30 rfl)
theorem dL_law_831 : decode cL_law 831 = .ok (.invokevirtual 83, 3) := zo_182 (zi_at zh_dL_law_800_800 31 rfl) (zi_at zh_dL_law_800_800 32 rfl) (zi_at zh_dL_law_800_800 33 rfl) rfl
theorem dL_law_834 : decode cL_law 834 = .ok (.pop, 1) := zo_87 (zi_at zh_dL_law_800_800 34 rfl)
theorem dL_law_835 : decode cL_law 835 = .ok (.aload_n 2, 1) := zo_44 (zi_at zh_dL_law_800_800 35 rfl)
theorem dL_law_836 : decode cL_law 836 = .ok (.aload_n 0, 1) := zo_42 (zi_at zh_dL_law_800_800 36 rfl)
theorem dL_law_837 : decode cL_law 837 = .ok (.iload 4, 2) := zo_21 (zi_at zh_dL_law_800_800 37 rfl) (zi_at zh_dL_law_800_800 38 rfl)
theorem dL_law_839 : decode cL_law 839 = .ok (.iconst 1, 1) := zo_4 (zi_at zh_dL_law_800_800 39 rfl)
theorem dL_law_840 : decode cL_law 840 = .ok (.iadd, 1) := zo_96 (zi_at zh_dL_law_840_840 0 rfl)
theorem dL_law_841 : decode cL_law 841 = .ok (.iaload, 1) := zo_46 (zi_at zh_dL_law_840_840 1 rfl)
theorem dL_law_842 : decode cL_law 842 = .ok (.aload_n 0, 1) := zo_42 (zi_at zh_dL_law_840_840 2 rfl)
theorem dL_law_843 : decode cL_law 843 = .ok (.iload 4, 2) := zo_21 (zi_at zh_dL_law_840_840 3 rfl) (zi_at zh_dL_law_840_840 4 rfl)
theorem dL_law_845 : decode cL_law 845 = .ok (.iconst 2, 1) := zo_5 (zi_at zh_dL_law_840_840 5 rfl)
theorem dL_law_846 : decode cL_law 846 = .ok (.iadd, 1) := zo_96 (zi_at zh_dL_law_840_840 6 rfl)
theorem dL_law_847 : decode cL_law 847 = .ok (.iaload, 1) := zo_46 (zi_at zh_dL_law_840_840 7 rfl)
theorem dL_law_848 : decode cL_law 848 = .ok (.aload_n 0, 1) := zo_42 (zi_at zh_dL_law_840_840 8 rfl)
theorem dL_law_849 : decode cL_law 849 = .ok (.iload 4, 2) := zo_21 (zi_at zh_dL_law_840_840 9 rfl) (zi_at zh_dL_law_840_840 10 rfl)
theorem dL_law_851 : decode cL_law 851 = .ok (.iconst 3, 1) := zo_6 (zi_at zh_dL_law_840_840 11 rfl)
theorem dL_law_852 : decode cL_law 852 = .ok (.iadd, 1) := zo_96 (zi_at zh_dL_law_840_840 12 rfl)
theorem dL_law_853 : decode cL_law 853 = .ok (.iaload, 1) := zo_46 (zi_at zh_dL_law_840_840 13 rfl)
theorem dL_law_854 : decode cL_law 854 = .ok (.invokevirtual 86, 3) := zo_182 (zi_at zh_dL_law_840_840 14 rfl) (zi_at zh_dL_law_840_840 15 rfl) (zi_at zh_dL_law_840_840 16 rfl) rfl
theorem dL_law_857 : decode cL_law 857 = .ok (.pop, 1) := zo_87 (zi_at zh_dL_law_840_840 17 rfl)
theorem dL_law_858 : decode cL_law 858 = .ok (.goto 1001, 3) := zo_167 (zi_at zh_dL_law_840_840 18 rfl) (zi_at zh_dL_law_840_840 19 rfl) (zi_at zh_dL_law_840_840 20 rfl) rfl
theorem dL_law_861 : decode cL_law 861 = .ok (.aload_n 1, 1) := zo_43 (zi_at zh_dL_law_840_840 21 rfl)
theorem dL_law_862 : decode cL_law 862 = .ok (.aload_n 0, 1) := zo_42 (zi_at zh_dL_law_840_840 22 rfl)
theorem dL_law_863 : decode cL_law 863 = .ok (.iload 4, 2) := zo_21 (zi_at zh_dL_law_840_840 23 rfl) (zi_at zh_dL_law_840_840 24 rfl)
theorem dL_law_865 : decode cL_law 865 = .ok (.iconst 1, 1) := zo_4 (zi_at zh_dL_law_840_840 25 rfl)
theorem dL_law_866 : decode cL_law 866 = .ok (.iadd, 1) := zo_96 (zi_at zh_dL_law_840_840 26 rfl)
theorem dL_law_867 : decode cL_law 867 = .ok (.iaload, 1) := zo_46 (zi_at zh_dL_law_840_840 27 rfl)
theorem dL_law_868 : decode cL_law 868 = .ok (.aload_n 0, 1) := zo_42 (zi_at zh_dL_law_840_840 28 rfl)
theorem dL_law_869 : decode cL_law 869 = .ok (.iload 4, 2) := zo_21 (zi_at zh_dL_law_840_840 29 rfl) (zi_at zh_dL_law_840_840 30 rfl)
theorem dL_law_871 : decode cL_law 871 = .ok (.iconst 2, 1) := zo_5 (zi_at zh_dL_law_840_840 31 rfl)
theorem dL_law_872 : decode cL_law 872 = .ok (.iadd, 1) := zo_96 (zi_at zh_dL_law_840_840 32 rfl)
theorem dL_law_873 : decode cL_law 873 = .ok (.iaload, 1) := zo_46 (zi_at zh_dL_law_840_840 33 rfl)
theorem dL_law_874 : decode cL_law 874 = .ok (.aload_n 0, 1) := zo_42 (zi_at zh_dL_law_840_840 34 rfl)
theorem dL_law_875 : decode cL_law 875 = .ok (.iload 4, 2) := zo_21 (zi_at zh_dL_law_840_840 35 rfl) (zi_at zh_dL_law_840_840 36 rfl)
theorem dL_law_877 : decode cL_law 877 = .ok (.iconst 3, 1) := zo_6 (zi_at zh_dL_law_840_840 37 rfl)
theorem dL_law_878 : decode cL_law 878 = .ok (.iadd, 1) := zo_96 (zi_at zh_dL_law_840_840 38 rfl)
theorem dL_law_879 : decode cL_law 879 = .ok (.iaload, 1) := zo_46 (zi_at zh_dL_law_840_840 39 rfl)
theorem dL_law_880 : decode cL_law 880 = .ok (.invokevirtual 87, 3) := zo_182 (zi_at zh_dL_law_880_880 0 rfl) (zi_at zh_dL_law_880_880 1 rfl) (zi_at zh_dL_law_880_880 2 rfl) rfl
theorem dL_law_883 : decode cL_law 883 = .ok (.pop, 1) := zo_87 (zi_at zh_dL_law_880_880 3 rfl)
theorem dL_law_884 : decode cL_law 884 = .ok (.aload_n 2, 1) := zo_44 (zi_at zh_dL_law_880_880 4 rfl)
theorem dL_law_885 : decode cL_law 885 = .ok (.aload_n 0, 1) := zo_42 (zi_at zh_dL_law_880_880 5 rfl)
theorem dL_law_886 : decode cL_law 886 = .ok (.iload 4, 2) := zo_21 (zi_at zh_dL_law_880_880 6 rfl) (zi_at zh_dL_law_880_880 7 rfl)
theorem dL_law_888 : decode cL_law 888 = .ok (.iconst 1, 1) := zo_4 (zi_at zh_dL_law_880_880 8 rfl)
theorem dL_law_889 : decode cL_law 889 = .ok (.iadd, 1) := zo_96 (zi_at zh_dL_law_880_880 9 rfl)
theorem dL_law_890 : decode cL_law 890 = .ok (.iaload, 1) := zo_46 (zi_at zh_dL_law_880_880 10 rfl)
theorem dL_law_891 : decode cL_law 891 = .ok (.aload_n 0, 1) := zo_42 (zi_at zh_dL_law_880_880 11 rfl)
theorem dL_law_892 : decode cL_law 892 = .ok (.iload 4, 2) := zo_21 (zi_at zh_dL_law_880_880 12 rfl) (zi_at zh_dL_law_880_880 13 rfl)
theorem dL_law_894 : decode cL_law 894 = .ok (.iconst 2, 1) := zo_5 (zi_at zh_dL_law_880_880 14 rfl)
theorem dL_law_895 : decode cL_law 895 = .ok (.iadd, 1) := zo_96 (zi_at zh_dL_law_880_880 15 rfl)
theorem dL_law_896 : decode cL_law 896 = .ok (.iaload, 1) := zo_46 (zi_at zh_dL_law_880_880 16 rfl)
theorem dL_law_897 : decode cL_law 897 = .ok (.aload_n 0, 1) := zo_42 (zi_at zh_dL_law_880_880 17 rfl)
theorem dL_law_898 : decode cL_law 898 = .ok (.iload 4, 2) := zo_21 (zi_at zh_dL_law_880_880 18 rfl) (zi_at zh_dL_law_880_880 19 rfl)
theorem dL_law_900 : decode cL_law 900 = .ok (.iconst 3, 1) := zo_6 (zi_at zh_dL_law_880_880 20 rfl)
theorem dL_law_901 : decode cL_law 901 = .ok (.iadd, 1) := zo_96 (zi_at zh_dL_law_880_880 21 rfl)
theorem dL_law_902 : decode cL_law 902 = .ok (.iaload, 1) := zo_46 (zi_at zh_dL_law_880_880 22 rfl)
theorem dL_law_903 : decode cL_law 903 = .ok (.invokevirtual 90, 3) := zo_182 (zi_at zh_dL_law_880_880 23 rfl) (zi_at zh_dL_law_880_880 24 rfl) (zi_at zh_dL_law_880_880 25 rfl) rfl
theorem dL_law_906 : decode cL_law 906 = .ok (.pop, 1) := zo_87 (zi_at zh_dL_law_880_880 26 rfl)
theorem dL_law_907 : decode cL_law 907 = .ok (.goto 952, 3) := zo_167 (zi_at zh_dL_law_880_880 27 rfl) (zi_at zh_dL_law_880_880 28 rfl) (zi_at zh_dL_law_880_880 29 rfl) rfl
theorem dL_law_910 : decode cL_law 910 = .ok (.aload_n 1, 1) := zo_43 (zi_at zh_dL_law_880_880 30 rfl)
theorem dL_law_911 : decode cL_law 911 = .ok (.aload_n 0, 1) := zo_42 (zi_at zh_dL_law_880_880 31 rfl)
theorem dL_law_912 : decode cL_law 912 = .ok (.iload 4, 2) := zo_21 (zi_at zh_dL_law_880_880 32 rfl) (zi_at zh_dL_law_880_880 33 rfl)
theorem dL_law_914 : decode cL_law 914 = .ok (.iconst 1, 1) := zo_4 (zi_at zh_dL_law_880_880 34 rfl)
theorem dL_law_915 : decode cL_law 915 = .ok (.iadd, 1) := zo_96 (zi_at zh_dL_law_880_880 35 rfl)
theorem dL_law_916 : decode cL_law 916 = .ok (.iaload, 1) := zo_46 (zi_at zh_dL_law_880_880 36 rfl)
theorem dL_law_917 : decode cL_law 917 = .ok (.aload_n 0, 1) := zo_42 (zi_at zh_dL_law_880_880 37 rfl)
theorem dL_law_918 : decode cL_law 918 = .ok (.iload 4, 2) := zo_21 (zi_at zh_dL_law_880_880 38 rfl) (zi_at zh_dL_law_880_880 39 rfl)
theorem dL_law_920 : decode cL_law 920 = .ok (.iconst 2, 1) := zo_5 (zi_at zh_dL_law_920_920 0 rfl)
theorem dL_law_921 : decode cL_law 921 = .ok (.iadd, 1) := zo_96 (zi_at zh_dL_law_920_920 1 rfl)
theorem dL_law_922 : decode cL_law 922 = .ok (.iaload, 1) := zo_46 (zi_at zh_dL_law_920_920 2 rfl)
theorem dL_law_923 : decode cL_law 923 = .ok (.aload_n 0, 1) := zo_42 (zi_at zh_dL_law_920_920 3 rfl)
theorem dL_law_924 : decode cL_law 924 = .ok (.iload 4, 2) := zo_21 (zi_at zh_dL_law_920_920 4 rfl) (zi_at zh_dL_law_920_920 5 rfl)
theorem dL_law_926 : decode cL_law 926 = .ok (.iconst 3, 1) := zo_6 (zi_at zh_dL_law_920_920 6 rfl)
theorem dL_law_927 : decode cL_law 927 = .ok (.iadd, 1) := zo_96 (zi_at zh_dL_law_920_920 7 rfl)
theorem dL_law_928 : decode cL_law 928 = .ok (.iaload, 1) := zo_46 (zi_at zh_dL_law_920_920 8 rfl)
theorem dL_law_929 : decode cL_law 929 = .ok (.invokevirtual 91, 3) := zo_182 (zi_at zh_dL_law_920_920 9 rfl) (zi_at zh_dL_law_920_920 10 rfl) (zi_at zh_dL_law_920_920 11 rfl) rfl
theorem dL_law_932 : decode cL_law 932 = .ok (.pop, 1) := zo_87 (zi_at zh_dL_law_920_920 12 rfl)
theorem dL_law_933 : decode cL_law 933 = .ok (.aload_n 2, 1) := zo_44 (zi_at zh_dL_law_920_920 13 rfl)
theorem dL_law_934 : decode cL_law 934 = .ok (.aload_n 0, 1) := zo_42 (zi_at zh_dL_law_920_920 14 rfl)
theorem dL_law_935 : decode cL_law 935 = .ok (.iload 4, 2) := zo_21 (zi_at zh_dL_law_920_920 15 rfl) (zi_at zh_dL_law_920_920 16 rfl)
theorem dL_law_937 : decode cL_law 937 = .ok (.iconst 1, 1) := zo_4 (zi_at zh_dL_law_920_920 17 rfl)
theorem dL_law_938 : decode cL_law 938 = .ok (.iadd, 1) := zo_96 (zi_at zh_dL_law_920_920 18 rfl)
theorem dL_law_939 : decode cL_law 939 = .ok (.iaload, 1) := zo_46 (zi_at zh_dL_law_920_920 19 rfl)
theorem dL_law_940 : decode cL_law 940 = .ok (.aload_n 0, 1) := zo_42 (zi_at zh_dL_law_920_920 20 rfl)
theorem dL_law_941 : decode cL_law 941 = .ok (.iload 4, 2) := zo_21 (zi_at zh_dL_law_920_920 21 rfl) (zi_at zh_dL_law_920_920 22 rfl)
theorem dL_law_943 : decode cL_law 943 = .ok (.iconst 2, 1) := zo_5 (zi_at zh_dL_law_920_920 23 rfl)
theorem dL_law_944 : decode cL_law 944 = .ok (.iadd, 1) := zo_96 (zi_at zh_dL_law_920_920 24 rfl)
theorem dL_law_945 : decode cL_law 945 = .ok (.iaload, 1) := zo_46 (zi_at zh_dL_law_920_920 25 rfl)
theorem dL_law_946 : decode cL_law 946 = .ok (.aload_n 0, 1) := zo_42 (zi_at zh_dL_law_920_920 26 rfl)
theorem dL_law_947 : decode cL_law 947 = .ok (.iload 4, 2) := zo_21 (zi_at zh_dL_law_920_920 27 rfl) (zi_at zh_dL_law_920_920 28 rfl)
theorem dL_law_949 : decode cL_law 949 = .ok (.iconst 3, 1) := zo_6 (zi_at zh_dL_law_920_920 29 rfl)
theorem dL_law_950 : decode cL_law 950 = .ok (.iadd, 1) := zo_96 (zi_at zh_dL_law_920_920 30 rfl)
theorem dL_law_951 : decode cL_law 951 = .ok (.iaload, 1) := zo_46 (zi_at zh_dL_law_920_920 31 rfl)
theorem dL_law_952 : decode cL_law 952 = .ok (.invokevirtual 94, 3) := zo_182 (zi_at zh_dL_law_920_920 32 rfl) (zi_at zh_dL_law_920_920 33 rfl) (zi_at zh_dL_law_920_920 34 rfl) rfl
theorem dL_law_955 : decode cL_law 955 = .ok (.pop, 1) := zo_87 (zi_at zh_dL_law_920_920 35 rfl)
theorem dL_law_956 : decode cL_law 956 = .ok (.goto 903, 3) := zo_167 (zi_at zh_dL_law_920_920 36 rfl) (zi_at zh_dL_law_920_920 37 rfl) (zi_at zh_dL_law_920_920 38 rfl) rfl
theorem dL_law_959 : decode cL_law 959 = .ok (.aload_n 1, 1) := zo_43 (zi_at zh_dL_law_920_920 39 rfl)
theorem dL_law_960 : decode cL_law 960 = .ok (.aload_n 0, 1) := zo_42 (zi_at zh_dL_law_960_960 0 rfl)
theorem dL_law_961 : decode cL_law 961 = .ok (.iload 4, 2) := zo_21 (zi_at zh_dL_law_960_960 1 rfl) (zi_at zh_dL_law_960_960 2 rfl)
theorem dL_law_963 : decode cL_law 963 = .ok (.iconst 1, 1) := zo_4 (zi_at zh_dL_law_960_960 3 rfl)
theorem dL_law_964 : decode cL_law 964 = .ok (.iadd, 1) := zo_96 (zi_at zh_dL_law_960_960 4 rfl)
theorem dL_law_965 : decode cL_law 965 = .ok (.iaload, 1) := zo_46 (zi_at zh_dL_law_960_960 5 rfl)
theorem dL_law_966 : decode cL_law 966 = .ok (.aload_n 0, 1) := zo_42 (zi_at zh_dL_law_960_960 6 rfl)
theorem dL_law_967 : decode cL_law 967 = .ok (.iload 4, 2) := zo_21 (zi_at zh_dL_law_960_960 7 rfl) (zi_at zh_dL_law_960_960 8 rfl)
theorem dL_law_969 : decode cL_law 969 = .ok (.iconst 2, 1) := zo_5 (zi_at zh_dL_law_960_960 9 rfl)
theorem dL_law_970 : decode cL_law 970 = .ok (.iadd, 1) := zo_96 (zi_at zh_dL_law_960_960 10 rfl)
theorem dL_law_971 : decode cL_law 971 = .ok (.iaload, 1) := zo_46 (zi_at zh_dL_law_960_960 11 rfl)
theorem dL_law_972 : decode cL_law 972 = .ok (.invokevirtual 95, 3) := zo_182 (zi_at zh_dL_law_960_960 12 rfl) (zi_at zh_dL_law_960_960 13 rfl) (zi_at zh_dL_law_960_960 14 rfl) rfl
theorem dL_law_975 : decode cL_law 975 = .ok (.pop, 1) := zo_87 (zi_at zh_dL_law_960_960 15 rfl)
theorem dL_law_976 : decode cL_law 976 = .ok (.aload_n 2, 1) := zo_44 (zi_at zh_dL_law_960_960 16 rfl)
theorem dL_law_977 : decode cL_law 977 = .ok (.aload_n 0, 1) := zo_42 (zi_at zh_dL_law_960_960 17 rfl)
theorem dL_law_978 : decode cL_law 978 = .ok (.iload 4, 2) := zo_21 (zi_at zh_dL_law_960_960 18 rfl) (zi_at zh_dL_law_960_960 19 rfl)
theorem dL_law_980 : decode cL_law 980 = .ok (.iconst 1, 1) := zo_4 (zi_at zh_dL_law_960_960 20 rfl)
theorem dL_law_981 : decode cL_law 981 = .ok (.iadd, 1) := zo_96 (zi_at zh_dL_law_960_960 21 rfl)
theorem dL_law_982 : decode cL_law 982 = .ok (.iaload, 1) := zo_46 (zi_at zh_dL_law_960_960 22 rfl)
theorem dL_law_983 : decode cL_law 983 = .ok (.aload_n 0, 1) := zo_42 (zi_at zh_dL_law_960_960 23 rfl)
theorem dL_law_984 : decode cL_law 984 = .ok (.iload 4, 2) := zo_21 (zi_at zh_dL_law_960_960 24 rfl) (zi_at zh_dL_law_960_960 25 rfl)
theorem dL_law_986 : decode cL_law 986 = .ok (.iconst 2, 1) := zo_5 (zi_at zh_dL_law_960_960 26 rfl)
theorem dL_law_987 : decode cL_law 987 = .ok (.iadd, 1) := zo_96 (zi_at zh_dL_law_960_960 27 rfl)
theorem dL_law_988 : decode cL_law 988 = .ok (.iaload, 1) := zo_46 (zi_at zh_dL_law_960_960 28 rfl)
theorem dL_law_989 : decode cL_law 989 = .ok (.invokevirtual 98, 3) := zo_182 (zi_at zh_dL_law_960_960 29 rfl) (zi_at zh_dL_law_960_960 30 rfl) (zi_at zh_dL_law_960_960 31 rfl) rfl
theorem dL_law_992 : decode cL_law 992 = .ok (.pop, 1) := zo_87 (zi_at zh_dL_law_960_960 32 rfl)
theorem dL_law_993 : decode cL_law 993 = .ok (.goto 866, 3) := zo_167 (zi_at zh_dL_law_960_960 33 rfl) (zi_at zh_dL_law_960_960 34 rfl) (zi_at zh_dL_law_960_960 35 rfl) rfl
theorem dL_law_996 : decode cL_law 996 = .ok (.aload_n 1, 1) := zo_43 (zi_at zh_dL_law_960_960 36 rfl)
theorem dL_law_997 : decode cL_law 997 = .ok (.aload_n 0, 1) := zo_42 (zi_at zh_dL_law_960_960 37 rfl)
theorem dL_law_998 : decode cL_law 998 = .ok (.iload 4, 2) := zo_21 (zi_at zh_dL_law_960_960 38 rfl) (zi_at zh_dL_law_960_960 39 rfl)
theorem dL_law_1000 : decode cL_law 1000 = .ok (.iconst 1, 1) := zo_4 (zi_at zh_dL_law_1000_1000 0 rfl)
theorem dL_law_1001 : decode cL_law 1001 = .ok (.iadd, 1) := zo_96 (zi_at zh_dL_law_1000_1000 1 rfl)
theorem dL_law_1002 : decode cL_law 1002 = .ok (.iaload, 1) := zo_46 (zi_at zh_dL_law_1000_1000 2 rfl)
theorem dL_law_1003 : decode cL_law 1003 = .ok (.aload_n 0, 1) := zo_42 (zi_at zh_dL_law_1000_1000 3 rfl)
theorem dL_law_1004 : decode cL_law 1004 = .ok (.iload 4, 2) := zo_21 (zi_at zh_dL_law_1000_1000 4 rfl) (zi_at zh_dL_law_1000_1000 5 rfl)
theorem dL_law_1006 : decode cL_law 1006 = .ok (.iconst 2, 1) := zo_5 (zi_at zh_dL_law_1000_1000 6 rfl)
theorem dL_law_1007 : decode cL_law 1007 = .ok (.iadd, 1) := zo_96 (zi_at zh_dL_law_1000_1000 7 rfl)
theorem dL_law_1008 : decode cL_law 1008 = .ok (.iaload, 1) := zo_46 (zi_at zh_dL_law_1000_1000 8 rfl)
theorem dL_law_1009 : decode cL_law 1009 = .ok (.aload_n 0, 1) := zo_42 (zi_at zh_dL_law_1000_1000 9 rfl)
theorem dL_law_1010 : decode cL_law 1010 = .ok (.iload 4, 2) := zo_21 (zi_at zh_dL_law_1000_1000 10 rfl) (zi_at zh_dL_law_1000_1000 11 rfl)
theorem dL_law_1012 : decode cL_law 1012 = .ok (.iconst 3, 1) := zo_6 (zi_at zh_dL_law_1000_1000 12 rfl)
theorem dL_law_1013 : decode cL_law 1013 = .ok (.iadd, 1) := zo_96 (zi_at zh_dL_law_1000_1000 13 rfl)
theorem dL_law_1014 : decode cL_law 1014 = .ok (.iaload, 1) := zo_46 (zi_at zh_dL_law_1000_1000 14 rfl)
theorem dL_law_1015 : decode cL_law 1015 = .ok (.invokevirtual 99, 3) := zo_182 (zi_at zh_dL_law_1000_1000 15 rfl) (zi_at zh_dL_law_1000_1000 16 rfl) (zi_at zh_dL_law_1000_1000 17 rfl) rfl
theorem dL_law_1018 : decode cL_law 1018 = .ok (.pop, 1) := zo_87 (zi_at zh_dL_law_1000_1000 18 rfl)
theorem dL_law_1019 : decode cL_law 1019 = .ok (.aload_n 2, 1) := zo_44 (zi_at zh_dL_law_1000_1000 19 rfl)
theorem dL_law_1020 : decode cL_law 1020 = .ok (.aload_n 0, 1) := zo_42 (zi_at zh_dL_law_1000_1000 20 rfl)
theorem dL_law_1021 : decode cL_law 1021 = .ok (.iload 4, 2) := zo_21 (zi_at zh_dL_law_1000_1000 21 rfl) (zi_at zh_dL_law_1000_1000 22 rfl)
theorem dL_law_1023 : decode cL_law 1023 = .ok (.iconst 1, 1) := zo_4 (zi_at zh_dL_law_1000_1000 23 rfl)
theorem dL_law_1024 : decode cL_law 1024 = .ok (.iadd, 1) := zo_96 (zi_at zh_dL_law_1000_1000 24 rfl)
theorem dL_law_1025 : decode cL_law 1025 = .ok (.iaload, 1) := zo_46 (zi_at zh_dL_law_1000_1000 25 rfl)
theorem dL_law_1026 : decode cL_law 1026 = .ok (.aload_n 0, 1) := zo_42 (zi_at zh_dL_law_1000_1000 26 rfl)
theorem dL_law_1027 : decode cL_law 1027 = .ok (.iload 4, 2) := zo_21 (zi_at zh_dL_law_1000_1000 27 rfl) (zi_at zh_dL_law_1000_1000 28 rfl)
theorem dL_law_1029 : decode cL_law 1029 = .ok (.iconst 2, 1) := zo_5 (zi_at zh_dL_law_1000_1000 29 rfl)
theorem dL_law_1030 : decode cL_law 1030 = .ok (.iadd, 1) := zo_96 (zi_at zh_dL_law_1000_1000 30 rfl)
theorem dL_law_1031 : decode cL_law 1031 = .ok (.iaload, 1) := zo_46 (zi_at zh_dL_law_1000_1000 31 rfl)
theorem dL_law_1032 : decode cL_law 1032 = .ok (.aload_n 0, 1) := zo_42 (zi_at zh_dL_law_1000_1000 32 rfl)
theorem dL_law_1033 : decode cL_law 1033 = .ok (.iload 4, 2) := zo_21 (zi_at zh_dL_law_1000_1000 33 rfl) (zi_at zh_dL_law_1000_1000 34 rfl)
theorem dL_law_1035 : decode cL_law 1035 = .ok (.iconst 3, 1) := zo_6 (zi_at zh_dL_law_1000_1000 35 rfl)
theorem dL_law_1036 : decode cL_law 1036 = .ok (.iadd, 1) := zo_96 (zi_at zh_dL_law_1000_1000 36 rfl)
theorem dL_law_1037 : decode cL_law 1037 = .ok (.iaload, 1) := zo_46 (zi_at zh_dL_law_1000_1000 37 rfl)
theorem dL_law_1038 : decode cL_law 1038 = .ok (.invokevirtual 102, 3) := zo_182 (zi_at zh_dL_law_1000_1000 38 rfl) (zi_at zh_dL_law_1000_1000 39 rfl) (zi_at zh_dL_law_1038_1040 0 rfl) rfl
theorem dL_law_1041 : decode cL_law 1041 = .ok (.pop, 1) := zo_87 (zi_at zh_dL_law_1038_1040 1 rfl)
theorem dL_law_1042 : decode cL_law 1042 = .ok (.goto 817, 3) := zo_167 (zi_at zh_dL_law_1038_1040 2 rfl) (zi_at zh_dL_law_1038_1040 3 rfl) (zi_at zh_dL_law_1038_1040 4 rfl) rfl
theorem dL_law_1045 : decode cL_law 1045 = .ok (.aload_n 1, 1) := zo_43 (zi_at zh_dL_law_1038_1040 5 rfl)
theorem dL_law_1046 : decode cL_law 1046 = .ok (.aload_n 0, 1) := zo_42 (zi_at zh_dL_law_1038_1040 6 rfl)
theorem dL_law_1047 : decode cL_law 1047 = .ok (.iload 4, 2) := zo_21 (zi_at zh_dL_law_1038_1040 7 rfl) (zi_at zh_dL_law_1038_1040 8 rfl)
theorem dL_law_1049 : decode cL_law 1049 = .ok (.iconst 1, 1) := zo_4 (zi_at zh_dL_law_1038_1040 9 rfl)
theorem dL_law_1050 : decode cL_law 1050 = .ok (.iadd, 1) := zo_96 (zi_at zh_dL_law_1038_1040 10 rfl)
theorem dL_law_1051 : decode cL_law 1051 = .ok (.iaload, 1) := zo_46 (zi_at zh_dL_law_1038_1040 11 rfl)
theorem dL_law_1052 : decode cL_law 1052 = .ok (.aload_n 0, 1) := zo_42 (zi_at zh_dL_law_1038_1040 12 rfl)
theorem dL_law_1053 : decode cL_law 1053 = .ok (.iload 4, 2) := zo_21 (zi_at zh_dL_law_1038_1040 13 rfl) (zi_at zh_dL_law_1038_1040 14 rfl)
theorem dL_law_1055 : decode cL_law 1055 = .ok (.iconst 2, 1) := zo_5 (zi_at zh_dL_law_1038_1040 15 rfl)
theorem dL_law_1056 : decode cL_law 1056 = .ok (.iadd, 1) := zo_96 (zi_at zh_dL_law_1038_1040 16 rfl)
theorem dL_law_1057 : decode cL_law 1057 = .ok (.iaload, 1) := zo_46 (zi_at zh_dL_law_1038_1040 17 rfl)
theorem dL_law_1058 : decode cL_law 1058 = .ok (.aload_n 0, 1) := zo_42 (zi_at zh_dL_law_1038_1040 18 rfl)
theorem dL_law_1059 : decode cL_law 1059 = .ok (.iload 4, 2) := zo_21 (zi_at zh_dL_law_1038_1040 19 rfl) (zi_at zh_dL_law_1038_1040 20 rfl)
theorem dL_law_1061 : decode cL_law 1061 = .ok (.iconst 3, 1) := zo_6 (zi_at zh_dL_law_1038_1040 21 rfl)
theorem dL_law_1062 : decode cL_law 1062 = .ok (.iadd, 1) := zo_96 (zi_at zh_dL_law_1038_1040 22 rfl)
theorem dL_law_1063 : decode cL_law 1063 = .ok (.iaload, 1) := zo_46 (zi_at zh_dL_law_1038_1040 23 rfl)
theorem dL_law_1064 : decode cL_law 1064 = .ok (.invokevirtual 103, 3) := zo_182 (zi_at zh_dL_law_1038_1040 24 rfl) (zi_at zh_dL_law_1038_1040 25 rfl) (zi_at zh_dL_law_1038_1040 26 rfl) rfl
theorem dL_law_1067 : decode cL_law 1067 = .ok (.pop, 1) := zo_87 (zi_at zh_dL_law_1038_1040 27 rfl)
theorem dL_law_1068 : decode cL_law 1068 = .ok (.aload_n 2, 1) := zo_44 (zi_at zh_dL_law_1038_1040 28 rfl)
theorem dL_law_1069 : decode cL_law 1069 = .ok (.aload_n 0, 1) := zo_42 (zi_at zh_dL_law_1038_1040 29 rfl)
theorem dL_law_1070 : decode cL_law 1070 = .ok (.iload 4, 2) := zo_21 (zi_at zh_dL_law_1038_1040 30 rfl) (zi_at zh_dL_law_1038_1040 31 rfl)
theorem dL_law_1072 : decode cL_law 1072 = .ok (.iconst 1, 1) := zo_4 (zi_at zh_dL_law_1038_1040 32 rfl)
theorem dL_law_1073 : decode cL_law 1073 = .ok (.iadd, 1) := zo_96 (zi_at zh_dL_law_1038_1040 33 rfl)
theorem dL_law_1074 : decode cL_law 1074 = .ok (.iaload, 1) := zo_46 (zi_at zh_dL_law_1038_1040 34 rfl)
theorem dL_law_1075 : decode cL_law 1075 = .ok (.aload_n 0, 1) := zo_42 (zi_at zh_dL_law_1038_1040 35 rfl)
theorem dL_law_1076 : decode cL_law 1076 = .ok (.iload 4, 2) := zo_21 (zi_at zh_dL_law_1038_1040 36 rfl) (zi_at zh_dL_law_1038_1040 37 rfl)
theorem dL_law_1078 : decode cL_law 1078 = .ok (.iconst 2, 1) := zo_5 (zi_at zh_dL_law_1038_1040 38 rfl)
theorem dL_law_1079 : decode cL_law 1079 = .ok (.iadd, 1) := zo_96 (zi_at zh_dL_law_1038_1040 39 rfl)
theorem dL_law_1080 : decode cL_law 1080 = .ok (.iaload, 1) := zo_46 (zi_at zh_dL_law_1080_1080 0 rfl)
theorem dL_law_1081 : decode cL_law 1081 = .ok (.aload_n 0, 1) := zo_42 (zi_at zh_dL_law_1080_1080 1 rfl)
theorem dL_law_1082 : decode cL_law 1082 = .ok (.iload 4, 2) := zo_21 (zi_at zh_dL_law_1080_1080 2 rfl) (zi_at zh_dL_law_1080_1080 3 rfl)
theorem dL_law_1084 : decode cL_law 1084 = .ok (.iconst 3, 1) := zo_6 (zi_at zh_dL_law_1080_1080 4 rfl)
theorem dL_law_1085 : decode cL_law 1085 = .ok (.iadd, 1) := zo_96 (zi_at zh_dL_law_1080_1080 5 rfl)
theorem dL_law_1086 : decode cL_law 1086 = .ok (.iaload, 1) := zo_46 (zi_at zh_dL_law_1080_1080 6 rfl)
theorem dL_law_1087 : decode cL_law 1087 = .ok (.invokevirtual 106, 3) := zo_182 (zi_at zh_dL_law_1080_1080 7 rfl) (zi_at zh_dL_law_1080_1080 8 rfl) (zi_at zh_dL_law_1080_1080 9 rfl) rfl
theorem dL_law_1090 : decode cL_law 1090 = .ok (.pop, 1) := zo_87 (zi_at zh_dL_law_1080_1080 10 rfl)
theorem dL_law_1091 : decode cL_law 1091 = .ok (.goto 768, 3) := zo_167 (zi_at zh_dL_law_1080_1080 11 rfl) (zi_at zh_dL_law_1080_1080 12 rfl) (zi_at zh_dL_law_1080_1080 13 rfl) rfl
theorem hz_yX12_race_6 : yX12_race.cls ≠ "java/lang/invoke/MethodHandle" ∧ yX12_race.cls ≠ "java/lang/invoke/VarHandle" ∧ (parseMethodDescriptor yX12_race.desc).map (fun d => d.parameters.length) = some 6 := by decide +kernel
theorem hz_yX13_race_6 : yX13_race.cls ≠ "java/lang/invoke/MethodHandle" ∧ yX13_race.cls ≠ "java/lang/invoke/VarHandle" ∧ (parseMethodDescriptor yX13_race.desc).map (fun d => d.parameters.length) = some 6 := by decide +kernel
theorem hz_yX12_swift_2 : yX12_swift.cls ≠ "java/lang/invoke/MethodHandle" ∧ yX12_swift.cls ≠ "java/lang/invoke/VarHandle" ∧ (parseMethodDescriptor yX12_swift.desc).map (fun d => d.parameters.length) = some 2 := by decide +kernel
theorem hz_yX13_swift_2 : yX13_swift.cls ≠ "java/lang/invoke/MethodHandle" ∧ yX13_swift.cls ≠ "java/lang/invoke/VarHandle" ∧ (parseMethodDescriptor yX13_swift.desc).map (fun d => d.parameters.length) = some 2 := by decide +kernel
theorem hz_yX12_enter_2 : yX12_enter.cls ≠ "java/lang/invoke/MethodHandle" ∧ yX12_enter.cls ≠ "java/lang/invoke/VarHandle" ∧ (parseMethodDescriptor yX12_enter.desc).map (fun d => d.parameters.length) = some 2 := by decide +kernel
theorem hz_yX13_enter_2 : yX13_enter.cls ≠ "java/lang/invoke/MethodHandle" ∧ yX13_enter.cls ≠ "java/lang/invoke/VarHandle" ∧ (parseMethodDescriptor yX13_enter.desc).map (fun d => d.parameters.length) = some 2 := by decide +kernel
theorem hz_yX12_result_4 : yX12_result.cls ≠ "java/lang/invoke/MethodHandle" ∧ yX12_result.cls ≠ "java/lang/invoke/VarHandle" ∧ (parseMethodDescriptor yX12_result.desc).map (fun d => d.parameters.length) = some 4 := by decide +kernel
theorem hz_yX13_result_4 : yX13_result.cls ≠ "java/lang/invoke/MethodHandle" ∧ yX13_result.cls ≠ "java/lang/invoke/VarHandle" ∧ (parseMethodDescriptor yX13_result.desc).map (fun d => d.parameters.length) = some 4 := by decide +kernel
theorem hz_yX12_coded_3 : yX12_coded.cls ≠ "java/lang/invoke/MethodHandle" ∧ yX12_coded.cls ≠ "java/lang/invoke/VarHandle" ∧ (parseMethodDescriptor yX12_coded.desc).map (fun d => d.parameters.length) = some 3 := by decide +kernel
theorem hz_yX13_coded_3 : yX13_coded.cls ≠ "java/lang/invoke/MethodHandle" ∧ yX13_coded.cls ≠ "java/lang/invoke/VarHandle" ∧ (parseMethodDescriptor yX13_coded.desc).map (fun d => d.parameters.length) = some 3 := by decide +kernel
theorem hz_yX12_corrected_3 : yX12_corrected.cls ≠ "java/lang/invoke/MethodHandle" ∧ yX12_corrected.cls ≠ "java/lang/invoke/VarHandle" ∧ (parseMethodDescriptor yX12_corrected.desc).map (fun d => d.parameters.length) = some 3 := by decide +kernel
theorem hz_yX13_corrected_3 : yX13_corrected.cls ≠ "java/lang/invoke/MethodHandle" ∧ yX13_corrected.cls ≠ "java/lang/invoke/VarHandle" ∧ (parseMethodDescriptor yX13_corrected.desc).map (fun d => d.parameters.length) = some 3 := by decide +kernel
theorem hz_yX12_placed_3 : yX12_placed.cls ≠ "java/lang/invoke/MethodHandle" ∧ yX12_placed.cls ≠ "java/lang/invoke/VarHandle" ∧ (parseMethodDescriptor yX12_placed.desc).map (fun d => d.parameters.length) = some 3 := by decide +kernel
theorem hz_yX13_placed_3 : yX13_placed.cls ≠ "java/lang/invoke/MethodHandle" ∧ yX13_placed.cls ≠ "java/lang/invoke/VarHandle" ∧ (parseMethodDescriptor yX13_placed.desc).map (fun d => d.parameters.length) = some 3 := by decide +kernel
theorem hz_yX12_redress_2 : yX12_redress.cls ≠ "java/lang/invoke/MethodHandle" ∧ yX12_redress.cls ≠ "java/lang/invoke/VarHandle" ∧ (parseMethodDescriptor yX12_redress.desc).map (fun d => d.parameters.length) = some 2 := by decide +kernel
theorem hz_yX13_redress_2 : yX13_redress.cls ≠ "java/lang/invoke/MethodHandle" ∧ yX13_redress.cls ≠ "java/lang/invoke/VarHandle" ∧ (parseMethodDescriptor yX13_redress.desc).map (fun d => d.parameters.length) = some 2 := by decide +kernel
theorem hz_yX12_points_3 : yX12_points.cls ≠ "java/lang/invoke/MethodHandle" ∧ yX12_points.cls ≠ "java/lang/invoke/VarHandle" ∧ (parseMethodDescriptor yX12_points.desc).map (fun d => d.parameters.length) = some 3 := by decide +kernel
theorem hz_yX13_points_3 : yX13_points.cls ≠ "java/lang/invoke/MethodHandle" ∧ yX13_points.cls ≠ "java/lang/invoke/VarHandle" ∧ (parseMethodDescriptor yX13_points.desc).map (fun d => d.parameters.length) = some 3 := by decide +kernel
theorem hz_yX12_thrown_3 : yX12_thrown.cls ≠ "java/lang/invoke/MethodHandle" ∧ yX12_thrown.cls ≠ "java/lang/invoke/VarHandle" ∧ (parseMethodDescriptor yX12_thrown.desc).map (fun d => d.parameters.length) = some 3 := by decide +kernel
theorem hz_yX13_thrown_3 : yX13_thrown.cls ≠ "java/lang/invoke/MethodHandle" ∧ yX13_thrown.cls ≠ "java/lang/invoke/VarHandle" ∧ (parseMethodDescriptor yX13_thrown.desc).map (fun d => d.parameters.length) = some 3 := by decide +kernel

set_option maxHeartbeats 4000000 in
set_option maxRecDepth 100000 in
theorem law_case_10 {p : Program} {e : Env} {s : State} {m : MethodId} {below : List Frame} {meth : Method} {c : Code} (l : Launch) {b L : Nat} {xs : Nat → Int32} (hL : L ≤ 4096) (C0 : lw_At p s m meth c b L xs) {A : Nat → Prop} {ed : Nat} {dC : Nat → ClassId} {dI : Nat → Nat → Nat} {cT : Nat → ClassId} {cL : ClassId} (F : FX l s A ed dC dI cT cL) {x ou : Nat} {am cf ad : Nat → Nat} {E EM : Nat → va_E} {f : Nat → Int64} {H : Heap} {locs : List Loc} (V : INV s A ed dC dI cT cL x ou am cf ad E EM f H locs) (hR : REL15 cf E EM) {i : Int32} (hi0 : 0 ≤ i.toInt) (hi8 : i.toInt + 8 ≤ (L : Int)) {cn sn : Nat} (hcn : cn + 7 ≤ 601024) (hsn : sn + 3300 ≤ 7293034) (ls : Array Slot) (hl : lv_has ls 7 [(0, .ref b), (1, .ref x), (2, .ref (am 0)), (3, .ref ou), (4, .int i)]) (tail : (∀ (cf ad : Nat → Nat) (E EM : Nat → va_E) (f : Nat → Int64) (H : Heap) (locs : List Loc) (ls : Array Slot), INV s A ed dC dI cT cL x ou am cf ad E EM f H locs → REL15 cf E EM → lv_has ls 7 [(0, .ref b), (1, .ref x), (2, .ref (am 0)), (3, .ref ou), (4, .int i)] → W p l e room_1 s m #[Value.ref b] below meth c H locs (cn + 7) (sn + 3300) (lw_Z below #[Value.ref b] s) (F0 m 1859 ls []))) : W p l e room_1 s m #[Value.ref b] below meth c H locs cn sn (lw_Z below #[Value.ref b] s) (F0 m 590 ls []) := by
  obtain ⟨hx, hb, hr, hml, hown, hts0, hX, hbl, hlocks, hgv⟩ := id C0
  have hts := fun w (h : w ∈ v_law) => hts0 w (v_law_in w h)
  have hbA : ¬ A b := F.hnA b hbl
  obtain rfl := V.hx
  obtain ⟨⟨⟨⟨⟨hR, hT⟩, hU⟩, hG⟩, hB⟩, hRS⟩ := hR
  refine lv_aload_n hx hb dL_law_590 rfl (lv_at hl 1 rfl) ?_
  refine lv_aload_n hx hb dL_law_591 rfl (lv_at hl 0 rfl) ?_
  refine lv_iload hx hb dL_law_592 (lv_at hl 4 rfl) ?_
  refine lv_iconst (v := 1) hx hb dL_law_594 (by decide) ?_
  refine lv_iadd hx hb dL_law_595 ?_
  refine va_sld hx hb hX hbl hbA V.hS (law_in (k := 1) hi0 hi8 hL (by decide) rfl) dL_law_596 ?_
  refine lv_aload_n hx hb dL_law_597 rfl (lv_at hl 0 rfl) ?_
  refine lv_iload hx hb dL_law_598 (lv_at hl 4 rfl) ?_
  refine lv_iconst (v := 2) hx hb dL_law_600 (by decide) ?_
  refine lv_iadd hx hb dL_law_601 ?_
  refine va_sld hx hb hX hbl hbA V.hS (law_in (k := 2) hi0 hi8 hL (by decide) rfl) dL_law_602 ?_
  refine lv_aload_n hx hb dL_law_603 rfl (lv_at hl 0 rfl) ?_
  refine lv_iload hx hb dL_law_604 (lv_at hl 4 rfl) ?_
  refine lv_iconst (v := 3) hx hb dL_law_606 (by decide) ?_
  refine lv_iadd hx hb dL_law_607 ?_
  refine va_sld hx hb hX hbl hbA V.hS (law_in (k := 3) hi0 hi8 hL (by decide) rfl) dL_law_608 ?_
  refine lv_aload_n hx hb dL_law_609 rfl (lv_at hl 0 rfl) ?_
  refine lv_iload hx hb dL_law_610 (lv_at hl 4 rfl) ?_
  refine lv_iconst (v := 4) hx hb dL_law_612 (by decide) ?_
  refine lv_iadd hx hb dL_law_613 ?_
  refine va_sld hx hb hX hbl hbA V.hS (law_in (k := 4) hi0 hi8 hL (by decide) rfl) dL_law_614 ?_
  refine lv_aload_n hx hb dL_law_615 rfl (lv_at hl 0 rfl) ?_
  refine lv_iload hx hb dL_law_616 (lv_at hl 4 rfl) ?_
  refine lv_iconst (v := 5) hx hb dL_law_618 (by decide) ?_
  refine lv_iadd hx hb dL_law_619 ?_
  refine va_sld hx hb hX hbl hbA V.hS (law_in (k := 5) hi0 hi8 hL (by decide) rfl) dL_law_620 ?_
  refine lv_aload_n hx hb dL_law_621 rfl (lv_at hl 0 rfl) ?_
  refine lv_iload hx hb dL_law_622 (lv_at hl 4 rfl) ?_
  refine lv_bipush (v := 6) hx hb dL_law_624 (by decide) ?_
  refine lv_iadd hx hb dL_law_626 ?_
  refine va_sld hx hb hX hbl hbA V.hS (law_in (k := 6) hi0 hi8 hL (by decide) rfl) dL_law_627 ?_
  have hI0 := V.hI
  have hC0 := V.hC
  have hM0 := V.hM
  have bn : (0 : Int) ≤ (xi (E 1) 0).toInt ∧ (xi (E 1) 0).toInt ≤ 400 := hI0.iv 1 (mF 1 rfl) rfl (Nat.le_of_ble_eq_true rfl) rfl
  have bb : (0 : Int) ≤ (xi (E 1) 1).toInt ∧ (xi (E 1) 1).toInt ≤ 16 := hI0.iv 1 (mF 1 rfl) rfl (Nat.le_of_ble_eq_true rfl) rfl
  obtain ⟨⟨k0, k1, k2, k3, k4, k5⟩, -⟩ := id hC0
  refine lCm F V (fun r u h => (madeX_o h).1) (va_runV (As := [.int (xs (i + 1).toNatClampNeg), .int (xs (i + 2).toNatClampNeg), .int (xs (i + 3).toNatClampNeg), .int (xs (i + 4).toNatClampNeg), .int (xs (i + 5).toNatClampNeg), .int (xs (i + 6).toNatClampNeg)]) (rest := []) ⟨hx, hb, hml, hown, hts⟩ (q_u_race l dC dI cT cf V.hC ad E H.size (xs (i + 1).toNatClampNeg) (xs (i + 2).toNatClampNeg) (xs (i + 3).toNatClampNeg) (xs (i + 4).toNatClampNeg) (xs (i + 5).toNatClampNeg) (xs (i + 6).toNatClampNeg) V.hI) (cwV 6 hts (gl_V (al_1 _ (zs16 (zs4 (zs0)))) (al_1 _ (zs16 (zs4 (zs1 (zs0))))) (al_1 _ (zs16 (zs4 (zs1 (zs1 (zs0)))))) (vl_A _ (in_4 _ (zs16 (zs4 (zs1 (zs1 (zs1 (zs0)))))))) (vl_A _ (in_21 _ (zs4 (zs1 (zs1 (zs1 (zs0)))))))) rfl rfl rfl ⟨rfl, hz_yX12_race_6⟩ ⟨Nat.le_of_ble_eq_true rfl, Nat.le_of_ble_eq_true rfl⟩) ⟨HWL_bl, va_recv F.kc V.cp (ci := 13) (q0 := posL 0 (LC cf)) rfl (V.hI.ob 0 (mF 0 rfl) rfl), HWL_wi V.cp F.kc V.dc V.hS F.hA (V.ec F)⟩ rfl rfl hl.1 rfl (lv_room (Nat.le_of_ble_eq_true rfl)) dL_law_628 ⟨by show cn + 7 ≤ 601024; omega, by show sn + 1117 ≤ 7293034; omega⟩) (fun r1 cf1 ad1 E1 H locs hw1 V => ?_)
  refine lv_pop hx hb dL_law_631 rfl ?_
  refine lv_aload_n hx hb dL_law_632 rfl (lv_at hl 2 rfl) ?_
  refine lv_aload_n hx hb dL_law_633 rfl (lv_at hl 0 rfl) ?_
  refine lv_iload hx hb dL_law_634 (lv_at hl 4 rfl) ?_
  refine lv_iconst (v := 1) hx hb dL_law_636 (by decide) ?_
  refine lv_iadd hx hb dL_law_637 ?_
  refine va_sld hx hb hX hbl hbA V.hS (law_in (k := 1) hi0 hi8 hL (by decide) rfl) dL_law_638 ?_
  refine lv_aload_n hx hb dL_law_639 rfl (lv_at hl 0 rfl) ?_
  refine lv_iload hx hb dL_law_640 (lv_at hl 4 rfl) ?_
  refine lv_iconst (v := 2) hx hb dL_law_642 (by decide) ?_
  refine lv_iadd hx hb dL_law_643 ?_
  refine va_sld hx hb hX hbl hbA V.hS (law_in (k := 2) hi0 hi8 hL (by decide) rfl) dL_law_644 ?_
  refine lv_aload_n hx hb dL_law_645 rfl (lv_at hl 0 rfl) ?_
  refine lv_iload hx hb dL_law_646 (lv_at hl 4 rfl) ?_
  refine lv_iconst (v := 3) hx hb dL_law_648 (by decide) ?_
  refine lv_iadd hx hb dL_law_649 ?_
  refine va_sld hx hb hX hbl hbA V.hS (law_in (k := 3) hi0 hi8 hL (by decide) rfl) dL_law_650 ?_
  refine lv_aload_n hx hb dL_law_651 rfl (lv_at hl 0 rfl) ?_
  refine lv_iload hx hb dL_law_652 (lv_at hl 4 rfl) ?_
  refine lv_iconst (v := 4) hx hb dL_law_654 (by decide) ?_
  refine lv_iadd hx hb dL_law_655 ?_
  refine va_sld hx hb hX hbl hbA V.hS (law_in (k := 4) hi0 hi8 hL (by decide) rfl) dL_law_656 ?_
  refine lv_aload_n hx hb dL_law_657 rfl (lv_at hl 0 rfl) ?_
  refine lv_iload hx hb dL_law_658 (lv_at hl 4 rfl) ?_
  refine lv_iconst (v := 5) hx hb dL_law_660 (by decide) ?_
  refine lv_iadd hx hb dL_law_661 ?_
  refine va_sld hx hb hX hbl hbA V.hS (law_in (k := 5) hi0 hi8 hL (by decide) rfl) dL_law_662 ?_
  refine lv_aload_n hx hb dL_law_663 rfl (lv_at hl 0 rfl) ?_
  refine lv_iload hx hb dL_law_664 (lv_at hl 4 rfl) ?_
  refine lv_bipush (v := 6) hx hb dL_law_666 (by decide) ?_
  refine lv_iadd hx hb dL_law_668 ?_
  refine va_sld hx hb hX hbl hbA V.hS (law_in (k := 6) hi0 hi8 hL (by decide) rfl) dL_law_669 ?_
  refine lM F V (fun r u h => ⟨h.1, DIr_kp h.2.1 (fun _ => rfl) (fun _ => rfl) V.hDI⟩) (va_runV (As := [.int (xs (i + 1).toNatClampNeg), .int (xs (i + 2).toNatClampNeg), .int (xs (i + 3).toNatClampNeg), .int (xs (i + 4).toNatClampNeg), .int (xs (i + 5).toNatClampNeg), .int (xs (i + 6).toNatClampNeg)]) (rest := []) ⟨hx, hb, hml, hown, hts⟩ (q_raceR l dC dI cT am EM H.size (xs (i + 1).toNatClampNeg) (xs (i + 2).toNatClampNeg) (xs (i + 3).toNatClampNeg) (xs (i + 4).toNatClampNeg) (xs (i + 5).toNatClampNeg) (xs (i + 6).toNatClampNeg) V.hM) (cwV 6 hts (gl_V (al_1 _ (zs16 (zs4 (zs1 (zs1 (zs1 (zs0))))))) (al_1 _ (zs16 (zs4 (zs4 (zs0))))) (al_1 _ (zs16 (zs4 (zs4 (zs1 (zs0)))))) (vl_A _ (in_24 _ (zs4 (zs4 (zs4 (zs1 (zs1 (zs1 (zs0))))))))) (vl_A _ (in_33 _ (zs4 (zs4 (zs1 (zs1 (zs1 (zs0))))))))) rfl rfl rfl ⟨rfl, hz_yX13_race_6⟩ ⟨Nat.le_of_ble_eq_true rfl, Nat.le_of_ble_eq_true rfl⟩) ⟨HW_bl, va_recv F.km V.pm (ci := 14) (q0 := 0) rfl (V.hM.ob 0 (Nat.le_of_ble_eq_true rfl) rfl), HW_wi V.pm F.km V.dm V.hS F.hA F.hEV⟩ rfl rfl hl.1 rfl (lv_room (Nat.le_of_ble_eq_true rfl)) dL_law_670 ⟨by show cn + 7 + 0 ≤ 601024; omega, by show sn + 1117 + 0 ≤ 7293034; omega⟩) (fun r2 EM1 H locs hw2 V => ?_)
  have hs29 : ∀ i9, i9 < cf 3 → xi (E1 (64 * (i9 + 1) + 12)) 2 = xi (E (64 * (i9 + 1) + 12)) 2 := fun i9 hi9 => madeX_p hw1 (by decide) (fun o j ho => by first | exact wl_p rfl rfl (by omega) | (simp [wl]; done) | (simp [wl]; omega)) 12 i9 2 (by decide) hi9
  have hs39 : ∀ i9, i9 < cf 3 → xi (E1 (64 * (i9 + 1) + 12)) 3 = xi (E (64 * (i9 + 1) + 12)) 3 := fun i9 hi9 => madeX_p hw1 (by decide) (fun o j ho => by first | exact wl_p rfl rfl (by omega) | (simp [wl]; done) | (simp [wl]; omega)) 12 i9 3 (by decide) hi9
  have hRS := hRS.keep (cf' := cf1) (E' := E1) (madeX_c hw1 3 (by decide) (by decide)) hs29 hs39
  have hb9 : xi (E1 1) 1 = xi (E 1) 1 := congrArg vi ((madeX_o hw1).2 1 (by first | rfl | (simp [wl]; done) | (simp [wl]; omega)))
  have hk9 : ∀ i9, i9 < cf 0 → xi (E1 (64 * (i9 + 1) + 0)) 0 = xi (E (64 * (i9 + 1) + 0)) 0 := fun i9 hi9 => madeX_p hw1 (by decide) (fun o j ho => by first | exact wl_p rfl rfl (by omega) | (simp [wl]; done) | (simp [wl]; omega)) 0 i9 0 (by decide) hi9
  have hB := hB.keep (cf' := cf1) (E' := E1) (madeX_c hw1 0 (by decide) (by decide)) (by rw [hb9]; exact Int.le_refl _) hk9
  have hT := hT.keep (cf' := cf1) (E' := E1) (madeX_c hw1 1 (by decide) (by decide)) (madeX_f hw1 (o := 2) (j := 1) (by decide) (by first | rfl | (simp [wl]; done) | (simp [wl]; omega))) (fun j9 => madeX_f hw1 (o := 21) (j := j9) (by decide) (by first | rfl | (simp [wl]; done) | (simp [wl]; omega))) (fun i9 j9 hi9 => madeX_p hw1 (by decide) (fun o j ho => by first | exact wl_p rfl rfl (by omega) | (simp [wl]; done) | (simp [wl]; omega)) 1 i9 j9 (by decide) hi9) (xik hw2.2.1 (o := 0) (j := 16) rfl) (xik hw2.2.1 (o := 0) (j := 17) rfl) (fun j9 => xik hw2.2.1 (o := 7) (j := j9) rfl) (fun j9 => xik hw2.2.1 (o := 10) (j := j9) rfl) (fun j9 => xik hw2.2.1 (o := 11) (j := j9) rfl)
  have hU := hU.keep (cf' := cf1) (E' := E1) (madeX_c hw1 1 (by decide) (by decide)) (fun i9 _ => madeX_8 hw1 (by decide) i9) (fun i9 hi9 t9 g1 g2 j9 => madeX_p hw1 (by decide) (fun o j ho => by first | exact wl_p rfl rfl (by omega) | (simp [wl]; done) | (simp [wl]; omega)) t9 i9 j9 (by omega) (by rw [kl1 t9 g1 g2]; exact hi9)) (fun j9 => xik hw2.2.1 (o := 8) (j := j9) rfl) (fun j9 => xik hw2.2.1 (o := 9) (j := j9) rfl)
  have hG := hG.keep (cf' := cf1) (E' := E1) (madeX_c hw1 5 (by decide) (by decide)) (fun i9 j9 hi9 => madeX_p hw1 (by decide) (fun o j ho => by first | exact wl_p rfl rfl (by omega) | (simp [wl]; done) | (simp [wl]; omega)) 14 i9 j9 (by decide) hi9) (fun j9 => xik hw2.2.1 (o := 51) (j := j9) rfl)
  have e0 : (xi (E 1) 0).toInt = (xi (EM 0) 1).toInt := congrArg Int32.toInt hR.now
  have e1 : (xi (E 1) 1).toInt = (xi (EM 0) 8).toInt := congrArg Int32.toInt hR.boats
  have e2 : (xi (E 1) 2).toInt = (xi (EM 0) 48).toInt := congrArg Int32.toInt hR.red
  obtain ⟨q0, q2, q3, q4, q5⟩ := hR.cnt
  have lm : (-1 : Int32).toInt = -1 := rfl
  have l0 : (0 : Int32).toInt = 0 := rfl
  have l1 : (1 : Int32).toInt = 1 := rfl
  have l2 : (2 : Int32).toInt = 2 := rfl
  have lk : (1000 : Int32).toInt = 1000 := rfl
  have kk0 : xi (E1 1) 0 = xi (E 1) 0 := congrArg vi ((madeX_o hw1).2 0 (by first | rfl | (simp [wl]; done) | (simp [wl]; omega)))
  have kk1 : xi (E1 1) 1 = xi (E 1) 1 := congrArg vi ((madeX_o hw1).2 1 (by first | rfl | (simp [wl]; done) | (simp [wl]; omega)))
  have kk2 : xi (E1 1) 2 = xi (E 1) 2 := congrArg vi ((madeX_o hw1).2 2 (by first | rfl | (simp [wl]; done) | (simp [wl]; omega)))
  have hn0 : (xi (E 1) 0).toInt ≤ (xi (E1 1) 0).toInt := by rw [kk0]; exact Int.le_refl _
  have hb0 : (xi (E 1) 1).toInt ≤ (xi (E1 1) 1).toInt := by rw [kk1]; exact Int.le_refl _
  have hp : PK X0 cf E E1 := fun t i j ht _ _ hi => madeX_p hw1 (by decide) (fun o j ho => by first | exact wl_p rfl rfl (by omega) | (simp [wl]; done) | (simp [wl]; omega)) t i j ht hi
  have hst : ENst (cf 2) E E1 := ENst.of (fun i j hi => hp 7 i j (by decide) (by decide) rfl hi)
  have hsx := kpSx [46] hw2.2.1 rfl
  have hrx := kpRx [13, 14, 15, 16, 17, 18, 19, 20, 21, 22] hw2.2.1 rfl
  have hcJ : ∀ j, j < 6 → j ≠ 2 → cf1 j = cf j := madeX_c hw1
  have hd : r1.toInt = r2.toInt ∧ REL cf1 E1 EM1 := by
    obtain ⟨-, -, ⟨m1, m2⟩, ⟨m3, m4⟩, ⟨m5, m6⟩, m7, m8⟩ := id hw2
    have hN : (xi (EM 0) 46).toNatClampNeg = cf 2 := by rw [tn_]; omega
    by_cases gm : (0 ≤ (xs (i + 1).toNatClampNeg).toInt ∧ (xs (i + 1).toNatClampNeg).toInt ≤ (xi (EM 0) 1).toInt) ∧ (1 ≤ (xs (i + 2).toNatClampNeg).toInt ∧ (xs (i + 2).toNatClampNeg).toInt ≤ 1000) ∧ (0 ≤ (xs (i + 3).toNatClampNeg).toInt ∧ (xs (i + 3).toNatClampNeg).toInt ≤ 1) ∧ (0 ≤ (xs (i + 4).toNatClampNeg).toInt ∧ (xs (i + 4).toNatClampNeg).toInt ≤ 7) ∧ (0 ≤ (xs (i + 5).toNatClampNeg).toInt ∧ (xs (i + 5).toNatClampNeg).toInt ≤ 99) ∧ (0 ≤ (xs (i + 6).toNatClampNeg).toInt ∧ (xs (i + 6).toNatClampNeg).toInt ≤ 99) ∧ (xi (EM 0) 46).toInt < 20
    · have h2 := m1 gm
      obtain ⟨b13, b14, b15, b16, b17, b18, b19, b20⟩ := m3 gm
      rcases hw1.2.2 with ⟨c1, -, -, n1, n2⟩ | ⟨g, -, -, y1, y2, y3⟩
      · exfalso; omega
      · have g1 : cf1 2 = cf 2 + 1 := g.1
        rw [hN] at b13 b14 b15 b16 b17 b18 b19 b20
        obtain ⟨⟨f0, f1, f2, f3, f4, f5, f6⟩, z7, z8, z9, z10, z11⟩ := y3
        refine ⟨by omega, ?_⟩
        exact ⟨(kk0.trans hR.now).trans ((hsx 1 (by decide) rfl)).symm,
          (kk1.trans hR.boats).trans ((hsx 8 (by decide) rfl)).symm,
          (kk2.trans hR.red).trans ((hsx 48 (by decide) rfl)).symm,
          ⟨(by have c9 : cf1 0 = cf 0 := hcJ 0 (by decide) (by decide); have d9 := congrArg Int32.toInt (hsx 9 (by decide) rfl); omega), (by omega), (by have c9 : cf1 3 = cf 3 := hcJ 3 (by decide) (by decide); have d9 := congrArg Int32.toInt (hsx 47 (by decide) rfl); omega), (by have c9 : cf1 4 = cf 4 := hcJ 4 (by decide) (by decide); have d9 := congrArg Int32.toInt (hsx 74 (by decide) rfl); omega), (by have c9 : cf1 5 = cf 5 := hcJ 5 (by decide) (by decide); have d9 := congrArg Int32.toInt (hsx 75 (by decide) rfl); omega)⟩,
          EN.push hR.en g1 (fun i j hi => hp 7 i j (by decide) (by decide) rfl hi) (fun j hj => m5 j (Or.inl (by omega))) (fun b hb => ⟨z7 b hb, m6 (by omega) _ (by omega) (by omega)⟩),
          (TBj.km (TBj.kc (E' := E1) hR.tb0 (hcJ 0 (by decide) (by decide)) (hp.tb (J := 0) rfl)) (fun q hq j => (show ∀ r ∈ [1, 2, 3, 4, 5, 6], ∀ j, xi (EM1 r) j = xi (EM r) j from fun r hr9 => by simp only [List.mem_cons, List.not_mem_nil, or_false] at hr9; rcases hr9 with rfl | rfl | rfl | rfl | rfl | rfl; exact (hrx 1 (by decide) rfl); exact (hrx 2 (by decide) rfl); exact (hrx 3 (by decide) rfl); exact (hrx 4 (by decide) rfl); exact (hrx 5 (by decide) rfl); exact (hrx 6 (by decide) rfl)) _ (tbm0 q hq) j)),
          (by rw [g1]; exact TBj.push hR.tb2 (hp.tb (J := 2) rfl) (fun q hq i hi => by simp only [tb2, List.mem_cons, List.not_mem_nil, or_false] at hq; rcases hq with rfl | rfl | rfl | rfl | rfl | rfl | rfl; exact ((congrFun b20 i).trans (upd_n (by omega))); exact ((congrFun b13 i).trans (upd_n (by omega))); exact ((congrFun b14 i).trans (upd_n (by omega))); exact ((congrFun b15 i).trans (upd_n (by omega))); exact ((congrFun b16 i).trans (upd_n (by omega))); exact ((congrFun b17 i).trans (upd_n (by omega))); exact ((congrFun b18 i).trans (upd_n (by omega)))) (fun q hq => by simp only [tb2, List.mem_cons, List.not_mem_nil, or_false] at hq; rcases hq with rfl | rfl | rfl | rfl | rfl | rfl | rfl; exact (f0.trans (hR.now.trans ((congrFun b20 _).trans pk_us).symm)); exact (f1.trans (((congrFun b13 _).trans pk_us).symm)); exact (f2.trans (((congrFun b14 _).trans pk_us).symm)); exact (f3.trans (((congrFun b15 _).trans pk_us).symm)); exact (f4.trans (((congrFun b16 _).trans pk_us).symm)); exact (f5.trans (((congrFun b17 _).trans pk_us).symm)); exact (f6.trans (((congrFun b18 _).trans pk_us).symm)))),
          (TBj.km (TBj.kc (E' := E1) hR.tb3 (hcJ 3 (by decide) (by decide)) (hp.tb (J := 3) rfl)) (fun q hq j => (show ∀ r ∈ [24, 25, 26, 27, 28], ∀ j, xi (EM1 r) j = xi (EM r) j from fun r hr9 => by simp only [List.mem_cons, List.not_mem_nil, or_false] at hr9; rcases hr9 with rfl | rfl | rfl | rfl | rfl; exact (hrx 24 (by decide) rfl); exact (hrx 25 (by decide) rfl); exact (hrx 26 (by decide) rfl); exact (hrx 27 (by decide) rfl); exact (hrx 28 (by decide) rfl)) _ (tbm3 q hq) j)),
          (TBj.km (TBj.kc (E' := E1) hR.tb4 (hcJ 4 (by decide) (by decide)) (hp.tb (J := 4) rfl)) (fun q hq j => (show ∀ r ∈ [38, 39, 45, 40, 41, 42, 43, 44], ∀ j, xi (EM1 r) j = xi (EM r) j from fun r hr9 => by simp only [List.mem_cons, List.not_mem_nil, or_false] at hr9; rcases hr9 with rfl | rfl | rfl | rfl | rfl | rfl | rfl | rfl; exact (hrx 38 (by decide) rfl); exact (hrx 39 (by decide) rfl); exact (hrx 45 (by decide) rfl); exact (hrx 40 (by decide) rfl); exact (hrx 41 (by decide) rfl); exact (hrx 42 (by decide) rfl); exact (hrx 43 (by decide) rfl); exact (hrx 44 (by decide) rfl)) _ (tbm4 q hq) j)),
          (TBj.km (TBj.kc (E' := E1) hR.tb5 (hcJ 5 (by decide) (by decide)) (hp.tb (J := 5) rfl)) (fun q hq j => (show ∀ r ∈ [46, 47, 48, 49, 50], ∀ j, xi (EM1 r) j = xi (EM r) j from fun r hr9 => by simp only [List.mem_cons, List.not_mem_nil, or_false] at hr9; rcases hr9 with rfl | rfl | rfl | rfl | rfl; exact (hrx 46 (by decide) rfl); exact (hrx 47 (by decide) rfl); exact (hrx 48 (by decide) rfl); exact (hrx 49 (by decide) rfl); exact (hrx 50 (by decide) rfl)) _ (tbm5 q hq) j)),
          EB.push hR.eb g1 hn0 hb0 (fun i hi => hp 6 i 0 (by decide) (by decide) rfl hi) (fun i j hi => hp 7 i j (by decide) (by decide) rfl hi) z7,
          RD.km (RD.push (E' := E1) hR.rd hR.rro g1 hn0 (fun i j hi => hp 8 i j (by decide) (by decide) rfl hi) z8) (hsx 48 (by decide) rfl) (hrx 29 (by decide) rfl) (hrx 30 (by decide) rfl) (hrx 31 (by decide) rfl),
          ST.push hR.st g1 hb0 (fun i j hi => hp 9 i j (by decide) (by decide) rfl hi) (fun i j hi => hp 10 i j (by decide) (by decide) rfl hi) (fun j hj => m7 j (Or.inl (by omega))) (hrx 23 (by decide) rfl) (fun b hb => ⟨z9 b hb, m8 (by omega) _ (by omega) (by omega)⟩),
          SW.push hR.sw g1 hn0 (fun i hi => hp 6 i 0 (by decide) (by decide) rfl hi) (fun i j hi => hp 11 i j (by decide) (by decide) rfl hi) (fun j hj => (congrFun b19 j).trans (upd_n (by omega))) ((congrFun b19 _).trans pk_us) z11,
          DC.km (DC.kc (E' := E1) hR.dc (hcJ 5 (by decide) (by decide)) hn0 (fun i j hi => hp 14 i j (by decide) (by decide) rfl hi)) (hrx 52 (by decide) rfl) (hrx 53 (by decide) rfl) (hrx 54 (by decide) rfl) (hrx 55 (by decide) rfl),
          (hR.tn0.kc (hcJ 0 (by decide) (by decide)) hn0 (hp.tn (J := 0) rfl)),
          (by rw [g1]; exact TNj.push hR.tn2 hn0 (hp.tn (J := 2) rfl) (fun q hq => by simp only [List.mem_cons, List.not_mem_nil, or_false] at hq; rcases hq with rfl | rfl; exact ((by show (xi (E1 (64 * (cf 2 + 1) + 6)) 0).toInt ≤ _; rw [f0, kk0]; exact Int.le_refl _)); exact ((by show (xi (E1 (64 * (cf 2 + 1) + 6)) 1).toInt ≤ _; rw [f1, kk0]; omega)))),
          (hR.tn3.kc (hcJ 3 (by decide) (by decide)) hn0 (hp.tn (J := 3) rfl)),
          (hR.tn4.kc (hcJ 4 (by decide) (by decide)) hn0 (hp.tn (J := 4) rfl)),
          (hR.tn5.kc (hcJ 5 (by decide) (by decide)) hn0 (hp.tn (J := 5) rfl)),
          RMo.push hR.rmo hR.tn2 g1 (fun i hi => hp 6 i 0 (by decide) (by decide) rfl hi) (congrArg Int32.toInt f0),
          (hR.er3.kc (hcJ 3 (by decide) (by decide)) (by omega) hst (hp.er (J := 3) rfl)),
          (hR.er4.kc (hcJ 4 (by decide) (by decide)) (by omega) hst (hp.er (J := 4) rfl)),
          (hR.er5.kc (hcJ 5 (by decide) (by decide)) (by omega) hst (hp.er (J := 5) rfl)),
          (hR.pne.kc (hcJ 5 (by decide) (by decide)) (fun i hi => hp 14 i 1 (by decide) (by decide) rfl hi) (fun i hi => hp 14 i 2 (by decide) (by decide) rfl hi)),
          DZ.km (DZ.kc (cf' := _) hR.dz (Nat.le_of_eq ((hcJ 5 (by decide) (by decide))).symm)) (hrx 54 (by decide) rfl) (hrx 55 (by decide) rfl),
          RRo.km (RRo.kc (cf' := cf1) hR.rro (by omega)) (hsx 48 (by decide) rfl) (hrx 29 (by decide) rfl)⟩
    · have h2 := m2 gm
      obtain ⟨b13, b14, b15, b16, b17, b18, b19, b20⟩ := m4 gm
      rcases hw1.2.2 with ⟨c1, -, -, n1, n2⟩ | ⟨g, -, -, y1, y2, y3⟩
      · have n3 := congrArg Int32.toInt n1
        refine ⟨by omega, ?_⟩
        have c3 : cf1 = cf := c1
        subst c3
        have hs46 : xi (EM1 0) 46 = xi (EM 0) 46 := Int32.toInt_inj.mp h2.2
        have hsa : ∀ j ∈ relS, xi (EM1 0) j = xi (EM 0) j := kpSy [46] (kpSx [46] hw2.2.1 rfl) (fun j hq => by simp only [List.mem_cons, List.not_mem_nil, or_false] at hq; rcases hq with rfl; exact (Int32.toInt_inj.mp h2.2))
        have hra : ∀ r ∈ relR, ([21, 22] : List Nat).contains r = false → ∀ j, xi (EM1 r) j = xi (EM r) j := fun r hr h9 j => by
          by_cases h8 : r ∈ ([13, 14, 15, 16, 17, 18, 19, 20] : List Nat)
          · simp only [List.mem_cons, List.not_mem_nil, or_false] at h8; rcases h8 with rfl | rfl | rfl | rfl | rfl | rfl | rfl | rfl; exact (congrFun b13 j); exact (congrFun b14 j); exact (congrFun b15 j); exact (congrFun b16 j); exact (congrFun b17 j); exact (congrFun b18 j); exact (congrFun b19 j); exact (congrFun b20 j)
          · exact hrx r hr (by simp at h8 h9 ⊢; omega) j
        exact ⟨(kk0.trans hR.now).trans ((hsa 1 (by decide))).symm,
          (kk1.trans hR.boats).trans ((hsa 8 (by decide))).symm,
          (kk2.trans hR.red).trans ((hsa 48 (by decide))).symm,
          CNT.mv (hR.cnt.k rfl rfl rfl rfl rfl) (fun j hj => by simp only [List.mem_cons, List.not_mem_nil, or_false] at hj; rcases hj with rfl | rfl | rfl | rfl | rfl; exact (hsa 9 (by decide)); exact (hsa 46 (by decide)); exact (hsa 47 (by decide)); exact (hsa 74 (by decide)); exact (hsa 75 (by decide))),
          EN.ml (EN.k (E' := E1) hR.en rfl (fun i j hi => hp 7 i j (by decide) (by decide) rfl hi)) (fun j hj => m5 j (Or.inl (by omega))),
          (TBj.km (TBj.kc (E' := E1) hR.tb0 rfl (hp.tb (J := 0) rfl)) (fun q hq j => (show ∀ r ∈ [1, 2, 3, 4, 5, 6], ∀ j, xi (EM1 r) j = xi (EM r) j from fun r hr9 => by simp only [List.mem_cons, List.not_mem_nil, or_false] at hr9; rcases hr9 with rfl | rfl | rfl | rfl | rfl | rfl; exact (hra 1 (by decide) rfl); exact (hra 2 (by decide) rfl); exact (hra 3 (by decide) rfl); exact (hra 4 (by decide) rfl); exact (hra 5 (by decide) rfl); exact (hra 6 (by decide) rfl)) _ (tbm0 q hq) j)),
          (TBj.km (TBj.kc (E' := E1) hR.tb2 rfl (hp.tb (J := 2) rfl)) (fun q hq j => (show ∀ r ∈ [20, 13, 14, 15, 16, 17, 18], ∀ j, xi (EM1 r) j = xi (EM r) j from fun r hr9 => by simp only [List.mem_cons, List.not_mem_nil, or_false] at hr9; rcases hr9 with rfl | rfl | rfl | rfl | rfl | rfl | rfl; exact (hra 20 (by decide) rfl); exact (hra 13 (by decide) rfl); exact (hra 14 (by decide) rfl); exact (hra 15 (by decide) rfl); exact (hra 16 (by decide) rfl); exact (hra 17 (by decide) rfl); exact (hra 18 (by decide) rfl)) _ (tbm2 q hq) j)),
          (TBj.km (TBj.kc (E' := E1) hR.tb3 rfl (hp.tb (J := 3) rfl)) (fun q hq j => (show ∀ r ∈ [24, 25, 26, 27, 28], ∀ j, xi (EM1 r) j = xi (EM r) j from fun r hr9 => by simp only [List.mem_cons, List.not_mem_nil, or_false] at hr9; rcases hr9 with rfl | rfl | rfl | rfl | rfl; exact (hra 24 (by decide) rfl); exact (hra 25 (by decide) rfl); exact (hra 26 (by decide) rfl); exact (hra 27 (by decide) rfl); exact (hra 28 (by decide) rfl)) _ (tbm3 q hq) j)),
          (TBj.km (TBj.kc (E' := E1) hR.tb4 rfl (hp.tb (J := 4) rfl)) (fun q hq j => (show ∀ r ∈ [38, 39, 45, 40, 41, 42, 43, 44], ∀ j, xi (EM1 r) j = xi (EM r) j from fun r hr9 => by simp only [List.mem_cons, List.not_mem_nil, or_false] at hr9; rcases hr9 with rfl | rfl | rfl | rfl | rfl | rfl | rfl | rfl; exact (hra 38 (by decide) rfl); exact (hra 39 (by decide) rfl); exact (hra 45 (by decide) rfl); exact (hra 40 (by decide) rfl); exact (hra 41 (by decide) rfl); exact (hra 42 (by decide) rfl); exact (hra 43 (by decide) rfl); exact (hra 44 (by decide) rfl)) _ (tbm4 q hq) j)),
          (TBj.km (TBj.kc (E' := E1) hR.tb5 rfl (hp.tb (J := 5) rfl)) (fun q hq j => (show ∀ r ∈ [46, 47, 48, 49, 50], ∀ j, xi (EM1 r) j = xi (EM r) j from fun r hr9 => by simp only [List.mem_cons, List.not_mem_nil, or_false] at hr9; rcases hr9 with rfl | rfl | rfl | rfl | rfl; exact (hra 46 (by decide) rfl); exact (hra 47 (by decide) rfl); exact (hra 48 (by decide) rfl); exact (hra 49 (by decide) rfl); exact (hra 50 (by decide) rfl)) _ (tbm5 q hq) j)),
          (hR.eb.kc rfl hn0 hb0 (fun i hi => hp 6 i 0 (by decide) (by decide) rfl hi) (fun i j hi => hp 7 i j (by decide) (by decide) rfl hi)),
          RD.km (RD.kc (E' := E1) hR.rd rfl hn0 (fun i j hi => hp 8 i j (by decide) (by decide) rfl hi)) (hsa 48 (by decide)) (hra 29 (by decide) rfl) (hra 30 (by decide) rfl) (hra 31 (by decide) rfl),
          ST.ml (ST.kc (E' := E1) hR.st rfl hb0 (fun i j hi => hp 9 i j (by decide) (by decide) rfl hi) (fun i j hi => hp 10 i j (by decide) (by decide) rfl hi)) (fun j hj => m7 j (Or.inl (by omega))) (hra 23 (by decide) rfl),
          SW.km (SW.kc (E' := E1) hR.sw rfl hn0 (fun i hi => hp 6 i 0 (by decide) (by decide) rfl hi) (fun i j hi => hp 11 i j (by decide) (by decide) rfl hi)) (hra 19 (by decide) rfl),
          DC.km (DC.kc (E' := E1) hR.dc rfl hn0 (fun i j hi => hp 14 i j (by decide) (by decide) rfl hi)) (hra 52 (by decide) rfl) (hra 53 (by decide) rfl) (hra 54 (by decide) rfl) (hra 55 (by decide) rfl),
          (hR.tn0.kc rfl hn0 (hp.tn (J := 0) rfl)),
          (hR.tn2.kc rfl hn0 (hp.tn (J := 2) rfl)),
          (hR.tn3.kc rfl hn0 (hp.tn (J := 3) rfl)),
          (hR.tn4.kc rfl hn0 (hp.tn (J := 4) rfl)),
          (hR.tn5.kc rfl hn0 (hp.tn (J := 5) rfl)),
          (hR.rmo.kc rfl (fun i hi => hp 6 i 0 (by decide) (by decide) rfl hi)),
          (hR.er3.kc rfl (Nat.le_of_eq (rfl).symm) hst (hp.er (J := 3) rfl)),
          (hR.er4.kc rfl (Nat.le_of_eq (rfl).symm) hst (hp.er (J := 4) rfl)),
          (hR.er5.kc rfl (Nat.le_of_eq (rfl).symm) hst (hp.er (J := 5) rfl)),
          (hR.pne.kc rfl (fun i hi => hp 14 i 1 (by decide) (by decide) rfl hi) (fun i hi => hp 14 i 2 (by decide) (by decide) rfl hi)),
          DZ.km (DZ.kc (cf' := _) hR.dz (Nat.le_of_eq (rfl).symm)) (hra 54 (by decide) rfl) (hra 55 (by decide) rfl),
          RRo.km (RRo.kc (cf' := _) hR.rro (Nat.le_of_eq (rfl).symm)) (hsa 48 (by decide)) (hra 29 (by decide) rfl)⟩
      · exfalso; omega
  have hR := hd.2
  refine lv_pop hx hb dL_law_673 rfl ?_
  refine lv_goto (tgt := 1859) hx hb dL_law_674 (by decide) ?_
  exact W.widen (k := cn + 7) (n := sn + 3300) (by omega) (by omega) (tail _ _ _ _ _ _ _ _ V ⟨⟨⟨⟨⟨hR, hT⟩, hU⟩, hG⟩, hB⟩, hRS⟩ hl)
set_option maxHeartbeats 4000000 in
set_option maxRecDepth 100000 in
theorem law_case_11 {p : Program} {e : Env} {s : State} {m : MethodId} {below : List Frame} {meth : Method} {c : Code} (l : Launch) {b L : Nat} {xs : Nat → Int32} (hL : L ≤ 4096) (C0 : lw_At p s m meth c b L xs) {A : Nat → Prop} {ed : Nat} {dC : Nat → ClassId} {dI : Nat → Nat → Nat} {cT : Nat → ClassId} {cL : ClassId} (F : FX l s A ed dC dI cT cL) {x ou : Nat} {am cf ad : Nat → Nat} {E EM : Nat → va_E} {f : Nat → Int64} {H : Heap} {locs : List Loc} (V : INV s A ed dC dI cT cL x ou am cf ad E EM f H locs) (hR : REL15 cf E EM) {i : Int32} (hi0 : 0 ≤ i.toInt) (hi8 : i.toInt + 8 ≤ (L : Int)) {cn sn : Nat} (hcn : cn + 7 ≤ 601024) (hsn : sn + 3300 ≤ 7293034) (ls : Array Slot) (hl : lv_has ls 7 [(0, .ref b), (1, .ref x), (2, .ref (am 0)), (3, .ref ou), (4, .int i)]) (tail : (∀ (cf ad : Nat → Nat) (E EM : Nat → va_E) (f : Nat → Int64) (H : Heap) (locs : List Loc) (ls : Array Slot), INV s A ed dC dI cT cL x ou am cf ad E EM f H locs → REL15 cf E EM → lv_has ls 7 [(0, .ref b), (1, .ref x), (2, .ref (am 0)), (3, .ref ou), (4, .int i)] → W p l e room_1 s m #[Value.ref b] below meth c H locs (cn + 7) (sn + 3300) (lw_Z below #[Value.ref b] s) (F0 m 1859 ls []))) : W p l e room_1 s m #[Value.ref b] below meth c H locs cn sn (lw_Z below #[Value.ref b] s) (F0 m 677 ls []) := by
  obtain ⟨hx, hb, hr, hml, hown, hts0, hX, hbl, hlocks, hgv⟩ := id C0
  have hts := fun w (h : w ∈ v_law) => hts0 w (v_law_in w h)
  have hbA : ¬ A b := F.hnA b hbl
  obtain rfl := V.hx
  obtain ⟨⟨⟨⟨⟨hR, hT⟩, hU⟩, hG⟩, hB⟩, hRS⟩ := hR
  refine lv_aload_n hx hb dL_law_677 rfl (lv_at hl 1 rfl) ?_
  refine lv_aload_n hx hb dL_law_678 rfl (lv_at hl 0 rfl) ?_
  refine lv_iload hx hb dL_law_679 (lv_at hl 4 rfl) ?_
  refine lv_iconst (v := 1) hx hb dL_law_681 (by decide) ?_
  refine lv_iadd hx hb dL_law_682 ?_
  refine va_sld hx hb hX hbl hbA V.hS (law_in (k := 1) hi0 hi8 hL (by decide) rfl) dL_law_683 ?_
  refine lv_aload_n hx hb dL_law_684 rfl (lv_at hl 0 rfl) ?_
  refine lv_iload hx hb dL_law_685 (lv_at hl 4 rfl) ?_
  refine lv_iconst (v := 2) hx hb dL_law_687 (by decide) ?_
  refine lv_iadd hx hb dL_law_688 ?_
  refine va_sld hx hb hX hbl hbA V.hS (law_in (k := 2) hi0 hi8 hL (by decide) rfl) dL_law_689 ?_
  have hI0 := V.hI
  have hC0 := V.hC
  have hM0 := V.hM
  have bn : (0 : Int) ≤ (xi (E 1) 0).toInt ∧ (xi (E 1) 0).toInt ≤ 400 := hI0.iv 1 (mF 1 rfl) rfl (Nat.le_of_ble_eq_true rfl) rfl
  have bb : (0 : Int) ≤ (xi (E 1) 1).toInt ∧ (xi (E 1) 1).toInt ≤ 16 := hI0.iv 1 (mF 1 rfl) rfl (Nat.le_of_ble_eq_true rfl) rfl
  obtain ⟨⟨k0, k1, k2, k3, k4, k5⟩, -⟩ := id hC0
  refine lC F V (fun r u h => h.1) (va_runV (As := [.int (xs (i + 1).toNatClampNeg), .int (xs (i + 2).toNatClampNeg)]) (rest := []) ⟨hx, hb, hml, hown, hts⟩ (q_u_swiftR l dC dI cT cf V.hC ad E H.size (xs (i + 1).toNatClampNeg) (xs (i + 2).toNatClampNeg) V.hI) (cwV 2 hts (gl_V (al_1 _ (zs16 (zs4 (zs4 (zs1 (zs1 (zs0))))))) (al_1 _ (zs16 (zs4 (zs4 (zs1 (zs1 (zs1 (zs0)))))))) (al_1 _ (zs16 (zs4 (zs4 (zs4 (zs0)))))) (vl_A _ (in_4 _ (zs16 (zs4 (zs1 (zs1 (zs1 (zs0)))))))) (vl_A _ (in_23 _ (zs16 (zs4 (zs0)))))) rfl rfl rfl ⟨rfl, hz_yX12_swift_2⟩ ⟨Nat.le_of_ble_eq_true rfl, Nat.le_of_ble_eq_true rfl⟩) ⟨HWL_bl, va_recv F.kc V.cp (ci := 13) (q0 := posL 0 (LC cf)) rfl (V.hI.ob 0 (mF 0 rfl) rfl), HWL_wi V.cp F.kc V.dc V.hS F.hA (V.ec F)⟩ rfl rfl hl.1 rfl (lv_room (Nat.le_of_ble_eq_true rfl)) dL_law_690 ⟨by show cn + 0 ≤ 601024; omega, by show sn + 0 ≤ 7293034; omega⟩) (fun r1 E1 H locs hw1 V => ?_)
  refine lv_pop hx hb dL_law_693 rfl ?_
  refine lv_aload_n hx hb dL_law_694 rfl (lv_at hl 2 rfl) ?_
  refine lv_aload_n hx hb dL_law_695 rfl (lv_at hl 0 rfl) ?_
  refine lv_iload hx hb dL_law_696 (lv_at hl 4 rfl) ?_
  refine lv_iconst (v := 1) hx hb dL_law_698 (by decide) ?_
  refine lv_iadd hx hb dL_law_699 ?_
  refine va_sld hx hb hX hbl hbA V.hS (law_in (k := 1) hi0 hi8 hL (by decide) rfl) dL_law_700 ?_
  refine lv_aload_n hx hb dL_law_701 rfl (lv_at hl 0 rfl) ?_
  refine lv_iload hx hb dL_law_702 (lv_at hl 4 rfl) ?_
  refine lv_iconst (v := 2) hx hb dL_law_704 (by decide) ?_
  refine lv_iadd hx hb dL_law_705 ?_
  refine va_sld hx hb hX hbl hbA V.hS (law_in (k := 2) hi0 hi8 hL (by decide) rfl) dL_law_706 ?_
  refine lM F V (fun r u h => ⟨h.1, DIr_kp h.2.1 (fun _ => rfl) (fun _ => rfl) V.hDI⟩) (va_runV (As := [.int (xs (i + 1).toNatClampNeg), .int (xs (i + 2).toNatClampNeg)]) (rest := []) ⟨hx, hb, hml, hown, hts⟩ (q_swiftR l dC dI cT am EM H.size (xs (i + 1).toNatClampNeg) (xs (i + 2).toNatClampNeg) V.hM) (cwV 2 hts (gl_V (al_1 _ (zs16 (zs4 (zs4 (zs4 (zs1 (zs0))))))) (al_1 _ (zs16 (zs4 (zs4 (zs4 (zs1 (zs1 (zs0)))))))) (al_1 _ (zs16 (zs4 (zs4 (zs4 (zs1 (zs1 (zs1 (zs0))))))))) (vl_A _ (in_24 _ (zs4 (zs4 (zs4 (zs1 (zs1 (zs1 (zs0))))))))) (vl_A _ (in_33 _ (zs16 (zs16 (zs1 (zs1 (zs0)))))))) rfl rfl rfl ⟨rfl, hz_yX13_swift_2⟩ ⟨Nat.le_of_ble_eq_true rfl, Nat.le_of_ble_eq_true rfl⟩) ⟨HW_bl, va_recv F.km V.pm (ci := 14) (q0 := 0) rfl (V.hM.ob 0 (Nat.le_of_ble_eq_true rfl) rfl), HW_wi V.pm F.km V.dm V.hS F.hA F.hEV⟩ rfl rfl hl.1 rfl (lv_room (Nat.le_of_ble_eq_true rfl)) dL_law_707 ⟨by show cn + 0 ≤ 601024; omega, by show sn + 0 ≤ 7293034; omega⟩) (fun r2 EM1 H locs hw2 V => ?_)
  have hRS := hRS.keep (cf' := cf) (E' := E1) rfl (fun i9 _ => xik hw1.2.1 (o := 64 * (i9 + 1) + 12) (j := 2) (by first | exact wl_p rfl rfl (by omega) | (simp [wl]; done) | (simp [wl]; omega))) (fun i9 _ => xik hw1.2.1 (o := 64 * (i9 + 1) + 12) (j := 3) (by first | exact wl_p rfl rfl (by omega) | (simp [wl]; done) | (simp [wl]; omega)))
  have hb9 : (xi (E 1) 1).toInt ≤ (xi (E1 1) 1).toInt := by rw [show xi (E1 1) 1 = xi (E 1) 1 from xik hw1.2.1 (o := 1) (j := 1) (by first | rfl | (simp [wl]; done) | (simp [wl]; omega))]; exact Int.le_refl _
  have hB := hB.keep (cf' := cf) (E' := E1) rfl hb9 (fun i9 _ => xik hw1.2.1 (o := 64 * (i9 + 1) + 0) (j := 0) (by first | exact wl_p rfl rfl (by omega) | (simp [wl]; done) | (simp [wl]; omega)))
  have hT := hT.keep (cf' := cf) (E' := E1) rfl (xik hw1.2.1 (o := 2) (j := 1) (by first | rfl | (simp [wl]; done) | (simp [wl]; omega))) (fun j9 => xik hw1.2.1 (o := 21) (j := j9) (by first | rfl | (simp [wl]; done) | (simp [wl]; omega))) (fun i9 j9 _ => xik hw1.2.1 (o := 64 * (i9 + 1) + 1) (j := j9) (by first | exact wl_p rfl rfl (by omega) | (simp [wl]; done) | (simp [wl]; omega))) (xik hw2.2.1 (o := 0) (j := 16) rfl) (xik hw2.2.1 (o := 0) (j := 17) rfl) (fun j9 => xik hw2.2.1 (o := 7) (j := j9) rfl) (fun j9 => xik hw2.2.1 (o := 10) (j := j9) rfl) (fun j9 => xik hw2.2.1 (o := 11) (j := j9) rfl)
  have hU := hU.keep (cf' := cf) (E' := E1) rfl (fun _ _ => ⟨rfl, rfl⟩) (fun i9 _ t9 _ _ j9 => xik hw1.2.1 (o := 64 * (i9 + 1) + t9) (j := j9) (by first | exact wl_p rfl rfl (by omega) | (simp [wl]; done) | (simp [wl]; omega))) (fun j9 => xik hw2.2.1 (o := 8) (j := j9) rfl) (fun j9 => xik hw2.2.1 (o := 9) (j := j9) rfl)
  have hG := hG.keep (cf' := cf) (E' := E1) rfl (fun i9 j9 _ => xik hw1.2.1 (o := 64 * (i9 + 1) + 14) (j := j9) (by first | exact wl_p rfl rfl (by omega) | (simp [wl]; done) | (simp [wl]; omega))) (fun j9 => xik hw2.2.1 (o := 51) (j := j9) rfl)
  have e0 : (xi (E 1) 0).toInt = (xi (EM 0) 1).toInt := congrArg Int32.toInt hR.now
  have e1 : (xi (E 1) 1).toInt = (xi (EM 0) 8).toInt := congrArg Int32.toInt hR.boats
  have e2 : (xi (E 1) 2).toInt = (xi (EM 0) 48).toInt := congrArg Int32.toInt hR.red
  obtain ⟨q0, q2, q3, q4, q5⟩ := hR.cnt
  have lm : (-1 : Int32).toInt = -1 := rfl
  have l0 : (0 : Int32).toInt = 0 := rfl
  have l1 : (1 : Int32).toInt = 1 := rfl
  have l2 : (2 : Int32).toInt = 2 := rfl
  have lk : (1000 : Int32).toInt = 1000 := rfl
  have hp : PK (fun t _ => Nat.beq t 11) cf E E1 := fun t i j ht _ hx _ => xik hw1.2.1 (by
    have hx : (Nat.beq t 11) = false := hx
    have h11 : t ≠ 11 := fun h9 => by subst h9; exact absurd hx (by decide)
    clear hx
    simp [wl]; omega)
  have hk11 : ∀ i9 j9, i9 ≠ (xs (i + 1).toNatClampNeg).toNatClampNeg → xi (E1 (64 * (i9 + 1) + 11)) j9 = xi (E (64 * (i9 + 1) + 11)) j9 := fun i9 j9 hi => xik hw1.2.1 (by simp [wl]; omega)
  have kk0 : xi (E1 1) 0 = xi (E 1) 0 := xik hw1.2.1 (o := 1) (j := 0) (by first | rfl | (simp [wl]; done) | (simp [wl]; omega))
  have kk1 : xi (E1 1) 1 = xi (E 1) 1 := xik hw1.2.1 (o := 1) (j := 1) (by first | rfl | (simp [wl]; done) | (simp [wl]; omega))
  have kk2 : xi (E1 1) 2 = xi (E 1) 2 := xik hw1.2.1 (o := 1) (j := 2) (by first | rfl | (simp [wl]; done) | (simp [wl]; omega))
  have hn0 : (xi (E 1) 0).toInt ≤ (xi (E1 1) 0).toInt := by rw [kk0]; exact Int.le_refl _
  have hb0 : (xi (E 1) 1).toInt ≤ (xi (E1 1) 1).toInt := by rw [kk1]; exact Int.le_refl _
  have hst : ENst (cf 2) E E1 := ENst.of (fun i j hi => hp 7 i j (by decide) (by decide) rfl hi)
  have hsx := kpSx [] hw2.2.1 rfl
  have hrx := kpRx [19] hw2.2.1 rfl
  have hd : r1.toInt = r2.toInt ∧ REL cf E1 EM1 := by
    obtain ⟨-, -, hc1⟩ := id hw1
    obtain ⟨-, -, hc2⟩ := id hw2
    rcases hc1 with ⟨n1, g1, u1⟩ | ⟨n1, g1, u1⟩ <;> rcases hc2 with ⟨n2, g2, u2⟩ | ⟨n2, g2, u2⟩
    · exact ⟨by rw [n1, n2], ⟨(kk0.trans hR.now).trans ((hsx 1 (by decide) rfl)).symm,
      (kk1.trans hR.boats).trans ((hsx 8 (by decide) rfl)).symm,
      (kk2.trans hR.red).trans ((hsx 48 (by decide) rfl)).symm,
      CNT.mv (hR.cnt.k rfl rfl rfl rfl rfl) (fun j hj => by simp only [List.mem_cons, List.not_mem_nil, or_false] at hj; rcases hj with rfl | rfl | rfl | rfl | rfl; exact (hsx 9 (by decide) rfl); exact (hsx 46 (by decide) rfl); exact (hsx 47 (by decide) rfl); exact (hsx 74 (by decide) rfl); exact (hsx 75 (by decide) rfl)),
      EN.m (EM' := EM1) (EN.k (E' := E1) hR.en rfl (fun i j hi => hp 7 i j (by decide) (by decide) rfl hi)) (hrx 21 (by decide) rfl),
      (TBj.km (TBj.kc (E' := E1) hR.tb0 rfl (hp.tb (J := 0) rfl)) (fun q hq j => (show ∀ r ∈ [1, 2, 3, 4, 5, 6], ∀ j, xi (EM1 r) j = xi (EM r) j from fun r hr9 => by simp only [List.mem_cons, List.not_mem_nil, or_false] at hr9; rcases hr9 with rfl | rfl | rfl | rfl | rfl | rfl; exact (hrx 1 (by decide) rfl); exact (hrx 2 (by decide) rfl); exact (hrx 3 (by decide) rfl); exact (hrx 4 (by decide) rfl); exact (hrx 5 (by decide) rfl); exact (hrx 6 (by decide) rfl)) _ (tbm0 q hq) j)),
      (TBj.km (TBj.kc (E' := E1) hR.tb2 rfl (hp.tb (J := 2) rfl)) (fun q hq j => (show ∀ r ∈ [20, 13, 14, 15, 16, 17, 18], ∀ j, xi (EM1 r) j = xi (EM r) j from fun r hr9 => by simp only [List.mem_cons, List.not_mem_nil, or_false] at hr9; rcases hr9 with rfl | rfl | rfl | rfl | rfl | rfl | rfl; exact (hrx 20 (by decide) rfl); exact (hrx 13 (by decide) rfl); exact (hrx 14 (by decide) rfl); exact (hrx 15 (by decide) rfl); exact (hrx 16 (by decide) rfl); exact (hrx 17 (by decide) rfl); exact (hrx 18 (by decide) rfl)) _ (tbm2 q hq) j)),
      (TBj.km (TBj.kc (E' := E1) hR.tb3 rfl (hp.tb (J := 3) rfl)) (fun q hq j => (show ∀ r ∈ [24, 25, 26, 27, 28], ∀ j, xi (EM1 r) j = xi (EM r) j from fun r hr9 => by simp only [List.mem_cons, List.not_mem_nil, or_false] at hr9; rcases hr9 with rfl | rfl | rfl | rfl | rfl; exact (hrx 24 (by decide) rfl); exact (hrx 25 (by decide) rfl); exact (hrx 26 (by decide) rfl); exact (hrx 27 (by decide) rfl); exact (hrx 28 (by decide) rfl)) _ (tbm3 q hq) j)),
      (TBj.km (TBj.kc (E' := E1) hR.tb4 rfl (hp.tb (J := 4) rfl)) (fun q hq j => (show ∀ r ∈ [38, 39, 45, 40, 41, 42, 43, 44], ∀ j, xi (EM1 r) j = xi (EM r) j from fun r hr9 => by simp only [List.mem_cons, List.not_mem_nil, or_false] at hr9; rcases hr9 with rfl | rfl | rfl | rfl | rfl | rfl | rfl | rfl; exact (hrx 38 (by decide) rfl); exact (hrx 39 (by decide) rfl); exact (hrx 45 (by decide) rfl); exact (hrx 40 (by decide) rfl); exact (hrx 41 (by decide) rfl); exact (hrx 42 (by decide) rfl); exact (hrx 43 (by decide) rfl); exact (hrx 44 (by decide) rfl)) _ (tbm4 q hq) j)),
      (TBj.km (TBj.kc (E' := E1) hR.tb5 rfl (hp.tb (J := 5) rfl)) (fun q hq j => (show ∀ r ∈ [46, 47, 48, 49, 50], ∀ j, xi (EM1 r) j = xi (EM r) j from fun r hr9 => by simp only [List.mem_cons, List.not_mem_nil, or_false] at hr9; rcases hr9 with rfl | rfl | rfl | rfl | rfl; exact (hrx 46 (by decide) rfl); exact (hrx 47 (by decide) rfl); exact (hrx 48 (by decide) rfl); exact (hrx 49 (by decide) rfl); exact (hrx 50 (by decide) rfl)) _ (tbm5 q hq) j)),
      (hR.eb.kc rfl hn0 hb0 (fun i hi => hp 6 i 0 (by decide) (by decide) rfl hi) (fun i j hi => hp 7 i j (by decide) (by decide) rfl hi)),
      RD.km (RD.kc (E' := E1) hR.rd rfl hn0 (fun i j hi => hp 8 i j (by decide) (by decide) rfl hi)) (hsx 48 (by decide) rfl) (hrx 29 (by decide) rfl) (hrx 30 (by decide) rfl) (hrx 31 (by decide) rfl),
      ST.km (ST.kc (E' := E1) hR.st rfl hb0 (fun i j hi => hp 9 i j (by decide) (by decide) rfl hi) (fun i j hi => hp 10 i j (by decide) (by decide) rfl hi)) (hrx 22 (by decide) rfl) (hrx 23 (by decide) rfl),
      hR.sw.up (a := (xs (i + 1).toNatClampNeg)) (x := (xs (i + 2).toNatClampNeg)) g1.1.1 bn kk0 (by omega) (fun i hi => hp 6 i 0 (by decide) (by decide) rfl hi) (fun i hi => hR.tn2 (6, 0) (by decide) i hi) hk11 u1 u2,
      DC.km (DC.kc (E' := E1) hR.dc rfl hn0 (fun i j hi => hp 14 i j (by decide) (by decide) rfl hi)) (hrx 52 (by decide) rfl) (hrx 53 (by decide) rfl) (hrx 54 (by decide) rfl) (hrx 55 (by decide) rfl),
      (hR.tn0.kc rfl hn0 (hp.tn (J := 0) rfl)),
      (hR.tn2.kc rfl hn0 (hp.tn (J := 2) rfl)),
      (hR.tn3.kc rfl hn0 (hp.tn (J := 3) rfl)),
      (hR.tn4.kc rfl hn0 (hp.tn (J := 4) rfl)),
      (hR.tn5.kc rfl hn0 (hp.tn (J := 5) rfl)),
      (hR.rmo.kc rfl (fun i hi => hp 6 i 0 (by decide) (by decide) rfl hi)),
      (hR.er3.kc rfl (Nat.le_of_eq (rfl).symm) hst (hp.er (J := 3) rfl)),
      (hR.er4.kc rfl (Nat.le_of_eq (rfl).symm) hst (hp.er (J := 4) rfl)),
      (hR.er5.kc rfl (Nat.le_of_eq (rfl).symm) hst (hp.er (J := 5) rfl)),
      (hR.pne.kc rfl (fun i hi => hp 14 i 1 (by decide) (by decide) rfl hi) (fun i hi => hp 14 i 2 (by decide) (by decide) rfl hi)),
      DZ.km (DZ.kc (cf' := _) hR.dz (Nat.le_of_eq (rfl).symm)) (hrx 54 (by decide) rfl) (hrx 55 (by decide) rfl),
      RRo.km (RRo.kc (cf' := _) hR.rro (Nat.le_of_eq (rfl).symm)) (hsx 48 (by decide) rfl) (hrx 29 (by decide) rfl)⟩⟩
    · exfalso; omega
    · exfalso; omega
    · refine ⟨by rw [n1, n2], ?_⟩
      have hp0 : PK X0 cf E E1 := fun t9 i9 j9 ht hk1 _ hi => by
        by_cases h11 : t9 = 11 ∧ i9 = (xs (i + 1).toNatClampNeg).toNatClampNeg
        · obtain ⟨rfl, rfl⟩ := h11; exact congrFun u1 j9
        exact xik hw1.2.1 (by simp [wl]; omega)
      exact hR.keep (fun _ _ _ => rfl) kk0 kk1 kk2 hp0 (kpS hw2.2.1 rfl) (kpRy [19] (kpRx [19] hw2.2.1 rfl) (fun r hq j => by simp only [List.mem_cons, List.not_mem_nil, or_false] at hq; rcases hq with rfl; exact (congrFun u2 j)))
  have hR := hd.2
  refine lv_pop hx hb dL_law_710 rfl ?_
  refine lv_goto (tgt := 1859) hx hb dL_law_711 (by decide) ?_
  exact W.widen (k := cn + 7) (n := sn + 3300) (by omega) (by omega) (tail _ _ _ _ _ _ _ _ V ⟨⟨⟨⟨⟨hR, hT⟩, hU⟩, hG⟩, hB⟩, hRS⟩ hl)
set_option maxHeartbeats 4000000 in
set_option maxRecDepth 100000 in
theorem law_case_12 {p : Program} {e : Env} {s : State} {m : MethodId} {below : List Frame} {meth : Method} {c : Code} (l : Launch) {b L : Nat} {xs : Nat → Int32} (hL : L ≤ 4096) (C0 : lw_At p s m meth c b L xs) {A : Nat → Prop} {ed : Nat} {dC : Nat → ClassId} {dI : Nat → Nat → Nat} {cT : Nat → ClassId} {cL : ClassId} (F : FX l s A ed dC dI cT cL) {x ou : Nat} {am cf ad : Nat → Nat} {E EM : Nat → va_E} {f : Nat → Int64} {H : Heap} {locs : List Loc} (V : INV s A ed dC dI cT cL x ou am cf ad E EM f H locs) (hR : REL15 cf E EM) {i : Int32} (hi0 : 0 ≤ i.toInt) (hi8 : i.toInt + 8 ≤ (L : Int)) {cn sn : Nat} (hcn : cn + 7 ≤ 601024) (hsn : sn + 3300 ≤ 7293034) (ls : Array Slot) (hl : lv_has ls 7 [(0, .ref b), (1, .ref x), (2, .ref (am 0)), (3, .ref ou), (4, .int i)]) (tail : (∀ (cf ad : Nat → Nat) (E EM : Nat → va_E) (f : Nat → Int64) (H : Heap) (locs : List Loc) (ls : Array Slot), INV s A ed dC dI cT cL x ou am cf ad E EM f H locs → REL15 cf E EM → lv_has ls 7 [(0, .ref b), (1, .ref x), (2, .ref (am 0)), (3, .ref ou), (4, .int i)] → W p l e room_1 s m #[Value.ref b] below meth c H locs (cn + 7) (sn + 3300) (lw_Z below #[Value.ref b] s) (F0 m 1859 ls []))) : W p l e room_1 s m #[Value.ref b] below meth c H locs cn sn (lw_Z below #[Value.ref b] s) (F0 m 714 ls []) := by
  obtain ⟨hx, hb, hr, hml, hown, hts0, hX, hbl, hlocks, hgv⟩ := id C0
  have hts := fun w (h : w ∈ v_law) => hts0 w (v_law_in w h)
  have hbA : ¬ A b := F.hnA b hbl
  obtain rfl := V.hx
  obtain ⟨⟨⟨⟨⟨hR, hT⟩, hU⟩, hG⟩, hB⟩, hRS⟩ := hR
  refine lv_aload_n hx hb dL_law_714 rfl (lv_at hl 1 rfl) ?_
  refine lv_aload_n hx hb dL_law_715 rfl (lv_at hl 0 rfl) ?_
  refine lv_iload hx hb dL_law_716 (lv_at hl 4 rfl) ?_
  refine lv_iconst (v := 1) hx hb dL_law_718 (by decide) ?_
  refine lv_iadd hx hb dL_law_719 ?_
  refine va_sld hx hb hX hbl hbA V.hS (law_in (k := 1) hi0 hi8 hL (by decide) rfl) dL_law_720 ?_
  refine lv_aload_n hx hb dL_law_721 rfl (lv_at hl 0 rfl) ?_
  refine lv_iload hx hb dL_law_722 (lv_at hl 4 rfl) ?_
  refine lv_iconst (v := 2) hx hb dL_law_724 (by decide) ?_
  refine lv_iadd hx hb dL_law_725 ?_
  refine va_sld hx hb hX hbl hbA V.hS (law_in (k := 2) hi0 hi8 hL (by decide) rfl) dL_law_726 ?_
  have hI0 := V.hI
  have hC0 := V.hC
  have hM0 := V.hM
  have bn : (0 : Int) ≤ (xi (E 1) 0).toInt ∧ (xi (E 1) 0).toInt ≤ 400 := hI0.iv 1 (mF 1 rfl) rfl (Nat.le_of_ble_eq_true rfl) rfl
  have bb : (0 : Int) ≤ (xi (E 1) 1).toInt ∧ (xi (E 1) 1).toInt ≤ 16 := hI0.iv 1 (mF 1 rfl) rfl (Nat.le_of_ble_eq_true rfl) rfl
  obtain ⟨⟨k0, k1, k2, k3, k4, k5⟩, -⟩ := id hC0
  refine lC F V (fun r u h => h.1) (va_runV (As := [.int (xs (i + 1).toNatClampNeg), .int (xs (i + 2).toNatClampNeg)]) (rest := []) ⟨hx, hb, hml, hown, hts⟩ (q_u_enterX l dC dI cT cf V.hC ad E H.size (xs (i + 1).toNatClampNeg) (xs (i + 2).toNatClampNeg) V.hI) (cwV 2 hts (gl_V (al_1 _ (zs16 (zs16 (zs0)))) (al_1 _ (zs16 (zs16 (zs1 (zs0))))) (al_1 _ (zs16 (zs16 (zs1 (zs1 (zs0)))))) (vl_A _ (in_4 _ (zs16 (zs4 (zs1 (zs1 (zs1 (zs0)))))))) (vl_A _ (in_17 _ (zs16 (zs16 (zs4 (zs1 (zs0)))))))) rfl rfl rfl ⟨rfl, hz_yX12_enter_2⟩ ⟨Nat.le_of_ble_eq_true rfl, Nat.le_of_ble_eq_true rfl⟩) ⟨HWL_bl, va_recv F.kc V.cp (ci := 13) (q0 := posL 0 (LC cf)) rfl (V.hI.ob 0 (mF 0 rfl) rfl), HWL_wi V.cp F.kc V.dc V.hS F.hA (V.ec F)⟩ rfl rfl hl.1 rfl (lv_room (Nat.le_of_ble_eq_true rfl)) dL_law_727 ⟨by show cn + 0 ≤ 601024; omega, by show sn + 0 ≤ 7293034; omega⟩) (fun r1 E1 H locs hw1 V => ?_)
  refine lv_pop hx hb dL_law_730 rfl ?_
  refine lv_aload_n hx hb dL_law_731 rfl (lv_at hl 2 rfl) ?_
  refine lv_aload_n hx hb dL_law_732 rfl (lv_at hl 0 rfl) ?_
  refine lv_iload hx hb dL_law_733 (lv_at hl 4 rfl) ?_
  refine lv_iconst (v := 1) hx hb dL_law_735 (by decide) ?_
  refine lv_iadd hx hb dL_law_736 ?_
  refine va_sld hx hb hX hbl hbA V.hS (law_in (k := 1) hi0 hi8 hL (by decide) rfl) dL_law_737 ?_
  refine lv_aload_n hx hb dL_law_738 rfl (lv_at hl 0 rfl) ?_
  refine lv_iload hx hb dL_law_739 (lv_at hl 4 rfl) ?_
  refine lv_iconst (v := 2) hx hb dL_law_741 (by decide) ?_
  refine lv_iadd hx hb dL_law_742 ?_
  refine va_sld hx hb hX hbl hbA V.hS (law_in (k := 2) hi0 hi8 hL (by decide) rfl) dL_law_743 ?_
  refine lM F V (fun r u h => ⟨h.1, DIr_kp h.2.1 (fun _ => rfl) (fun _ => rfl) V.hDI⟩) (va_runV (As := [.int (xs (i + 1).toNatClampNeg), .int (xs (i + 2).toNatClampNeg)]) (rest := []) ⟨hx, hb, hml, hown, hts⟩ (q_enterX l dC dI cT am EM H.size (xs (i + 1).toNatClampNeg) (xs (i + 2).toNatClampNeg) V.hM) (cwV 2 hts (gl_V (al_1 _ (zs16 (zs16 (zs1 (zs1 (zs1 (zs0))))))) (al_1 _ (zs16 (zs16 (zs4 (zs0))))) (al_1 _ (zs16 (zs16 (zs4 (zs1 (zs0)))))) (vl_A _ (in_24 _ (zs4 (zs4 (zs4 (zs1 (zs1 (zs1 (zs0))))))))) (vl_A _ (in_31 _ (zs16 (zs4 (zs4 (zs1 (zs1 (zs0))))))))) rfl rfl rfl ⟨rfl, hz_yX13_enter_2⟩ ⟨Nat.le_of_ble_eq_true rfl, Nat.le_of_ble_eq_true rfl⟩) ⟨HW_bl, va_recv F.km V.pm (ci := 14) (q0 := 0) rfl (V.hM.ob 0 (Nat.le_of_ble_eq_true rfl) rfl), HW_wi V.pm F.km V.dm V.hS F.hA F.hEV⟩ rfl rfl hl.1 rfl (lv_room (Nat.le_of_ble_eq_true rfl)) dL_law_744 ⟨by show cn + 0 ≤ 601024; omega, by show sn + 0 ≤ 7293034; omega⟩) (fun r2 EM1 H locs hw2 V => ?_)
  have hRS := hRS.keep (cf' := cf) (E' := E1) rfl (fun i9 _ => xik hw1.2.1 (o := 64 * (i9 + 1) + 12) (j := 2) (by first | exact wl_p rfl rfl (by omega) | (simp [wl]; done) | (simp [wl]; omega))) (fun i9 _ => xik hw1.2.1 (o := 64 * (i9 + 1) + 12) (j := 3) (by first | exact wl_p rfl rfl (by omega) | (simp [wl]; done) | (simp [wl]; omega)))
  have hb9 : (xi (E 1) 1).toInt ≤ (xi (E1 1) 1).toInt := by rw [show xi (E1 1) 1 = xi (E 1) 1 from xik hw1.2.1 (o := 1) (j := 1) (by first | rfl | (simp [wl]; done) | (simp [wl]; omega))]; exact Int.le_refl _
  have hB := hB.keep (cf' := cf) (E' := E1) rfl hb9 (fun i9 _ => xik hw1.2.1 (o := 64 * (i9 + 1) + 0) (j := 0) (by first | exact wl_p rfl rfl (by omega) | (simp [wl]; done) | (simp [wl]; omega)))
  have hT := hT.keep (cf' := cf) (E' := E1) rfl (xik hw1.2.1 (o := 2) (j := 1) (by first | rfl | (simp [wl]; done) | (simp [wl]; omega))) (fun j9 => xik hw1.2.1 (o := 21) (j := j9) (by first | rfl | (simp [wl]; done) | (simp [wl]; omega))) (fun i9 j9 _ => xik hw1.2.1 (o := 64 * (i9 + 1) + 1) (j := j9) (by first | exact wl_p rfl rfl (by omega) | (simp [wl]; done) | (simp [wl]; omega))) (xik hw2.2.1 (o := 0) (j := 16) rfl) (xik hw2.2.1 (o := 0) (j := 17) rfl) (fun j9 => xik hw2.2.1 (o := 7) (j := j9) rfl) (fun j9 => xik hw2.2.1 (o := 10) (j := j9) rfl) (fun j9 => xik hw2.2.1 (o := 11) (j := j9) rfl)
  have hU := hU.keep (cf' := cf) (E' := E1) rfl (fun _ _ => ⟨rfl, rfl⟩) (fun i9 _ t9 _ _ j9 => xik hw1.2.1 (o := 64 * (i9 + 1) + t9) (j := j9) (by first | exact wl_p rfl rfl (by omega) | (simp [wl]; done) | (simp [wl]; omega))) (fun j9 => xik hw2.2.1 (o := 8) (j := j9) rfl) (fun j9 => xik hw2.2.1 (o := 9) (j := j9) rfl)
  have hG := hG.keep (cf' := cf) (E' := E1) rfl (fun i9 j9 _ => xik hw1.2.1 (o := 64 * (i9 + 1) + 14) (j := j9) (by first | exact wl_p rfl rfl (by omega) | (simp [wl]; done) | (simp [wl]; omega))) (fun j9 => xik hw2.2.1 (o := 51) (j := j9) rfl)
  have e0 : (xi (E 1) 0).toInt = (xi (EM 0) 1).toInt := congrArg Int32.toInt hR.now
  have e1 : (xi (E 1) 1).toInt = (xi (EM 0) 8).toInt := congrArg Int32.toInt hR.boats
  have e2 : (xi (E 1) 2).toInt = (xi (EM 0) 48).toInt := congrArg Int32.toInt hR.red
  obtain ⟨q0, q2, q3, q4, q5⟩ := hR.cnt
  have lm : (-1 : Int32).toInt = -1 := rfl
  have l0 : (0 : Int32).toInt = 0 := rfl
  have l1 : (1 : Int32).toInt = 1 := rfl
  have l2 : (2 : Int32).toInt = 2 := rfl
  have lk : (1000 : Int32).toInt = 1000 := rfl
  have hpn := fun (b : Int32) (h1 : 0 ≤ (xs (i + 1).toNatClampNeg).toInt ∧ (xs (i + 1).toNatClampNeg).toInt < ((cf 2 : Nat) : Int)) (h2 : 0 ≤ b.toInt ∧ b.toInt < 16) => pen hR.en hM0 bn (by omega) (xs (i + 1).toNatClampNeg) b h1 h2
  have hp : PK (fun t _ => Nat.beq t 7) cf E E1 := fun t i j ht _ hx _ => xik hw1.2.1 (by
    have hx : (Nat.beq t 7) = false := hx
    have h7 : t ≠ 7 := fun h9 => by subst h9; exact absurd hx (by decide)
    clear hx
    simp [wl]; omega)
  have hk7 : ∀ i9 j9, i9 ≠ (xs (i + 1).toNatClampNeg).toNatClampNeg → xi (E1 (64 * (i9 + 1) + 7)) j9 = xi (E (64 * (i9 + 1) + 7)) j9 := fun i9 j9 hi => xik hw1.2.1 (by simp [wl]; omega)
  have kk0 : xi (E1 1) 0 = xi (E 1) 0 := xik hw1.2.1 (o := 1) (j := 0) (by first | rfl | (simp [wl]; done) | (simp [wl]; omega))
  have kk1 : xi (E1 1) 1 = xi (E 1) 1 := xik hw1.2.1 (o := 1) (j := 1) (by first | rfl | (simp [wl]; done) | (simp [wl]; omega))
  have kk2 : xi (E1 1) 2 = xi (E 1) 2 := xik hw1.2.1 (o := 1) (j := 2) (by first | rfl | (simp [wl]; done) | (simp [wl]; omega))
  have hn0 : (xi (E 1) 0).toInt ≤ (xi (E1 1) 0).toInt := by rw [kk0]; exact Int.le_refl _
  have hb0 : (xi (E 1) 1).toInt ≤ (xi (E1 1) 1).toInt := by rw [kk1]; exact Int.le_refl _
  have hsx := kpSx [] hw2.2.1 rfl
  have hrx := kpRx [21] hw2.2.1 rfl
  have hkE : ∀ i9 j9 : Nat, i9 ≠ (xs (i + 1).toNatClampNeg).toNatClampNeg → xv (E1 (64 * (i9 + 1) + 7)) j9 = xv (E (64 * (i9 + 1) + 7)) j9 := fun i9 j9 hi => hw1.2.1 _ j9 (by first | (simp [wl]; done) | (simp [wl]; omega))
  have hd : r1.toInt = r2.toInt ∧ REL cf E1 EM1 := by
    obtain ⟨-, -, hc1⟩ := id hw1
    obtain ⟨-, -, hc2⟩ := id hw2
    rcases hc1 with ⟨n1, g1, u1⟩ | ⟨n1, g1, u1⟩ <;> rcases hc2 with ⟨n2, g2, u2⟩ | ⟨n2, g2, u2⟩
    · have hz := eb_m1 hR.eb (a := (xs (i + 1).toNatClampNeg)) (b := (xs (i + 2).toNatClampNeg)) g1.1 (by omega) g1.2.2
      have hst : ENst (cf 2) E E1 := ENst.up hk7 u1 hz
      exact ⟨by rw [n1, n2], ⟨(kk0.trans hR.now).trans ((hsx 1 (by decide) rfl)).symm,
      (kk1.trans hR.boats).trans ((hsx 8 (by decide) rfl)).symm,
      (kk2.trans hR.red).trans ((hsx 48 (by decide) rfl)).symm,
      CNT.mv (hR.cnt.k rfl rfl rfl rfl rfl) (fun j hj => by simp only [List.mem_cons, List.not_mem_nil, or_false] at hj; rcases hj with rfl | rfl | rfl | rfl | rfl; exact (hsx 9 (by decide) rfl); exact (hsx 46 (by decide) rfl); exact (hsx 47 (by decide) rfl); exact (hsx 74 (by decide) rfl); exact (hsx 75 (by decide) rfl)),
      hR.en.up hR.now (by omega) ⟨by omega, by omega⟩ hkE u1 u2,
      (TBj.km (TBj.kc (E' := E1) hR.tb0 rfl (hp.tb (J := 0) rfl)) (fun q hq j => (show ∀ r ∈ [1, 2, 3, 4, 5, 6], ∀ j, xi (EM1 r) j = xi (EM r) j from fun r hr9 => by simp only [List.mem_cons, List.not_mem_nil, or_false] at hr9; rcases hr9 with rfl | rfl | rfl | rfl | rfl | rfl; exact (hrx 1 (by decide) rfl); exact (hrx 2 (by decide) rfl); exact (hrx 3 (by decide) rfl); exact (hrx 4 (by decide) rfl); exact (hrx 5 (by decide) rfl); exact (hrx 6 (by decide) rfl)) _ (tbm0 q hq) j)),
      (TBj.km (TBj.kc (E' := E1) hR.tb2 rfl (hp.tb (J := 2) rfl)) (fun q hq j => (show ∀ r ∈ [20, 13, 14, 15, 16, 17, 18], ∀ j, xi (EM1 r) j = xi (EM r) j from fun r hr9 => by simp only [List.mem_cons, List.not_mem_nil, or_false] at hr9; rcases hr9 with rfl | rfl | rfl | rfl | rfl | rfl | rfl; exact (hrx 20 (by decide) rfl); exact (hrx 13 (by decide) rfl); exact (hrx 14 (by decide) rfl); exact (hrx 15 (by decide) rfl); exact (hrx 16 (by decide) rfl); exact (hrx 17 (by decide) rfl); exact (hrx 18 (by decide) rfl)) _ (tbm2 q hq) j)),
      (TBj.km (TBj.kc (E' := E1) hR.tb3 rfl (hp.tb (J := 3) rfl)) (fun q hq j => (show ∀ r ∈ [24, 25, 26, 27, 28], ∀ j, xi (EM1 r) j = xi (EM r) j from fun r hr9 => by simp only [List.mem_cons, List.not_mem_nil, or_false] at hr9; rcases hr9 with rfl | rfl | rfl | rfl | rfl; exact (hrx 24 (by decide) rfl); exact (hrx 25 (by decide) rfl); exact (hrx 26 (by decide) rfl); exact (hrx 27 (by decide) rfl); exact (hrx 28 (by decide) rfl)) _ (tbm3 q hq) j)),
      (TBj.km (TBj.kc (E' := E1) hR.tb4 rfl (hp.tb (J := 4) rfl)) (fun q hq j => (show ∀ r ∈ [38, 39, 45, 40, 41, 42, 43, 44], ∀ j, xi (EM1 r) j = xi (EM r) j from fun r hr9 => by simp only [List.mem_cons, List.not_mem_nil, or_false] at hr9; rcases hr9 with rfl | rfl | rfl | rfl | rfl | rfl | rfl | rfl; exact (hrx 38 (by decide) rfl); exact (hrx 39 (by decide) rfl); exact (hrx 45 (by decide) rfl); exact (hrx 40 (by decide) rfl); exact (hrx 41 (by decide) rfl); exact (hrx 42 (by decide) rfl); exact (hrx 43 (by decide) rfl); exact (hrx 44 (by decide) rfl)) _ (tbm4 q hq) j)),
      (TBj.km (TBj.kc (E' := E1) hR.tb5 rfl (hp.tb (J := 5) rfl)) (fun q hq j => (show ∀ r ∈ [46, 47, 48, 49, 50], ∀ j, xi (EM1 r) j = xi (EM r) j from fun r hr9 => by simp only [List.mem_cons, List.not_mem_nil, or_false] at hr9; rcases hr9 with rfl | rfl | rfl | rfl | rfl; exact (hrx 46 (by decide) rfl); exact (hrx 47 (by decide) rfl); exact (hrx 48 (by decide) rfl); exact (hrx 49 (by decide) rfl); exact (hrx 50 (by decide) rfl)) _ (tbm5 q hq) j)),
      hR.eb.up (a := (xs (i + 1).toNatClampNeg)) (b := (xs (i + 2).toNatClampNeg)) (by omega) g1.2.1.2 kk0 kk1 (fun i hi => hp 6 i 0 (by decide) (by decide) rfl hi) (fun i hi => hR.tn2 (6, 0) (by decide) i hi) hk7 u1 rfl,
      RD.km (RD.kc (E' := E1) hR.rd rfl hn0 (fun i j hi => hp 8 i j (by decide) (by decide) rfl hi)) (hsx 48 (by decide) rfl) (hrx 29 (by decide) rfl) (hrx 30 (by decide) rfl) (hrx 31 (by decide) rfl),
      ST.km (ST.kc (E' := E1) hR.st rfl hb0 (fun i j hi => hp 9 i j (by decide) (by decide) rfl hi) (fun i j hi => hp 10 i j (by decide) (by decide) rfl hi)) (hrx 22 (by decide) rfl) (hrx 23 (by decide) rfl),
      SW.km (SW.kc (E' := E1) hR.sw rfl hn0 (fun i hi => hp 6 i 0 (by decide) (by decide) rfl hi) (fun i j hi => hp 11 i j (by decide) (by decide) rfl hi)) (hrx 19 (by decide) rfl),
      DC.km (DC.kc (E' := E1) hR.dc rfl hn0 (fun i j hi => hp 14 i j (by decide) (by decide) rfl hi)) (hrx 52 (by decide) rfl) (hrx 53 (by decide) rfl) (hrx 54 (by decide) rfl) (hrx 55 (by decide) rfl),
      (hR.tn0.kc rfl hn0 (hp.tn (J := 0) rfl)),
      (hR.tn2.kc rfl hn0 (hp.tn (J := 2) rfl)),
      (hR.tn3.kc rfl hn0 (hp.tn (J := 3) rfl)),
      (hR.tn4.kc rfl hn0 (hp.tn (J := 4) rfl)),
      (hR.tn5.kc rfl hn0 (hp.tn (J := 5) rfl)),
      (hR.rmo.kc rfl (fun i hi => hp 6 i 0 (by decide) (by decide) rfl hi)),
      (hR.er3.kc rfl (Nat.le_of_eq (rfl).symm) hst (hp.er (J := 3) rfl)),
      (hR.er4.kc rfl (Nat.le_of_eq (rfl).symm) hst (hp.er (J := 4) rfl)),
      (hR.er5.kc rfl (Nat.le_of_eq (rfl).symm) hst (hp.er (J := 5) rfl)),
      (hR.pne.kc rfl (fun i hi => hp 14 i 1 (by decide) (by decide) rfl hi) (fun i hi => hp 14 i 2 (by decide) (by decide) rfl hi)),
      DZ.km (DZ.kc (cf' := _) hR.dz (Nat.le_of_eq (rfl).symm)) (hrx 54 (by decide) rfl) (hrx 55 (by decide) rfl),
      RRo.km (RRo.kc (cf' := _) hR.rro (Nat.le_of_eq (rfl).symm)) (hsx 48 (by decide) rfl) (hrx 29 (by decide) rfl)⟩⟩
    · exfalso; have hp0 := hpn (xs (i + 2).toNatClampNeg) (by omega) (by omega); omega
    · exfalso; have hp0 := hpn (xs (i + 2).toNatClampNeg) (by omega) (by omega); omega
    · refine ⟨by rw [n1, n2], ?_⟩
      have hp0 : PK X0 cf E E1 := fun t9 i9 j9 ht hk1 _ hi => by
        by_cases h7 : t9 = 7 ∧ i9 = (xs (i + 1).toNatClampNeg).toNatClampNeg
        · obtain ⟨rfl, rfl⟩ := h7; exact congrFun u1 j9
        exact xik hw1.2.1 (by simp [wl]; omega)
      exact hR.keep (fun _ _ _ => rfl) kk0 kk1 kk2 hp0 (kpS hw2.2.1 rfl) (kpRy [21] (kpRx [21] hw2.2.1 rfl) (fun r hq j => by simp only [List.mem_cons, List.not_mem_nil, or_false] at hq; rcases hq with rfl; exact (congrFun u2 j)))
  have hR := hd.2
  refine lv_pop hx hb dL_law_747 rfl ?_
  refine lv_goto (tgt := 1859) hx hb dL_law_748 (by decide) ?_
  exact W.widen (k := cn + 7) (n := sn + 3300) (by omega) (by omega) (tail _ _ _ _ _ _ _ _ V ⟨⟨⟨⟨⟨hR, hT⟩, hU⟩, hG⟩, hB⟩, hRS⟩ hl)
set_option maxHeartbeats 4000000 in
set_option maxRecDepth 100000 in
theorem law_case_13 {p : Program} {e : Env} {s : State} {m : MethodId} {below : List Frame} {meth : Method} {c : Code} (l : Launch) {b L : Nat} {xs : Nat → Int32} (hL : L ≤ 4096) (C0 : lw_At p s m meth c b L xs) {A : Nat → Prop} {ed : Nat} {dC : Nat → ClassId} {dI : Nat → Nat → Nat} {cT : Nat → ClassId} {cL : ClassId} (F : FX l s A ed dC dI cT cL) {x ou : Nat} {am cf ad : Nat → Nat} {E EM : Nat → va_E} {f : Nat → Int64} {H : Heap} {locs : List Loc} (V : INV s A ed dC dI cT cL x ou am cf ad E EM f H locs) (hR : REL15 cf E EM) {i : Int32} (hi0 : 0 ≤ i.toInt) (hi8 : i.toInt + 8 ≤ (L : Int)) {cn sn : Nat} (hcn : cn + 7 ≤ 601024) (hsn : sn + 3300 ≤ 7293034) (ls : Array Slot) (hl : lv_has ls 7 [(0, .ref b), (1, .ref x), (2, .ref (am 0)), (3, .ref ou), (4, .int i)]) (tail : (∀ (cf ad : Nat → Nat) (E EM : Nat → va_E) (f : Nat → Int64) (H : Heap) (locs : List Loc) (ls : Array Slot), INV s A ed dC dI cT cL x ou am cf ad E EM f H locs → REL15 cf E EM → lv_has ls 7 [(0, .ref b), (1, .ref x), (2, .ref (am 0)), (3, .ref ou), (4, .int i)] → W p l e room_1 s m #[Value.ref b] below meth c H locs (cn + 7) (sn + 3300) (lw_Z below #[Value.ref b] s) (F0 m 1859 ls []))) : W p l e room_1 s m #[Value.ref b] below meth c H locs cn sn (lw_Z below #[Value.ref b] s) (F0 m 751 ls []) := by
  obtain ⟨hx, hb, hr, hml, hown, hts0, hX, hbl, hlocks, hgv⟩ := id C0
  have hts := fun w (h : w ∈ v_law) => hts0 w (v_law_in w h)
  have hbA : ¬ A b := F.hnA b hbl
  obtain rfl := V.hx
  obtain ⟨⟨⟨⟨⟨hR, hT⟩, hU⟩, hG⟩, hB⟩, hRS⟩ := hR
  refine lv_aload_n hx hb dL_law_751 rfl (lv_at hl 1 rfl) ?_
  refine lv_aload_n hx hb dL_law_752 rfl (lv_at hl 0 rfl) ?_
  refine lv_iload hx hb dL_law_753 (lv_at hl 4 rfl) ?_
  refine lv_iconst (v := 1) hx hb dL_law_755 (by decide) ?_
  refine lv_iadd hx hb dL_law_756 ?_
  refine va_sld hx hb hX hbl hbA V.hS (law_in (k := 1) hi0 hi8 hL (by decide) rfl) dL_law_757 ?_
  refine lv_aload_n hx hb dL_law_758 rfl (lv_at hl 0 rfl) ?_
  refine lv_iload hx hb dL_law_759 (lv_at hl 4 rfl) ?_
  refine lv_iconst (v := 2) hx hb dL_law_761 (by decide) ?_
  refine lv_iadd hx hb dL_law_762 ?_
  refine va_sld hx hb hX hbl hbA V.hS (law_in (k := 2) hi0 hi8 hL (by decide) rfl) dL_law_763 ?_
  refine lv_aload_n hx hb dL_law_764 rfl (lv_at hl 0 rfl) ?_
  refine lv_iload hx hb dL_law_765 (lv_at hl 4 rfl) ?_
  refine lv_iconst (v := 3) hx hb dL_law_767 (by decide) ?_
  refine lv_iadd hx hb dL_law_768 ?_
  refine va_sld hx hb hX hbl hbA V.hS (law_in (k := 3) hi0 hi8 hL (by decide) rfl) dL_law_769 ?_
  refine lv_aload_n hx hb dL_law_770 rfl (lv_at hl 0 rfl) ?_
  refine lv_iload hx hb dL_law_771 (lv_at hl 4 rfl) ?_
  refine lv_iconst (v := 4) hx hb dL_law_773 (by decide) ?_
  refine lv_iadd hx hb dL_law_774 ?_
  refine va_sld hx hb hX hbl hbA V.hS (law_in (k := 4) hi0 hi8 hL (by decide) rfl) dL_law_775 ?_
  have hI0 := V.hI
  have hC0 := V.hC
  have hM0 := V.hM
  have bn : (0 : Int) ≤ (xi (E 1) 0).toInt ∧ (xi (E 1) 0).toInt ≤ 400 := hI0.iv 1 (mF 1 rfl) rfl (Nat.le_of_ble_eq_true rfl) rfl
  have bb : (0 : Int) ≤ (xi (E 1) 1).toInt ∧ (xi (E 1) 1).toInt ≤ 16 := hI0.iv 1 (mF 1 rfl) rfl (Nat.le_of_ble_eq_true rfl) rfl
  obtain ⟨⟨k0, k1, k2, k3, k4, k5⟩, -⟩ := id hC0
  refine lCm F V (fun r u h => (made_o h).1) (va_runV (As := [.int (xs (i + 1).toNatClampNeg), .int (xs (i + 2).toNatClampNeg), .int (xs (i + 3).toNatClampNeg), .int (xs (i + 4).toNatClampNeg)]) (rest := []) ⟨hx, hb, hml, hown, hts⟩ (q_u_result l dC dI cT cf V.hC ad E H.size (xs (i + 1).toNatClampNeg) (xs (i + 2).toNatClampNeg) (xs (i + 3).toNatClampNeg) (xs (i + 4).toNatClampNeg) V.hI) (cwV 4 hts (gl_V (al_1 _ (zs16 (zs16 (zs4 (zs1 (zs1 (zs0))))))) (al_1 _ (zs16 (zs16 (zs4 (zs1 (zs1 (zs1 (zs0)))))))) (al_2 _ zs0) (vl_A _ (in_4 _ (zs16 (zs4 (zs1 (zs1 (zs1 (zs0)))))))) (vl_A _ (in_22 _ (zs16 (zs4 (zs1 (zs0))))))) rfl rfl rfl ⟨rfl, hz_yX12_result_4⟩ ⟨Nat.le_of_ble_eq_true rfl, Nat.le_of_ble_eq_true rfl⟩) ⟨HWL_bl, va_recv F.kc V.cp (ci := 13) (q0 := posL 0 (LC cf)) rfl (V.hI.ob 0 (mF 0 rfl) rfl), HWL_wi V.cp F.kc V.dc V.hS F.hA (V.ec F)⟩ rfl rfl hl.1 rfl (lv_room (Nat.le_of_ble_eq_true rfl)) dL_law_776 ⟨by show cn + 2 ≤ 601024; omega, by show sn + 645 ≤ 7293034; omega⟩) (fun r1 cf1 ad1 E1 H locs hw1 V => ?_)
  refine lv_pop hx hb dL_law_779 rfl ?_
  refine lv_aload_n hx hb dL_law_780 rfl (lv_at hl 2 rfl) ?_
  refine lv_aload_n hx hb dL_law_781 rfl (lv_at hl 0 rfl) ?_
  refine lv_iload hx hb dL_law_782 (lv_at hl 4 rfl) ?_
  refine lv_iconst (v := 1) hx hb dL_law_784 (by decide) ?_
  refine lv_iadd hx hb dL_law_785 ?_
  refine va_sld hx hb hX hbl hbA V.hS (law_in (k := 1) hi0 hi8 hL (by decide) rfl) dL_law_786 ?_
  refine lv_aload_n hx hb dL_law_787 rfl (lv_at hl 0 rfl) ?_
  refine lv_iload hx hb dL_law_788 (lv_at hl 4 rfl) ?_
  refine lv_iconst (v := 2) hx hb dL_law_790 (by decide) ?_
  refine lv_iadd hx hb dL_law_791 ?_
  refine va_sld hx hb hX hbl hbA V.hS (law_in (k := 2) hi0 hi8 hL (by decide) rfl) dL_law_792 ?_
  refine lv_aload_n hx hb dL_law_793 rfl (lv_at hl 0 rfl) ?_
  refine lv_iload hx hb dL_law_794 (lv_at hl 4 rfl) ?_
  refine lv_iconst (v := 3) hx hb dL_law_796 (by decide) ?_
  refine lv_iadd hx hb dL_law_797 ?_
  refine va_sld hx hb hX hbl hbA V.hS (law_in (k := 3) hi0 hi8 hL (by decide) rfl) dL_law_798 ?_
  refine lv_aload_n hx hb dL_law_799 rfl (lv_at hl 0 rfl) ?_
  refine lv_iload hx hb dL_law_800 (lv_at hl 4 rfl) ?_
  refine lv_iconst (v := 4) hx hb dL_law_802 (by decide) ?_
  refine lv_iadd hx hb dL_law_803 ?_
  refine va_sld hx hb hX hbl hbA V.hS (law_in (k := 4) hi0 hi8 hL (by decide) rfl) dL_law_804 ?_
  refine lM F V (fun r u h => ⟨h.1, DIr_kp h.2.1 (fun _ => rfl) (fun _ => rfl) V.hDI⟩) (va_runV (As := [.int (xs (i + 1).toNatClampNeg), .int (xs (i + 2).toNatClampNeg), .int (xs (i + 3).toNatClampNeg), .int (xs (i + 4).toNatClampNeg)]) (rest := []) ⟨hx, hb, hml, hown, hts⟩ (q_resultR l dC dI cT am EM H.size (xs (i + 1).toNatClampNeg) (xs (i + 2).toNatClampNeg) (xs (i + 3).toNatClampNeg) (xs (i + 4).toNatClampNeg) V.hM) (cwV 4 hts (gl_V (al_2 _ (zs1 (zs0))) (al_2 _ (zs1 (zs1 (zs0)))) (al_2 _ (zs1 (zs1 (zs1 (zs0))))) (vl_A _ (in_24 _ (zs4 (zs4 (zs4 (zs1 (zs1 (zs1 (zs0))))))))) (vl_A _ (in_33 _ (zs16 (zs4 (zs1 (zs1 (zs0)))))))) rfl rfl rfl ⟨rfl, hz_yX13_result_4⟩ ⟨Nat.le_of_ble_eq_true rfl, Nat.le_of_ble_eq_true rfl⟩) ⟨HW_bl, va_recv F.km V.pm (ci := 14) (q0 := 0) rfl (V.hM.ob 0 (Nat.le_of_ble_eq_true rfl) rfl), HW_wi V.pm F.km V.dm V.hS F.hA F.hEV⟩ rfl rfl hl.1 rfl (lv_room (Nat.le_of_ble_eq_true rfl)) dL_law_805 ⟨by show cn + 2 + 0 ≤ 601024; omega, by show sn + 645 + 0 ≤ 7293034; omega⟩) (fun r2 EM1 H locs hw2 V => ?_)
  have hs29 : ∀ i9, i9 < cf 3 → xi (E1 (64 * (i9 + 1) + 12)) 2 = xi (E (64 * (i9 + 1) + 12)) 2 := fun i9 hi9 => made_p hw1 (by decide) (fun o j ho => by first | exact wl_p rfl rfl (by omega) | (simp [wl]; done) | (simp [wl]; omega)) 12 i9 2 (by decide) hi9
  have hs39 : ∀ i9, i9 < cf 3 → xi (E1 (64 * (i9 + 1) + 12)) 3 = xi (E (64 * (i9 + 1) + 12)) 3 := fun i9 hi9 => made_p hw1 (by decide) (fun o j ho => by first | exact wl_p rfl rfl (by omega) | (simp [wl]; done) | (simp [wl]; omega)) 12 i9 3 (by decide) hi9
  have hRS : RSC cf1 E1 := by
    rcases hw1.2.2 with ⟨c9, -, -, -, -⟩ | ⟨g9, -, -, y8, y7, y9⟩
    · exact hRS.keep (congrFun c9 3) hs29 hs39
    · have yc9 : E1 (64 * (cf 3 + 1) + 12) = _ := y9
      have f2 : xi (E1 (64 * (cf 3 + 1) + 12)) 2 = (xs (i + 3).toNatClampNeg) := by rw [yc9]; rfl
      have f3 : xi (E1 (64 * (cf 3 + 1) + 12)) 3 = (xs (i + 4).toNatClampNeg) := by rw [yc9]; rfl
      exact hRS.push g9.1 hs29 hs39 (by rw [f2, f3]; omega)
  have hb9 : xi (E1 1) 1 = xi (E 1) 1 := congrArg vi ((made_o hw1).2 1 (by first | rfl | (simp [wl]; done) | (simp [wl]; omega)))
  have hk9 : ∀ i9, i9 < cf 0 → xi (E1 (64 * (i9 + 1) + 0)) 0 = xi (E (64 * (i9 + 1) + 0)) 0 := fun i9 hi9 => made_p hw1 (by decide) (fun o j ho => by first | exact wl_p rfl rfl (by omega) | (simp [wl]; done) | (simp [wl]; omega)) 0 i9 0 (by decide) hi9
  have hB := hB.keep (cf' := cf1) (E' := E1) (made_c hw1 0 (by decide) (by decide)) (by rw [hb9]; exact Int.le_refl _) hk9
  have hT := hT.keep (cf' := cf1) (E' := E1) (made_c hw1 1 (by decide) (by decide)) (made_f hw1 (o := 2) (j := 1) (by decide) (by first | rfl | (simp [wl]; done) | (simp [wl]; omega))) (fun j9 => made_f hw1 (o := 21) (j := j9) (by decide) (by first | rfl | (simp [wl]; done) | (simp [wl]; omega))) (fun i9 j9 hi9 => made_p hw1 (by decide) (fun o j ho => by first | exact wl_p rfl rfl (by omega) | (simp [wl]; done) | (simp [wl]; omega)) 1 i9 j9 (by decide) hi9) (xik hw2.2.1 (o := 0) (j := 16) rfl) (xik hw2.2.1 (o := 0) (j := 17) rfl) (fun j9 => xik hw2.2.1 (o := 7) (j := j9) rfl) (fun j9 => xik hw2.2.1 (o := 10) (j := j9) rfl) (fun j9 => xik hw2.2.1 (o := 11) (j := j9) rfl)
  have hU := hU.keep (cf' := cf1) (E' := E1) (made_c hw1 1 (by decide) (by decide)) (fun i9 _ => made_8 hw1 (by decide) i9) (fun i9 hi9 t9 g1 g2 j9 => made_p hw1 (by decide) (fun o j ho => by first | exact wl_p rfl rfl (by omega) | (simp [wl]; done) | (simp [wl]; omega)) t9 i9 j9 (by omega) (by rw [kl1 t9 g1 g2]; exact hi9)) (fun j9 => xik hw2.2.1 (o := 8) (j := j9) rfl) (fun j9 => xik hw2.2.1 (o := 9) (j := j9) rfl)
  have hG := hG.keep (cf' := cf1) (E' := E1) (made_c hw1 5 (by decide) (by decide)) (fun i9 j9 hi9 => made_p hw1 (by decide) (fun o j ho => by first | exact wl_p rfl rfl (by omega) | (simp [wl]; done) | (simp [wl]; omega)) 14 i9 j9 (by decide) hi9) (fun j9 => xik hw2.2.1 (o := 51) (j := j9) rfl)
  have e0 : (xi (E 1) 0).toInt = (xi (EM 0) 1).toInt := congrArg Int32.toInt hR.now
  have e1 : (xi (E 1) 1).toInt = (xi (EM 0) 8).toInt := congrArg Int32.toInt hR.boats
  have e2 : (xi (E 1) 2).toInt = (xi (EM 0) 48).toInt := congrArg Int32.toInt hR.red
  obtain ⟨q0, q2, q3, q4, q5⟩ := hR.cnt
  have lm : (-1 : Int32).toInt = -1 := rfl
  have l0 : (0 : Int32).toInt = 0 := rfl
  have l1 : (1 : Int32).toInt = 1 := rfl
  have l2 : (2 : Int32).toInt = 2 := rfl
  have lk : (1000 : Int32).toInt = 1000 := rfl
  have hpn := fun (b : Int32) (h1 : 0 ≤ (xs (i + 1).toNatClampNeg).toInt ∧ (xs (i + 1).toNatClampNeg).toInt < ((cf 2 : Nat) : Int)) (h2 : 0 ≤ b.toInt ∧ b.toInt < 16) => pen hR.en hM0 bn (by omega) (xs (i + 1).toNatClampNeg) b h1 h2
  have kk0 : xi (E1 1) 0 = xi (E 1) 0 := congrArg vi ((made_o hw1).2 0 (by first | rfl | (simp [wl]; done) | (simp [wl]; omega)))
  have kk1 : xi (E1 1) 1 = xi (E 1) 1 := congrArg vi ((made_o hw1).2 1 (by first | rfl | (simp [wl]; done) | (simp [wl]; omega)))
  have kk2 : xi (E1 1) 2 = xi (E 1) 2 := congrArg vi ((made_o hw1).2 2 (by first | rfl | (simp [wl]; done) | (simp [wl]; omega)))
  have hn0 : (xi (E 1) 0).toInt ≤ (xi (E1 1) 0).toInt := by rw [kk0]; exact Int.le_refl _
  have hb0 : (xi (E 1) 1).toInt ≤ (xi (E1 1) 1).toInt := by rw [kk1]; exact Int.le_refl _
  have hp : PK X0 cf E E1 := fun t i j ht _ _ hi => made_p hw1 (by decide) (fun o j ho => by first | exact wl_p rfl rfl (by omega) | (simp [wl]; done) | (simp [wl]; omega)) t i j ht hi
  have hst : ENst (cf 2) E E1 := ENst.of (fun i j hi => hp 7 i j (by decide) (by decide) rfl hi)
  have hsx := kpSx [47] hw2.2.1 rfl
  have hrx := kpRx [24, 25, 26, 27, 28] hw2.2.1 rfl
  have hcJ : ∀ j, j < 6 → j ≠ 3 → cf1 j = cf j := made_c hw1
  have hd : r1.toInt = r2.toInt ∧ REL cf1 E1 EM1 := by
    obtain ⟨-, -, ⟨m1, m2⟩, ⟨m3, m4⟩⟩ := id hw2
    have hN : (xi (EM 0) 47).toNatClampNeg = cf 3 := by rw [tn_]; omega
    by_cases gm : (0 ≤ (xs (i + 1).toNatClampNeg).toInt ∧ (xs (i + 1).toNatClampNeg).toInt < (xi (EM 0) 46).toInt) ∧ (0 ≤ (xs (i + 2).toNatClampNeg).toInt ∧ (xs (i + 2).toNatClampNeg).toInt < (xi (EM 0) 8).toInt) ∧ (xi (EM 21) (16 * (xs (i + 1).toNatClampNeg).toInt + (xs (i + 2).toNatClampNeg).toInt).toNat).toInt ≤ (xi (EM 0) 1).toInt ∧ (0 ≤ (xs (i + 3).toNatClampNeg).toInt ∧ (xs (i + 3).toNatClampNeg).toInt ≤ 4) ∧ (((xs (i + 3).toNatClampNeg).toInt = 0 ∧ 1 ≤ (xs (i + 4).toNatClampNeg).toInt ∧ (xs (i + 4).toNatClampNeg).toInt ≤ 200000) ∨ (¬ (xs (i + 3).toNatClampNeg).toInt = 0 ∧ (xs (i + 4).toNatClampNeg).toInt = 0)) ∧ (xi (EM 0) 47).toInt < 300
    · have h2 := m1 gm
      obtain ⟨b24, b25, b26, b27, b28⟩ := m3 gm
      rcases hw1.2.2 with ⟨c1, -, -, n1, n2⟩ | ⟨g, -, -, y1, y2, y3⟩
      · exfalso; have hp0 := hpn (xs (i + 2).toNatClampNeg) (by omega) (by omega); omega
      · have g1 : cf1 3 = cf 3 + 1 := g.1
        rw [hN] at b24 b25 b26 b27 b28
        have y4 := congrArg Int32.toInt y1
        have yc : E1 (64 * (cf 3 + 1) + 12) = _ := y3
        have f0 : xi (E1 (64 * (cf 3 + 1) + 12)) 0 = ((xs (i + 1).toNatClampNeg) : Int32) := by rw [yc]; rfl
        have f1 : xi (E1 (64 * (cf 3 + 1) + 12)) 1 = ((xs (i + 2).toNatClampNeg) : Int32) := by rw [yc]; rfl
        have f2 : xi (E1 (64 * (cf 3 + 1) + 12)) 2 = ((xs (i + 3).toNatClampNeg) : Int32) := by rw [yc]; rfl
        have f3 : xi (E1 (64 * (cf 3 + 1) + 12)) 3 = ((xs (i + 4).toNatClampNeg) : Int32) := by rw [yc]; rfl
        have f4 : xi (E1 (64 * (cf 3 + 1) + 12)) 4 = (xi (E 1) 0 : Int32) := by rw [yc]; rfl
        have t0 : xi (E1 (64 * ((xs (i + 1).toNatClampNeg).toNatClampNeg + 1) + 7)) (xs (i + 2).toNatClampNeg).toNatClampNeg = xi (E (64 * ((xs (i + 1).toNatClampNeg).toNatClampNeg + 1) + 7)) (xs (i + 2).toNatClampNeg).toNatClampNeg := hp 7 _ _ (by decide) (by decide) rfl (show (xs (i + 1).toNatClampNeg).toNatClampNeg < cf 2 by rw [tn_ (xs (i + 1).toNatClampNeg)]; omega)
        refine ⟨by omega, ?_⟩
        exact ⟨(kk0.trans hR.now).trans ((hsx 1 (by decide) rfl)).symm,
          (kk1.trans hR.boats).trans ((hsx 8 (by decide) rfl)).symm,
          (kk2.trans hR.red).trans ((hsx 48 (by decide) rfl)).symm,
          ⟨(by have c9 : cf1 0 = cf 0 := hcJ 0 (by decide) (by decide); have d9 := congrArg Int32.toInt (hsx 9 (by decide) rfl); omega), (by have c9 : cf1 2 = cf 2 := hcJ 2 (by decide) (by decide); have d9 := congrArg Int32.toInt (hsx 46 (by decide) rfl); omega), (by omega), (by have c9 : cf1 4 = cf 4 := hcJ 4 (by decide) (by decide); have d9 := congrArg Int32.toInt (hsx 74 (by decide) rfl); omega), (by have c9 : cf1 5 = cf 5 := hcJ 5 (by decide) (by decide); have d9 := congrArg Int32.toInt (hsx 75 (by decide) rfl); omega)⟩,
          EN.m (EM' := EM1) (EN.k (E' := E1) hR.en (hcJ 2 (by decide) (by decide)) (fun i j hi => hp 7 i j (by decide) (by decide) rfl hi)) (hrx 21 (by decide) rfl),
          (TBj.km (TBj.kc (E' := E1) hR.tb0 (hcJ 0 (by decide) (by decide)) (hp.tb (J := 0) rfl)) (fun q hq j => (show ∀ r ∈ [1, 2, 3, 4, 5, 6], ∀ j, xi (EM1 r) j = xi (EM r) j from fun r hr9 => by simp only [List.mem_cons, List.not_mem_nil, or_false] at hr9; rcases hr9 with rfl | rfl | rfl | rfl | rfl | rfl; exact (hrx 1 (by decide) rfl); exact (hrx 2 (by decide) rfl); exact (hrx 3 (by decide) rfl); exact (hrx 4 (by decide) rfl); exact (hrx 5 (by decide) rfl); exact (hrx 6 (by decide) rfl)) _ (tbm0 q hq) j)),
          (TBj.km (TBj.kc (E' := E1) hR.tb2 (hcJ 2 (by decide) (by decide)) (hp.tb (J := 2) rfl)) (fun q hq j => (show ∀ r ∈ [20, 13, 14, 15, 16, 17, 18], ∀ j, xi (EM1 r) j = xi (EM r) j from fun r hr9 => by simp only [List.mem_cons, List.not_mem_nil, or_false] at hr9; rcases hr9 with rfl | rfl | rfl | rfl | rfl | rfl | rfl; exact (hrx 20 (by decide) rfl); exact (hrx 13 (by decide) rfl); exact (hrx 14 (by decide) rfl); exact (hrx 15 (by decide) rfl); exact (hrx 16 (by decide) rfl); exact (hrx 17 (by decide) rfl); exact (hrx 18 (by decide) rfl)) _ (tbm2 q hq) j)),
          (by rw [g1]; exact TBj.push hR.tb3 (hp.tb (J := 3) rfl) (fun q hq i hi => by simp only [tb3, List.mem_cons, List.not_mem_nil, or_false] at hq; rcases hq with rfl | rfl | rfl | rfl | rfl; exact ((congrFun b24 i).trans (upd_n (by omega))); exact ((congrFun b25 i).trans (upd_n (by omega))); exact ((congrFun b26 i).trans (upd_n (by omega))); exact ((congrFun b27 i).trans (upd_n (by omega))); exact ((congrFun b28 i).trans (upd_n (by omega)))) (fun q hq => by simp only [tb3, List.mem_cons, List.not_mem_nil, or_false] at hq; rcases hq with rfl | rfl | rfl | rfl | rfl; exact (f0.trans (((congrFun b24 _).trans pk_us).symm)); exact (f1.trans (((congrFun b25 _).trans pk_us).symm)); exact (f2.trans (((congrFun b26 _).trans pk_us).symm)); exact (f3.trans (((congrFun b27 _).trans pk_us).symm)); exact (f4.trans (hR.now.trans ((congrFun b28 _).trans pk_us).symm)))),
          (TBj.km (TBj.kc (E' := E1) hR.tb4 (hcJ 4 (by decide) (by decide)) (hp.tb (J := 4) rfl)) (fun q hq j => (show ∀ r ∈ [38, 39, 45, 40, 41, 42, 43, 44], ∀ j, xi (EM1 r) j = xi (EM r) j from fun r hr9 => by simp only [List.mem_cons, List.not_mem_nil, or_false] at hr9; rcases hr9 with rfl | rfl | rfl | rfl | rfl | rfl | rfl | rfl; exact (hrx 38 (by decide) rfl); exact (hrx 39 (by decide) rfl); exact (hrx 45 (by decide) rfl); exact (hrx 40 (by decide) rfl); exact (hrx 41 (by decide) rfl); exact (hrx 42 (by decide) rfl); exact (hrx 43 (by decide) rfl); exact (hrx 44 (by decide) rfl)) _ (tbm4 q hq) j)),
          (TBj.km (TBj.kc (E' := E1) hR.tb5 (hcJ 5 (by decide) (by decide)) (hp.tb (J := 5) rfl)) (fun q hq j => (show ∀ r ∈ [46, 47, 48, 49, 50], ∀ j, xi (EM1 r) j = xi (EM r) j from fun r hr9 => by simp only [List.mem_cons, List.not_mem_nil, or_false] at hr9; rcases hr9 with rfl | rfl | rfl | rfl | rfl; exact (hrx 46 (by decide) rfl); exact (hrx 47 (by decide) rfl); exact (hrx 48 (by decide) rfl); exact (hrx 49 (by decide) rfl); exact (hrx 50 (by decide) rfl)) _ (tbm5 q hq) j)),
          (hR.eb.kc (hcJ 2 (by decide) (by decide)) hn0 hb0 (fun i hi => hp 6 i 0 (by decide) (by decide) rfl hi) (fun i j hi => hp 7 i j (by decide) (by decide) rfl hi)),
          RD.km (RD.kc (E' := E1) hR.rd (hcJ 2 (by decide) (by decide)) hn0 (fun i j hi => hp 8 i j (by decide) (by decide) rfl hi)) (hsx 48 (by decide) rfl) (hrx 29 (by decide) rfl) (hrx 30 (by decide) rfl) (hrx 31 (by decide) rfl),
          ST.km (ST.kc (E' := E1) hR.st (hcJ 2 (by decide) (by decide)) hb0 (fun i j hi => hp 9 i j (by decide) (by decide) rfl hi) (fun i j hi => hp 10 i j (by decide) (by decide) rfl hi)) (hrx 22 (by decide) rfl) (hrx 23 (by decide) rfl),
          SW.km (SW.kc (E' := E1) hR.sw (hcJ 2 (by decide) (by decide)) hn0 (fun i hi => hp 6 i 0 (by decide) (by decide) rfl hi) (fun i j hi => hp 11 i j (by decide) (by decide) rfl hi)) (hrx 19 (by decide) rfl),
          DC.km (DC.kc (E' := E1) hR.dc (hcJ 5 (by decide) (by decide)) hn0 (fun i j hi => hp 14 i j (by decide) (by decide) rfl hi)) (hrx 52 (by decide) rfl) (hrx 53 (by decide) rfl) (hrx 54 (by decide) rfl) (hrx 55 (by decide) rfl),
          (hR.tn0.kc (hcJ 0 (by decide) (by decide)) hn0 (hp.tn (J := 0) rfl)),
          (hR.tn2.kc (hcJ 2 (by decide) (by decide)) hn0 (hp.tn (J := 2) rfl)),
          (by rw [g1]; exact TNj.push hR.tn3 hn0 (hp.tn (J := 3) rfl) (fun q hq => by simp only [List.mem_cons, List.not_mem_nil, or_false] at hq; rcases hq with rfl; exact ((by show (xi (E1 (64 * (cf 3 + 1) + 12)) 4).toInt ≤ _; rw [f4, kk0]; exact Int.le_refl _)))),
          (hR.tn4.kc (hcJ 4 (by decide) (by decide)) hn0 (hp.tn (J := 4) rfl)),
          (hR.tn5.kc (hcJ 5 (by decide) (by decide)) hn0 (hp.tn (J := 5) rfl)),
          (hR.rmo.kc (hcJ 2 (by decide) (by decide)) (fun i hi => hp 6 i 0 (by decide) (by decide) rfl hi)),
          (by rw [g1]; exact ERj.push hR.er3 (Nat.le_of_eq (hcJ 2 (by decide) (by decide)).symm) hst (hp.er (J := 3) rfl) (fun q hq => by simp only [List.mem_cons, List.not_mem_nil, or_false] at hq; rcases hq with rfl; exact (⟨_, _, _, f0, f1, f4, ⟨by omega, by rw [(hcJ 2 (by decide) (by decide))]; omega⟩, ⟨by omega, by omega⟩, by rw [t0]; omega, by rw [t0]; omega⟩))),
          (hR.er4.kc (hcJ 4 (by decide) (by decide)) (Nat.le_of_eq ((hcJ 2 (by decide) (by decide))).symm) hst (hp.er (J := 4) rfl)),
          (hR.er5.kc (hcJ 5 (by decide) (by decide)) (Nat.le_of_eq ((hcJ 2 (by decide) (by decide))).symm) hst (hp.er (J := 5) rfl)),
          (hR.pne.kc (hcJ 5 (by decide) (by decide)) (fun i hi => hp 14 i 1 (by decide) (by decide) rfl hi) (fun i hi => hp 14 i 2 (by decide) (by decide) rfl hi)),
          DZ.km (DZ.kc (cf' := _) hR.dz (Nat.le_of_eq ((hcJ 5 (by decide) (by decide))).symm)) (hrx 54 (by decide) rfl) (hrx 55 (by decide) rfl),
          RRo.km (RRo.kc (cf' := _) hR.rro (Nat.le_of_eq ((hcJ 2 (by decide) (by decide))).symm)) (hsx 48 (by decide) rfl) (hrx 29 (by decide) rfl)⟩
    · have h2 := m2 gm
      obtain ⟨b24, b25, b26, b27, b28⟩ := m4 gm
      rcases hw1.2.2 with ⟨c1, -, -, n1, n2⟩ | ⟨g, -, -, y1, y2, y3⟩
      · have n3 := congrArg Int32.toInt n1
        refine ⟨by omega, ?_⟩
        exact hR.keep (fun j _ _ => congrFun c1 j) kk0 kk1 kk2 hp (kpSy [47] (kpSx [47] hw2.2.1 rfl) (fun j hq => by simp only [List.mem_cons, List.not_mem_nil, or_false] at hq; rcases hq with rfl; exact (Int32.toInt_inj.mp h2.2))) (kpRy [24, 25, 26, 27, 28] (kpRx [24, 25, 26, 27, 28] hw2.2.1 rfl) (fun r hq j => by simp only [List.mem_cons, List.not_mem_nil, or_false] at hq; rcases hq with rfl | rfl | rfl | rfl | rfl; exact (congrFun b24 j); exact (congrFun b25 j); exact (congrFun b26 j); exact (congrFun b27 j); exact (congrFun b28 j)))
      · exfalso; have hp0 := hpn (xs (i + 2).toNatClampNeg) (by omega) (by omega); omega
  have hR := hd.2
  refine lv_pop hx hb dL_law_808 rfl ?_
  refine lv_goto (tgt := 1859) hx hb dL_law_809 (by decide) ?_
  exact W.widen (k := cn + 7) (n := sn + 3300) (by omega) (by omega) (tail _ _ _ _ _ _ _ _ V ⟨⟨⟨⟨⟨hR, hT⟩, hU⟩, hG⟩, hB⟩, hRS⟩ hl)
set_option maxHeartbeats 4000000 in
set_option maxRecDepth 100000 in
theorem law_case_14 {p : Program} {e : Env} {s : State} {m : MethodId} {below : List Frame} {meth : Method} {c : Code} (l : Launch) {b L : Nat} {xs : Nat → Int32} (hL : L ≤ 4096) (C0 : lw_At p s m meth c b L xs) {A : Nat → Prop} {ed : Nat} {dC : Nat → ClassId} {dI : Nat → Nat → Nat} {cT : Nat → ClassId} {cL : ClassId} (F : FX l s A ed dC dI cT cL) {x ou : Nat} {am cf ad : Nat → Nat} {E EM : Nat → va_E} {f : Nat → Int64} {H : Heap} {locs : List Loc} (V : INV s A ed dC dI cT cL x ou am cf ad E EM f H locs) (hR : REL15 cf E EM) {i : Int32} (hi0 : 0 ≤ i.toInt) (hi8 : i.toInt + 8 ≤ (L : Int)) {cn sn : Nat} (hcn : cn + 7 ≤ 601024) (hsn : sn + 3300 ≤ 7293034) (ls : Array Slot) (hl : lv_has ls 7 [(0, .ref b), (1, .ref x), (2, .ref (am 0)), (3, .ref ou), (4, .int i)]) (tail : (∀ (cf ad : Nat → Nat) (E EM : Nat → va_E) (f : Nat → Int64) (H : Heap) (locs : List Loc) (ls : Array Slot), INV s A ed dC dI cT cL x ou am cf ad E EM f H locs → REL15 cf E EM → lv_has ls 7 [(0, .ref b), (1, .ref x), (2, .ref (am 0)), (3, .ref ou), (4, .int i)] → W p l e room_1 s m #[Value.ref b] below meth c H locs (cn + 7) (sn + 3300) (lw_Z below #[Value.ref b] s) (F0 m 1859 ls []))) : W p l e room_1 s m #[Value.ref b] below meth c H locs cn sn (lw_Z below #[Value.ref b] s) (F0 m 812 ls []) := by
  obtain ⟨hx, hb, hr, hml, hown, hts0, hX, hbl, hlocks, hgv⟩ := id C0
  have hts := fun w (h : w ∈ v_law) => hts0 w (v_law_in w h)
  have hbA : ¬ A b := F.hnA b hbl
  obtain rfl := V.hx
  obtain ⟨⟨⟨⟨⟨hR, hT⟩, hU⟩, hG⟩, hB⟩, hRS⟩ := hR
  refine lv_aload_n hx hb dL_law_812 rfl (lv_at hl 1 rfl) ?_
  refine lv_aload_n hx hb dL_law_813 rfl (lv_at hl 0 rfl) ?_
  refine lv_iload hx hb dL_law_814 (lv_at hl 4 rfl) ?_
  refine lv_iconst (v := 1) hx hb dL_law_816 (by decide) ?_
  refine lv_iadd hx hb dL_law_817 ?_
  refine va_sld hx hb hX hbl hbA V.hS (law_in (k := 1) hi0 hi8 hL (by decide) rfl) dL_law_818 ?_
  refine lv_aload_n hx hb dL_law_819 rfl (lv_at hl 0 rfl) ?_
  refine lv_iload hx hb dL_law_820 (lv_at hl 4 rfl) ?_
  refine lv_iconst (v := 2) hx hb dL_law_822 (by decide) ?_
  refine lv_iadd hx hb dL_law_823 ?_
  refine va_sld hx hb hX hbl hbA V.hS (law_in (k := 2) hi0 hi8 hL (by decide) rfl) dL_law_824 ?_
  refine lv_aload_n hx hb dL_law_825 rfl (lv_at hl 0 rfl) ?_
  refine lv_iload hx hb dL_law_826 (lv_at hl 4 rfl) ?_
  refine lv_iconst (v := 3) hx hb dL_law_828 (by decide) ?_
  refine lv_iadd hx hb dL_law_829 ?_
  refine va_sld hx hb hX hbl hbA V.hS (law_in (k := 3) hi0 hi8 hL (by decide) rfl) dL_law_830 ?_
  have hI0 := V.hI
  have hC0 := V.hC
  have hM0 := V.hM
  have bn : (0 : Int) ≤ (xi (E 1) 0).toInt ∧ (xi (E 1) 0).toInt ≤ 400 := hI0.iv 1 (mF 1 rfl) rfl (Nat.le_of_ble_eq_true rfl) rfl
  have bb : (0 : Int) ≤ (xi (E 1) 1).toInt ∧ (xi (E 1) 1).toInt ≤ 16 := hI0.iv 1 (mF 1 rfl) rfl (Nat.le_of_ble_eq_true rfl) rfl
  obtain ⟨⟨k0, k1, k2, k3, k4, k5⟩, -⟩ := id hC0
  refine lC F V (fun r u h => h.1) (va_runV (As := [.int (xs (i + 1).toNatClampNeg), .int (xs (i + 2).toNatClampNeg), .int (xs (i + 3).toNatClampNeg)]) (rest := []) ⟨hx, hb, hml, hown, hts⟩ (q_u_codedX l dC dI cT cf V.hC ad E H.size (xs (i + 1).toNatClampNeg) (xs (i + 2).toNatClampNeg) (xs (i + 3).toNatClampNeg) V.hI) (cwV 3 hts (gl_V (al_2 _ (zs4 (zs0))) (al_2 _ (zs4 (zs1 (zs0)))) (al_2 _ (zs4 (zs1 (zs1 (zs0))))) (vl_A _ (in_4 _ (zs16 (zs4 (zs1 (zs1 (zs1 (zs0)))))))) (vl_A _ (in_13 _ (zs16 (zs16 (zs1 (zs1 (zs1 (zs0))))))))) rfl rfl rfl ⟨rfl, hz_yX12_coded_3⟩ ⟨Nat.le_of_ble_eq_true rfl, Nat.le_of_ble_eq_true rfl⟩) ⟨HWL_bl, va_recv F.kc V.cp (ci := 13) (q0 := posL 0 (LC cf)) rfl (V.hI.ob 0 (mF 0 rfl) rfl), HWL_wi V.cp F.kc V.dc V.hS F.hA (V.ec F)⟩ rfl rfl hl.1 rfl (lv_room (Nat.le_of_ble_eq_true rfl)) dL_law_831 ⟨by show cn + 0 ≤ 601024; omega, by show sn + 0 ≤ 7293034; omega⟩) (fun r1 E1 H locs hw1 V => ?_)
  have hcf : ∀ j, j < 6 → j ≠ 1 → cf j = cf j := fun _ _ _ => rfl
  have k6 : xi (E1 1) 0 = xi (E 1) 0 := xik hw1.2.1 (o := 1) (j := 0) (by first | rfl | (simp [wl]; done) | (simp [wl]; omega))
  have k7 : xi (E1 1) 1 = xi (E 1) 1 := xik hw1.2.1 (o := 1) (j := 1) (by first | rfl | (simp [wl]; done) | (simp [wl]; omega))
  have k8 : xi (E1 1) 2 = xi (E 1) 2 := xik hw1.2.1 (o := 1) (j := 2) (by first | rfl | (simp [wl]; done) | (simp [wl]; omega))
  have hp : PK X0 cf E E1 := fun t i j _ _ _ _ => xik hw1.2.1 (by first | exact wl_p rfl rfl (by omega) | (simp [wl]; done) | (simp [wl]; omega))
  refine lv_pop hx hb dL_law_834 rfl ?_
  refine lv_aload_n hx hb dL_law_835 rfl (lv_at hl 2 rfl) ?_
  refine lv_aload_n hx hb dL_law_836 rfl (lv_at hl 0 rfl) ?_
  refine lv_iload hx hb dL_law_837 (lv_at hl 4 rfl) ?_
  refine lv_iconst (v := 1) hx hb dL_law_839 (by decide) ?_
  refine lv_iadd hx hb dL_law_840 ?_
  refine va_sld hx hb hX hbl hbA V.hS (law_in (k := 1) hi0 hi8 hL (by decide) rfl) dL_law_841 ?_
  refine lv_aload_n hx hb dL_law_842 rfl (lv_at hl 0 rfl) ?_
  refine lv_iload hx hb dL_law_843 (lv_at hl 4 rfl) ?_
  refine lv_iconst (v := 2) hx hb dL_law_845 (by decide) ?_
  refine lv_iadd hx hb dL_law_846 ?_
  refine va_sld hx hb hX hbl hbA V.hS (law_in (k := 2) hi0 hi8 hL (by decide) rfl) dL_law_847 ?_
  refine lv_aload_n hx hb dL_law_848 rfl (lv_at hl 0 rfl) ?_
  refine lv_iload hx hb dL_law_849 (lv_at hl 4 rfl) ?_
  refine lv_iconst (v := 3) hx hb dL_law_851 (by decide) ?_
  refine lv_iadd hx hb dL_law_852 ?_
  refine va_sld hx hb hX hbl hbA V.hS (law_in (k := 3) hi0 hi8 hL (by decide) rfl) dL_law_853 ?_
  refine lM F V (fun r u h => ⟨h.1, DIr_kp h.2.1 (fun _ => rfl) (fun _ => rfl) V.hDI⟩) (va_runV (As := [.int (xs (i + 1).toNatClampNeg), .int (xs (i + 2).toNatClampNeg), .int (xs (i + 3).toNatClampNeg)]) (rest := []) ⟨hx, hb, hml, hown, hts⟩ (q_codedM l dC dI cT am EM H.size (xs (i + 1).toNatClampNeg) (xs (i + 2).toNatClampNeg) (xs (i + 3).toNatClampNeg) V.hM) (cwV 3 hts (gl_V (al_2 _ (zs4 (zs1 (zs1 (zs1 (zs0)))))) (al_2 _ (zs4 (zs4 (zs0)))) (al_2 _ (zs4 (zs4 (zs1 (zs0))))) (vl_A _ (in_24 _ (zs4 (zs4 (zs4 (zs1 (zs1 (zs1 (zs0))))))))) (vl_A _ (in_30 _ (zs4 (zs1 (zs0)))))) rfl rfl rfl ⟨rfl, hz_yX13_coded_3⟩ ⟨Nat.le_of_ble_eq_true rfl, Nat.le_of_ble_eq_true rfl⟩) ⟨HW_bl, va_recv F.km V.pm (ci := 14) (q0 := 0) rfl (V.hM.ob 0 (Nat.le_of_ble_eq_true rfl) rfl), HW_wi V.pm F.km V.dm V.hS F.hA F.hEV⟩ rfl rfl hl.1 rfl (lv_room (Nat.le_of_ble_eq_true rfl)) dL_law_854 ⟨by show cn + 0 ≤ 601024; omega, by show sn + 0 ≤ 7293034; omega⟩) (fun r2 EM1 H locs hw2 V => ?_)
  have hRS := hRS.keep (cf' := cf) (E' := E1) rfl (fun i9 _ => xik hw1.2.1 (o := 64 * (i9 + 1) + 12) (j := 2) (by first | exact wl_p rfl rfl (by omega) | (simp [wl]; done) | (simp [wl]; omega))) (fun i9 _ => xik hw1.2.1 (o := 64 * (i9 + 1) + 12) (j := 3) (by first | exact wl_p rfl rfl (by omega) | (simp [wl]; done) | (simp [wl]; omega)))
  have hb9 : (xi (E 1) 1).toInt ≤ (xi (E1 1) 1).toInt := by rw [show xi (E1 1) 1 = xi (E 1) 1 from xik hw1.2.1 (o := 1) (j := 1) (by first | rfl | (simp [wl]; done) | (simp [wl]; omega))]; exact Int.le_refl _
  have hB := hB.keep (cf' := cf) (E' := E1) rfl hb9 (fun i9 _ => xik hw1.2.1 (o := 64 * (i9 + 1) + 0) (j := 0) (by first | exact wl_p rfl rfl (by omega) | (simp [wl]; done) | (simp [wl]; omega)))
  have hG9 := hG
  have hT9 := hT
  have hT := hT.keep (cf' := cf) (E' := E1) rfl (xik hw1.2.1 (o := 2) (j := 1) (by first | rfl | (simp [wl]; done) | (simp [wl]; omega))) (fun j9 => xik hw1.2.1 (o := 21) (j := j9) (by first | rfl | (simp [wl]; done) | (simp [wl]; omega))) (fun i9 j9 _ => xik hw1.2.1 (o := 64 * (i9 + 1) + 1) (j := j9) (by first | exact wl_p rfl rfl (by omega) | (simp [wl]; done) | (simp [wl]; omega))) (xik hw2.2.1 (o := 0) (j := 16) rfl) (xik hw2.2.1 (o := 0) (j := 17) rfl) (fun j9 => xik hw2.2.1 (o := 7) (j := j9) rfl) (fun j9 => xik hw2.2.1 (o := 10) (j := j9) rfl) (fun j9 => xik hw2.2.1 (o := 11) (j := j9) rfl)
  have hU := hU.keep (cf' := cf) (E' := E1) rfl (fun _ _ => ⟨rfl, rfl⟩) (fun i9 _ t9 _ _ j9 => xik hw1.2.1 (o := 64 * (i9 + 1) + t9) (j := j9) (by first | exact wl_p rfl rfl (by omega) | (simp [wl]; done) | (simp [wl]; omega))) (fun j9 => xik hw2.2.1 (o := 8) (j := j9) rfl) (fun j9 => xik hw2.2.1 (o := 9) (j := j9) rfl)
  have hG := hG.keep (cf' := cf) (E' := E1) rfl (fun i9 j9 _ => xik hw1.2.1 (o := 64 * (i9 + 1) + 14) (j := j9) (by first | exact wl_p rfl rfl (by omega) | (simp [wl]; done) | (simp [wl]; omega))) (fun j9 => xik hw2.2.1 (o := 51) (j := j9) rfl)
  have e0 : (xi (E 1) 0).toInt = (xi (EM 0) 1).toInt := congrArg Int32.toInt hR.now
  have e1 : (xi (E 1) 1).toInt = (xi (EM 0) 8).toInt := congrArg Int32.toInt hR.boats
  have e2 : (xi (E 1) 2).toInt = (xi (EM 0) 48).toInt := congrArg Int32.toInt hR.red
  obtain ⟨q0, q2, q3, q4, q5⟩ := hR.cnt
  have lm : (-1 : Int32).toInt = -1 := rfl
  have l0 : (0 : Int32).toInt = 0 := rfl
  have l1 : (1 : Int32).toInt = 1 := rfl
  have l2 : (2 : Int32).toInt = 2 := rfl
  have lk : (1000 : Int32).toInt = 1000 := rfl
  have hd : r1.toInt = r2.toInt ∧ True := by
    obtain ⟨-, -, p1, p2⟩ := id hw1
    obtain ⟨-, -, m1, m2⟩ := id hw2
    refine ⟨?_, trivial⟩
    have ht : 0 ≤ (xs (i + 1).toNatClampNeg).toInt ∧ (xs (i + 1).toNatClampNeg).toInt < ((cf 2 : Nat) : Int) → (xi (E (64 * ((xs (i + 1).toNatClampNeg).toNatClampNeg + 1) + 6)) 0).toInt = (xi (EM 20) (xs (i + 1).toNatClampNeg).toInt.toNat).toInt := fun z => congrArg Int32.toInt (hR.tb2 (6, 0, 20) (by decide) (xs (i + 1).toNatClampNeg).toNatClampNeg (by rw [tn_]; omega))
    by_cases g : ((0 ≤ (xs (i + 3).toNatClampNeg).toInt ∧ (xs (i + 3).toNatClampNeg).toInt ≤ (xi (E 1) 0).toInt) ∧ (0 ≤ (xs (i + 1).toNatClampNeg).toInt ∧ (xs (i + 1).toNatClampNeg).toInt < ((cf 2 : Nat) : Int)) ∧ (xi (E (64 * ((xs (i + 1).toNatClampNeg).toNatClampNeg + 1) + 6)) 0).toInt ≤ (xs (i + 3).toNatClampNeg).toInt) ∧ (0 ≤ (xs (i + 2).toNatClampNeg).toInt ∧ (xs (i + 2).toNatClampNeg).toInt < (xi (E 1) 1).toInt)
    · have h1 := p1 g
      have ht := ht g.1.2.1
      have hen := pen (n := (xs (i + 3).toNatClampNeg).toInt) hR.en hM0 (by omega) (by omega) (xs (i + 1).toNatClampNeg) (xs (i + 2).toNatClampNeg) g.1.2.1 (by omega)
      by_cases en : entMd EM (xs (i + 1).toNatClampNeg).toInt (xs (i + 2).toNatClampNeg).toInt (xs (i + 3).toNatClampNeg).toInt
      · have h2 := m1 ⟨⟨by omega, by omega, by omega, by omega⟩, en⟩
        exact (cd_eq (a := (xs (i + 1).toNatClampNeg)) (b := (xs (i + 2).toNatClampNeg)) (q := (xs (i + 3).toNatClampNeg)) hR hG9 (by omega) (by omega) (by omega) (by omega) hen h1 h2).1 en
      · have h2 := m2 (fun z => en z.2)
        have h3 := ((cd_eq (a := (xs (i + 1).toNatClampNeg)) (b := (xs (i + 2).toNatClampNeg)) (q := (xs (i + 3).toNatClampNeg)) hR hG9 (by omega) (by omega) (by omega) (by omega) hen h1 (show CdM EM (xs (i + 1).toNatClampNeg) (xs (i + 2).toNatClampNeg) (xs (i + 3).toNatClampNeg) 2 from ⟨fun _ => rfl, fun z => absurd z en⟩)).2 en).1
        omega
    · have h1 := p2 g
      have h2 := m2 (fun z => g (by have z2 := ht (by omega); exact ⟨⟨by omega, by omega, by omega⟩, by omega⟩))
      omega
  have hR := hR.keep hcf k6 k7 k8 hp (kpS hw2.2.1 rfl) (kpR hw2.2.1 rfl)
  refine lv_pop hx hb dL_law_857 rfl ?_
  refine lv_goto (tgt := 1859) hx hb dL_law_858 (by decide) ?_
  exact W.widen (k := cn + 7) (n := sn + 3300) (by omega) (by omega) (tail _ _ _ _ _ _ _ _ V ⟨⟨⟨⟨⟨hR, hT⟩, hU⟩, hG⟩, hB⟩, hRS⟩ hl)
set_option maxHeartbeats 4000000 in
set_option maxRecDepth 100000 in
theorem law_case_15 {p : Program} {e : Env} {s : State} {m : MethodId} {below : List Frame} {meth : Method} {c : Code} (l : Launch) {b L : Nat} {xs : Nat → Int32} (hL : L ≤ 4096) (C0 : lw_At p s m meth c b L xs) {A : Nat → Prop} {ed : Nat} {dC : Nat → ClassId} {dI : Nat → Nat → Nat} {cT : Nat → ClassId} {cL : ClassId} (F : FX l s A ed dC dI cT cL) {x ou : Nat} {am cf ad : Nat → Nat} {E EM : Nat → va_E} {f : Nat → Int64} {H : Heap} {locs : List Loc} (V : INV s A ed dC dI cT cL x ou am cf ad E EM f H locs) (hR : REL15 cf E EM) {i : Int32} (hi0 : 0 ≤ i.toInt) (hi8 : i.toInt + 8 ≤ (L : Int)) {cn sn : Nat} (hcn : cn + 7 ≤ 601024) (hsn : sn + 3300 ≤ 7293034) (ls : Array Slot) (hl : lv_has ls 7 [(0, .ref b), (1, .ref x), (2, .ref (am 0)), (3, .ref ou), (4, .int i)]) (tail : (∀ (cf ad : Nat → Nat) (E EM : Nat → va_E) (f : Nat → Int64) (H : Heap) (locs : List Loc) (ls : Array Slot), INV s A ed dC dI cT cL x ou am cf ad E EM f H locs → REL15 cf E EM → lv_has ls 7 [(0, .ref b), (1, .ref x), (2, .ref (am 0)), (3, .ref ou), (4, .int i)] → W p l e room_1 s m #[Value.ref b] below meth c H locs (cn + 7) (sn + 3300) (lw_Z below #[Value.ref b] s) (F0 m 1859 ls []))) : W p l e room_1 s m #[Value.ref b] below meth c H locs cn sn (lw_Z below #[Value.ref b] s) (F0 m 861 ls []) := by
  obtain ⟨hx, hb, hr, hml, hown, hts0, hX, hbl, hlocks, hgv⟩ := id C0
  have hts := fun w (h : w ∈ v_law) => hts0 w (v_law_in w h)
  have hbA : ¬ A b := F.hnA b hbl
  obtain rfl := V.hx
  obtain ⟨⟨⟨⟨⟨hR, hT⟩, hU⟩, hG⟩, hB⟩, hRS⟩ := hR
  refine lv_aload_n hx hb dL_law_861 rfl (lv_at hl 1 rfl) ?_
  refine lv_aload_n hx hb dL_law_862 rfl (lv_at hl 0 rfl) ?_
  refine lv_iload hx hb dL_law_863 (lv_at hl 4 rfl) ?_
  refine lv_iconst (v := 1) hx hb dL_law_865 (by decide) ?_
  refine lv_iadd hx hb dL_law_866 ?_
  refine va_sld hx hb hX hbl hbA V.hS (law_in (k := 1) hi0 hi8 hL (by decide) rfl) dL_law_867 ?_
  refine lv_aload_n hx hb dL_law_868 rfl (lv_at hl 0 rfl) ?_
  refine lv_iload hx hb dL_law_869 (lv_at hl 4 rfl) ?_
  refine lv_iconst (v := 2) hx hb dL_law_871 (by decide) ?_
  refine lv_iadd hx hb dL_law_872 ?_
  refine va_sld hx hb hX hbl hbA V.hS (law_in (k := 2) hi0 hi8 hL (by decide) rfl) dL_law_873 ?_
  refine lv_aload_n hx hb dL_law_874 rfl (lv_at hl 0 rfl) ?_
  refine lv_iload hx hb dL_law_875 (lv_at hl 4 rfl) ?_
  refine lv_iconst (v := 3) hx hb dL_law_877 (by decide) ?_
  refine lv_iadd hx hb dL_law_878 ?_
  refine va_sld hx hb hX hbl hbA V.hS (law_in (k := 3) hi0 hi8 hL (by decide) rfl) dL_law_879 ?_
  have hI0 := V.hI
  have hC0 := V.hC
  have hM0 := V.hM
  have bn : (0 : Int) ≤ (xi (E 1) 0).toInt ∧ (xi (E 1) 0).toInt ≤ 400 := hI0.iv 1 (mF 1 rfl) rfl (Nat.le_of_ble_eq_true rfl) rfl
  have bb : (0 : Int) ≤ (xi (E 1) 1).toInt ∧ (xi (E 1) 1).toInt ≤ 16 := hI0.iv 1 (mF 1 rfl) rfl (Nat.le_of_ble_eq_true rfl) rfl
  obtain ⟨⟨k0, k1, k2, k3, k4, k5⟩, -⟩ := id hC0
  refine lC F V (fun r u h => h.1) (va_runV (As := [.int (xs (i + 1).toNatClampNeg), .int (xs (i + 2).toNatClampNeg), .int (xs (i + 3).toNatClampNeg)]) (rest := []) ⟨hx, hb, hml, hown, hts⟩ (q_u_correctedX l dC dI cT cf V.hC ad E H.size (xs (i + 1).toNatClampNeg) (xs (i + 2).toNatClampNeg) (xs (i + 3).toNatClampNeg) V.hI hU.1) (cwV 3 hts (gl_V (al_2 _ (zs4 (zs4 (zs1 (zs1 (zs0)))))) (al_2 _ (zs4 (zs4 (zs1 (zs1 (zs1 (zs0))))))) (al_2 _ (zs4 (zs4 (zs4 (zs0))))) (vl_A _ (in_4 _ (zs16 (zs4 (zs1 (zs1 (zs1 (zs0)))))))) (vl_A _ (in_14 _ (zs1 (zs1 (zs0)))))) rfl rfl rfl ⟨rfl, hz_yX12_corrected_3⟩ ⟨Nat.le_of_ble_eq_true rfl, Nat.le_of_ble_eq_true rfl⟩) ⟨HWL_bl, va_recv F.kc V.cp (ci := 13) (q0 := posL 0 (LC cf)) rfl (V.hI.ob 0 (mF 0 rfl) rfl), HWL_wi V.cp F.kc V.dc V.hS F.hA (V.ec F)⟩ rfl rfl hl.1 rfl (lv_room (Nat.le_of_ble_eq_true rfl)) dL_law_880 ⟨by show cn + 0 ≤ 601024; omega, by show sn + 0 ≤ 7293034; omega⟩) (fun r1 E1 H locs hw1 V => ?_)
  have hcf : ∀ j, j < 6 → j ≠ 1 → cf j = cf j := fun _ _ _ => rfl
  have k6 : xi (E1 1) 0 = xi (E 1) 0 := xik hw1.2.1 (o := 1) (j := 0) (by first | rfl | (simp [wl]; done) | (simp [wl]; omega))
  have k7 : xi (E1 1) 1 = xi (E 1) 1 := xik hw1.2.1 (o := 1) (j := 1) (by first | rfl | (simp [wl]; done) | (simp [wl]; omega))
  have k8 : xi (E1 1) 2 = xi (E 1) 2 := xik hw1.2.1 (o := 1) (j := 2) (by first | rfl | (simp [wl]; done) | (simp [wl]; omega))
  have hp : PK X0 cf E E1 := fun t i j _ _ _ _ => xik hw1.2.1 (by first | exact wl_p rfl rfl (by omega) | (simp [wl]; done) | (simp [wl]; omega))
  refine lv_pop hx hb dL_law_883 rfl ?_
  refine lv_aload_n hx hb dL_law_884 rfl (lv_at hl 2 rfl) ?_
  refine lv_aload_n hx hb dL_law_885 rfl (lv_at hl 0 rfl) ?_
  refine lv_iload hx hb dL_law_886 (lv_at hl 4 rfl) ?_
  refine lv_iconst (v := 1) hx hb dL_law_888 (by decide) ?_
  refine lv_iadd hx hb dL_law_889 ?_
  refine va_sld hx hb hX hbl hbA V.hS (law_in (k := 1) hi0 hi8 hL (by decide) rfl) dL_law_890 ?_
  refine lv_aload_n hx hb dL_law_891 rfl (lv_at hl 0 rfl) ?_
  refine lv_iload hx hb dL_law_892 (lv_at hl 4 rfl) ?_
  refine lv_iconst (v := 2) hx hb dL_law_894 (by decide) ?_
  refine lv_iadd hx hb dL_law_895 ?_
  refine va_sld hx hb hX hbl hbA V.hS (law_in (k := 2) hi0 hi8 hL (by decide) rfl) dL_law_896 ?_
  refine lv_aload_n hx hb dL_law_897 rfl (lv_at hl 0 rfl) ?_
  refine lv_iload hx hb dL_law_898 (lv_at hl 4 rfl) ?_
  refine lv_iconst (v := 3) hx hb dL_law_900 (by decide) ?_
  refine lv_iadd hx hb dL_law_901 ?_
  refine va_sld hx hb hX hbl hbA V.hS (law_in (k := 3) hi0 hi8 hL (by decide) rfl) dL_law_902 ?_
  refine lM F V (fun r u h => ⟨h.1, DIr_kp h.2.1 (fun _ => rfl) (fun _ => rfl) V.hDI⟩) (va_runV (As := [.int (xs (i + 1).toNatClampNeg), .int (xs (i + 2).toNatClampNeg), .int (xs (i + 3).toNatClampNeg)]) (rest := []) ⟨hx, hb, hml, hown, hts⟩ (q_correctedM l dC dI cT am EM H.size (xs (i + 1).toNatClampNeg) (xs (i + 2).toNatClampNeg) (xs (i + 3).toNatClampNeg) V.hM (hU.ru hT).txm) (cwV 3 hts (gl_V (al_2 _ (zs4 (zs4 (zs4 (zs1 (zs0)))))) (al_2 _ (zs4 (zs4 (zs4 (zs1 (zs1 (zs0))))))) (al_2 _ (zs4 (zs4 (zs4 (zs1 (zs1 (zs1 (zs0)))))))) (vl_A _ (in_24 _ (zs4 (zs4 (zs4 (zs1 (zs1 (zs1 (zs0))))))))) (vl_A _ (in_30 _ (zs4 (zs4 (zs1 (zs1 (zs1 (zs0))))))))) rfl rfl rfl ⟨rfl, hz_yX13_corrected_3⟩ ⟨Nat.le_of_ble_eq_true rfl, Nat.le_of_ble_eq_true rfl⟩) ⟨HW_bl, va_recv F.km V.pm (ci := 14) (q0 := 0) rfl (V.hM.ob 0 (Nat.le_of_ble_eq_true rfl) rfl), HW_wi V.pm F.km V.dm V.hS F.hA F.hEV⟩ rfl rfl hl.1 rfl (lv_room (Nat.le_of_ble_eq_true rfl)) dL_law_903 ⟨by show cn + 0 ≤ 601024; omega, by show sn + 0 ≤ 7293034; omega⟩) (fun r2 EM1 H locs hw2 V => ?_)
  have hRS := hRS.keep (cf' := cf) (E' := E1) rfl (fun i9 _ => xik hw1.2.1 (o := 64 * (i9 + 1) + 12) (j := 2) (by first | exact wl_p rfl rfl (by omega) | (simp [wl]; done) | (simp [wl]; omega))) (fun i9 _ => xik hw1.2.1 (o := 64 * (i9 + 1) + 12) (j := 3) (by first | exact wl_p rfl rfl (by omega) | (simp [wl]; done) | (simp [wl]; omega)))
  have hb9 : (xi (E 1) 1).toInt ≤ (xi (E1 1) 1).toInt := by rw [show xi (E1 1) 1 = xi (E 1) 1 from xik hw1.2.1 (o := 1) (j := 1) (by first | rfl | (simp [wl]; done) | (simp [wl]; omega))]; exact Int.le_refl _
  have hB := hB.keep (cf' := cf) (E' := E1) rfl hb9 (fun i9 _ => xik hw1.2.1 (o := 64 * (i9 + 1) + 0) (j := 0) (by first | exact wl_p rfl rfl (by omega) | (simp [wl]; done) | (simp [wl]; omega)))
  have hG9 := hG
  have hT9 := hT
  have hU9 := hU
  have hT := hT.keep (cf' := cf) (E' := E1) rfl (xik hw1.2.1 (o := 2) (j := 1) (by first | rfl | (simp [wl]; done) | (simp [wl]; omega))) (fun j9 => xik hw1.2.1 (o := 21) (j := j9) (by first | rfl | (simp [wl]; done) | (simp [wl]; omega))) (fun i9 j9 _ => xik hw1.2.1 (o := 64 * (i9 + 1) + 1) (j := j9) (by first | exact wl_p rfl rfl (by omega) | (simp [wl]; done) | (simp [wl]; omega))) (xik hw2.2.1 (o := 0) (j := 16) rfl) (xik hw2.2.1 (o := 0) (j := 17) rfl) (fun j9 => xik hw2.2.1 (o := 7) (j := j9) rfl) (fun j9 => xik hw2.2.1 (o := 10) (j := j9) rfl) (fun j9 => xik hw2.2.1 (o := 11) (j := j9) rfl)
  have hU := hU.keep (cf' := cf) (E' := E1) rfl (fun _ _ => ⟨rfl, rfl⟩) (fun i9 _ t9 _ _ j9 => xik hw1.2.1 (o := 64 * (i9 + 1) + t9) (j := j9) (by first | exact wl_p rfl rfl (by omega) | (simp [wl]; done) | (simp [wl]; omega))) (fun j9 => xik hw2.2.1 (o := 8) (j := j9) rfl) (fun j9 => xik hw2.2.1 (o := 9) (j := j9) rfl)
  have hG := hG.keep (cf' := cf) (E' := E1) rfl (fun i9 j9 _ => xik hw1.2.1 (o := 64 * (i9 + 1) + 14) (j := j9) (by first | exact wl_p rfl rfl (by omega) | (simp [wl]; done) | (simp [wl]; omega))) (fun j9 => xik hw2.2.1 (o := 51) (j := j9) rfl)
  have e0 : (xi (E 1) 0).toInt = (xi (EM 0) 1).toInt := congrArg Int32.toInt hR.now
  have e1 : (xi (E 1) 1).toInt = (xi (EM 0) 8).toInt := congrArg Int32.toInt hR.boats
  have e2 : (xi (E 1) 2).toInt = (xi (EM 0) 48).toInt := congrArg Int32.toInt hR.red
  obtain ⟨q0, q2, q3, q4, q5⟩ := hR.cnt
  have lm : (-1 : Int32).toInt = -1 := rfl
  have l0 : (0 : Int32).toInt = 0 := rfl
  have l1 : (1 : Int32).toInt = 1 := rfl
  have l2 : (2 : Int32).toInt = 2 := rfl
  have lk : (1000 : Int32).toInt = 1000 := rfl
  have hd : r1.toInt = r2.toInt ∧ True := by
    obtain ⟨-, -, p1, p2⟩ := id hw1
    obtain ⟨-, -, m1, m2⟩ := id hw2
    refine ⟨?_, trivial⟩
    have ht : 0 ≤ (xs (i + 1).toNatClampNeg).toInt ∧ (xs (i + 1).toNatClampNeg).toInt < ((cf 2 : Nat) : Int) → (xi (E (64 * ((xs (i + 1).toNatClampNeg).toNatClampNeg + 1) + 6)) 0).toInt = (xi (EM 20) (xs (i + 1).toNatClampNeg).toInt.toNat).toInt := fun z => congrArg Int32.toInt (hR.tb2 (6, 0, 20) (by decide) (xs (i + 1).toNatClampNeg).toNatClampNeg (by rw [tn_]; omega))
    by_cases g : ((0 ≤ (xs (i + 3).toNatClampNeg).toInt ∧ (xs (i + 3).toNatClampNeg).toInt ≤ (xi (E 1) 0).toInt) ∧ (0 ≤ (xs (i + 1).toNatClampNeg).toInt ∧ (xs (i + 1).toNatClampNeg).toInt < ((cf 2 : Nat) : Int)) ∧ (xi (E (64 * ((xs (i + 1).toNatClampNeg).toNatClampNeg + 1) + 6)) 0).toInt ≤ (xs (i + 3).toNatClampNeg).toInt) ∧ (0 ≤ (xs (i + 2).toNatClampNeg).toInt ∧ (xs (i + 2).toNatClampNeg).toInt < (xi (E 1) 1).toInt)
    · have h1 := p1 g
      have ht := ht g.1.2.1
      have hb16 : (xs (i + 2).toNatClampNeg).toNatClampNeg < 16 := by rw [tn_]; omega
      have hbn : nI (xs (i + 2).toNatClampNeg).toNatClampNeg = (xs (i + 2).toNatClampNeg) := nI_tn (by omega)
      have hF := fn_eq (a := (xs (i + 1).toNatClampNeg)) (q := (xs (i + 3).toNatClampNeg)) hR hG9 hM0 (by omega) (by omega) g.1.2.1 (by omega) hb16
      rw [hbn] at hF
      by_cases z : CdM EM (xs (i + 1).toNatClampNeg) (xs (i + 2).toNatClampNeg) (xs (i + 3).toNatClampNeg) 0
      · have h2 := m1 ⟨⟨⟨by omega, by omega, by omega, by omega⟩, CdM_ent z⟩, z⟩
        have hc := hF.mpr z
        have h3 := tm_eq (a := (xs (i + 1).toNatClampNeg)) (q := (xs (i + 3).toNatClampNeg)) hR (hU9.ru hT9) (by omega) (by omega) (by omega) g.1.2.1 hb16 hc
        have h4 : tmM EM (xs (i + 1).toNatClampNeg) (xs (i + 3).toNatClampNeg) (xs (i + 2).toNatClampNeg).toNatClampNeg = tmB EM (xs (i + 1).toNatClampNeg) (xs (i + 2).toNatClampNeg) (xs (i + 3).toNatClampNeg) := by show tmB EM (xs (i + 1).toNatClampNeg) (nI (xs (i + 2).toNatClampNeg).toNatClampNeg) (xs (i + 3).toNatClampNeg) = _; rw [hbn]
        rw [h1.1 hc, h2, h3, h4]
      · have h2 := m2 (fun z2 => z z2.2)
        have h3 := h1.2 (fun z2 => z (hF.mp z2))
        omega
    · have h1 := p2 g
      have h2 := m2 (fun z => g (by have z1 := z.1; have z2 := ht (by omega); exact ⟨⟨by omega, by omega, by omega⟩, by omega⟩))
      omega
  have hR := hR.keep hcf k6 k7 k8 hp (kpS hw2.2.1 rfl) (kpR hw2.2.1 rfl)
  refine lv_pop hx hb dL_law_906 rfl ?_
  refine lv_goto (tgt := 1859) hx hb dL_law_907 (by decide) ?_
  exact W.widen (k := cn + 7) (n := sn + 3300) (by omega) (by omega) (tail _ _ _ _ _ _ _ _ V ⟨⟨⟨⟨⟨hR, hT⟩, hU⟩, hG⟩, hB⟩, hRS⟩ hl)
set_option maxHeartbeats 4000000 in
set_option maxRecDepth 100000 in
theorem law_case_16 {p : Program} {e : Env} {s : State} {m : MethodId} {below : List Frame} {meth : Method} {c : Code} (l : Launch) {b L : Nat} {xs : Nat → Int32} (hL : L ≤ 4096) (C0 : lw_At p s m meth c b L xs) {A : Nat → Prop} {ed : Nat} {dC : Nat → ClassId} {dI : Nat → Nat → Nat} {cT : Nat → ClassId} {cL : ClassId} (F : FX l s A ed dC dI cT cL) {x ou : Nat} {am cf ad : Nat → Nat} {E EM : Nat → va_E} {f : Nat → Int64} {H : Heap} {locs : List Loc} (V : INV s A ed dC dI cT cL x ou am cf ad E EM f H locs) (hR : REL15 cf E EM) {i : Int32} (hi0 : 0 ≤ i.toInt) (hi8 : i.toInt + 8 ≤ (L : Int)) {cn sn : Nat} (hcn : cn + 7 ≤ 601024) (hsn : sn + 3300 ≤ 7293034) (ls : Array Slot) (hl : lv_has ls 7 [(0, .ref b), (1, .ref x), (2, .ref (am 0)), (3, .ref ou), (4, .int i)]) (tail : (∀ (cf ad : Nat → Nat) (E EM : Nat → va_E) (f : Nat → Int64) (H : Heap) (locs : List Loc) (ls : Array Slot), INV s A ed dC dI cT cL x ou am cf ad E EM f H locs → REL15 cf E EM → lv_has ls 7 [(0, .ref b), (1, .ref x), (2, .ref (am 0)), (3, .ref ou), (4, .int i)] → W p l e room_1 s m #[Value.ref b] below meth c H locs (cn + 7) (sn + 3300) (lw_Z below #[Value.ref b] s) (F0 m 1859 ls []))) : W p l e room_1 s m #[Value.ref b] below meth c H locs cn sn (lw_Z below #[Value.ref b] s) (F0 m 910 ls []) := by
  obtain ⟨hx, hb, hr, hml, hown, hts0, hX, hbl, hlocks, hgv⟩ := id C0
  have hts := fun w (h : w ∈ v_law) => hts0 w (v_law_in w h)
  have hbA : ¬ A b := F.hnA b hbl
  obtain rfl := V.hx
  obtain ⟨⟨⟨⟨⟨hR, hT⟩, hU⟩, hG⟩, hB⟩, hRS⟩ := hR
  refine lv_aload_n hx hb dL_law_910 rfl (lv_at hl 1 rfl) ?_
  refine lv_aload_n hx hb dL_law_911 rfl (lv_at hl 0 rfl) ?_
  refine lv_iload hx hb dL_law_912 (lv_at hl 4 rfl) ?_
  refine lv_iconst (v := 1) hx hb dL_law_914 (by decide) ?_
  refine lv_iadd hx hb dL_law_915 ?_
  refine va_sld hx hb hX hbl hbA V.hS (law_in (k := 1) hi0 hi8 hL (by decide) rfl) dL_law_916 ?_
  refine lv_aload_n hx hb dL_law_917 rfl (lv_at hl 0 rfl) ?_
  refine lv_iload hx hb dL_law_918 (lv_at hl 4 rfl) ?_
  refine lv_iconst (v := 2) hx hb dL_law_920 (by decide) ?_
  refine lv_iadd hx hb dL_law_921 ?_
  refine va_sld hx hb hX hbl hbA V.hS (law_in (k := 2) hi0 hi8 hL (by decide) rfl) dL_law_922 ?_
  refine lv_aload_n hx hb dL_law_923 rfl (lv_at hl 0 rfl) ?_
  refine lv_iload hx hb dL_law_924 (lv_at hl 4 rfl) ?_
  refine lv_iconst (v := 3) hx hb dL_law_926 (by decide) ?_
  refine lv_iadd hx hb dL_law_927 ?_
  refine va_sld hx hb hX hbl hbA V.hS (law_in (k := 3) hi0 hi8 hL (by decide) rfl) dL_law_928 ?_
  have hI0 := V.hI
  have hC0 := V.hC
  have hM0 := V.hM
  have bn : (0 : Int) ≤ (xi (E 1) 0).toInt ∧ (xi (E 1) 0).toInt ≤ 400 := hI0.iv 1 (mF 1 rfl) rfl (Nat.le_of_ble_eq_true rfl) rfl
  have bb : (0 : Int) ≤ (xi (E 1) 1).toInt ∧ (xi (E 1) 1).toInt ≤ 16 := hI0.iv 1 (mF 1 rfl) rfl (Nat.le_of_ble_eq_true rfl) rfl
  obtain ⟨⟨k0, k1, k2, k3, k4, k5⟩, -⟩ := id hC0
  refine lC F V (fun r u h => h.1) (va_runV (As := [.int (xs (i + 1).toNatClampNeg), .int (xs (i + 2).toNatClampNeg), .int (xs (i + 3).toNatClampNeg)]) (rest := []) ⟨hx, hb, hml, hown, hts⟩ (q_u_placedX l dC dI cT cf V.hC ad E H.size (xs (i + 1).toNatClampNeg) (xs (i + 2).toNatClampNeg) (xs (i + 3).toNatClampNeg) V.hI hU.1) (cwV 3 hts (gl_V (al_2 _ (zs16 (zs0))) (al_2 _ (zs16 (zs1 (zs0)))) (al_2 _ (zs16 (zs1 (zs1 (zs0))))) (vl_A _ (in_4 _ (zs16 (zs4 (zs1 (zs1 (zs1 (zs0)))))))) (vl_A _ (in_20 _ (zs1 (zs1 (zs1 (zs0))))))) rfl rfl rfl ⟨rfl, hz_yX12_placed_3⟩ ⟨Nat.le_of_ble_eq_true rfl, Nat.le_of_ble_eq_true rfl⟩) ⟨HWL_bl, va_recv F.kc V.cp (ci := 13) (q0 := posL 0 (LC cf)) rfl (V.hI.ob 0 (mF 0 rfl) rfl), HWL_wi V.cp F.kc V.dc V.hS F.hA (V.ec F)⟩ rfl rfl hl.1 rfl (lv_room (Nat.le_of_ble_eq_true rfl)) dL_law_929 ⟨by show cn + 0 ≤ 601024; omega, by show sn + 0 ≤ 7293034; omega⟩) (fun r1 E1 H locs hw1 V => ?_)
  have hcf : ∀ j, j < 6 → j ≠ 1 → cf j = cf j := fun _ _ _ => rfl
  have k6 : xi (E1 1) 0 = xi (E 1) 0 := xik hw1.2.1 (o := 1) (j := 0) (by first | rfl | (simp [wl]; done) | (simp [wl]; omega))
  have k7 : xi (E1 1) 1 = xi (E 1) 1 := xik hw1.2.1 (o := 1) (j := 1) (by first | rfl | (simp [wl]; done) | (simp [wl]; omega))
  have k8 : xi (E1 1) 2 = xi (E 1) 2 := xik hw1.2.1 (o := 1) (j := 2) (by first | rfl | (simp [wl]; done) | (simp [wl]; omega))
  have hp : PK X0 cf E E1 := fun t i j _ _ _ _ => xik hw1.2.1 (by first | exact wl_p rfl rfl (by omega) | (simp [wl]; done) | (simp [wl]; omega))
  refine lv_pop hx hb dL_law_932 rfl ?_
  refine lv_aload_n hx hb dL_law_933 rfl (lv_at hl 2 rfl) ?_
  refine lv_aload_n hx hb dL_law_934 rfl (lv_at hl 0 rfl) ?_
  refine lv_iload hx hb dL_law_935 (lv_at hl 4 rfl) ?_
  refine lv_iconst (v := 1) hx hb dL_law_937 (by decide) ?_
  refine lv_iadd hx hb dL_law_938 ?_
  refine va_sld hx hb hX hbl hbA V.hS (law_in (k := 1) hi0 hi8 hL (by decide) rfl) dL_law_939 ?_
  refine lv_aload_n hx hb dL_law_940 rfl (lv_at hl 0 rfl) ?_
  refine lv_iload hx hb dL_law_941 (lv_at hl 4 rfl) ?_
  refine lv_iconst (v := 2) hx hb dL_law_943 (by decide) ?_
  refine lv_iadd hx hb dL_law_944 ?_
  refine va_sld hx hb hX hbl hbA V.hS (law_in (k := 2) hi0 hi8 hL (by decide) rfl) dL_law_945 ?_
  refine lv_aload_n hx hb dL_law_946 rfl (lv_at hl 0 rfl) ?_
  refine lv_iload hx hb dL_law_947 (lv_at hl 4 rfl) ?_
  refine lv_iconst (v := 3) hx hb dL_law_949 (by decide) ?_
  refine lv_iadd hx hb dL_law_950 ?_
  refine va_sld hx hb hX hbl hbA V.hS (law_in (k := 3) hi0 hi8 hL (by decide) rfl) dL_law_951 ?_
  refine lM F V (fun r u h => ⟨h.1, DIr_kp h.2.1 (fun _ => rfl) (fun _ => rfl) V.hDI⟩) (va_runV (As := [.int (xs (i + 1).toNatClampNeg), .int (xs (i + 2).toNatClampNeg), .int (xs (i + 3).toNatClampNeg)]) (rest := []) ⟨hx, hb, hml, hown, hts⟩ (q_placedM l dC dI cT am EM H.size (xs (i + 1).toNatClampNeg) (xs (i + 2).toNatClampNeg) (xs (i + 3).toNatClampNeg) V.hM (hU.ru hT).txm) (cwV 3 hts (gl_V (al_2 _ (zs16 (zs1 (zs1 (zs1 (zs0)))))) (al_2 _ (zs16 (zs4 (zs0)))) (al_2 _ (zs16 (zs4 (zs1 (zs0))))) (vl_A _ (in_24 _ (zs4 (zs4 (zs4 (zs1 (zs1 (zs1 (zs0))))))))) (vl_A _ (in_32 _ (zs16 (zs4 (zs4 (zs4 (zs1 (zs1 (zs0)))))))))) rfl rfl rfl ⟨rfl, hz_yX13_placed_3⟩ ⟨Nat.le_of_ble_eq_true rfl, Nat.le_of_ble_eq_true rfl⟩) ⟨HW_bl, va_recv F.km V.pm (ci := 14) (q0 := 0) rfl (V.hM.ob 0 (Nat.le_of_ble_eq_true rfl) rfl), HW_wi V.pm F.km V.dm V.hS F.hA F.hEV⟩ rfl rfl hl.1 rfl (lv_room (Nat.le_of_ble_eq_true rfl)) dL_law_952 ⟨by show cn + 0 ≤ 601024; omega, by show sn + 0 ≤ 7293034; omega⟩) (fun r2 EM1 H locs hw2 V => ?_)
  have hRS := hRS.keep (cf' := cf) (E' := E1) rfl (fun i9 _ => xik hw1.2.1 (o := 64 * (i9 + 1) + 12) (j := 2) (by first | exact wl_p rfl rfl (by omega) | (simp [wl]; done) | (simp [wl]; omega))) (fun i9 _ => xik hw1.2.1 (o := 64 * (i9 + 1) + 12) (j := 3) (by first | exact wl_p rfl rfl (by omega) | (simp [wl]; done) | (simp [wl]; omega)))
  have hb9 : (xi (E 1) 1).toInt ≤ (xi (E1 1) 1).toInt := by rw [show xi (E1 1) 1 = xi (E 1) 1 from xik hw1.2.1 (o := 1) (j := 1) (by first | rfl | (simp [wl]; done) | (simp [wl]; omega))]; exact Int.le_refl _
  have hB := hB.keep (cf' := cf) (E' := E1) rfl hb9 (fun i9 _ => xik hw1.2.1 (o := 64 * (i9 + 1) + 0) (j := 0) (by first | exact wl_p rfl rfl (by omega) | (simp [wl]; done) | (simp [wl]; omega)))
  have hG9 := hG
  have hT9 := hT
  have hU9 := hU
  have hT := hT.keep (cf' := cf) (E' := E1) rfl (xik hw1.2.1 (o := 2) (j := 1) (by first | rfl | (simp [wl]; done) | (simp [wl]; omega))) (fun j9 => xik hw1.2.1 (o := 21) (j := j9) (by first | rfl | (simp [wl]; done) | (simp [wl]; omega))) (fun i9 j9 _ => xik hw1.2.1 (o := 64 * (i9 + 1) + 1) (j := j9) (by first | exact wl_p rfl rfl (by omega) | (simp [wl]; done) | (simp [wl]; omega))) (xik hw2.2.1 (o := 0) (j := 16) rfl) (xik hw2.2.1 (o := 0) (j := 17) rfl) (fun j9 => xik hw2.2.1 (o := 7) (j := j9) rfl) (fun j9 => xik hw2.2.1 (o := 10) (j := j9) rfl) (fun j9 => xik hw2.2.1 (o := 11) (j := j9) rfl)
  have hU := hU.keep (cf' := cf) (E' := E1) rfl (fun _ _ => ⟨rfl, rfl⟩) (fun i9 _ t9 _ _ j9 => xik hw1.2.1 (o := 64 * (i9 + 1) + t9) (j := j9) (by first | exact wl_p rfl rfl (by omega) | (simp [wl]; done) | (simp [wl]; omega))) (fun j9 => xik hw2.2.1 (o := 8) (j := j9) rfl) (fun j9 => xik hw2.2.1 (o := 9) (j := j9) rfl)
  have hG := hG.keep (cf' := cf) (E' := E1) rfl (fun i9 j9 _ => xik hw1.2.1 (o := 64 * (i9 + 1) + 14) (j := j9) (by first | exact wl_p rfl rfl (by omega) | (simp [wl]; done) | (simp [wl]; omega))) (fun j9 => xik hw2.2.1 (o := 51) (j := j9) rfl)
  have e0 : (xi (E 1) 0).toInt = (xi (EM 0) 1).toInt := congrArg Int32.toInt hR.now
  have e1 : (xi (E 1) 1).toInt = (xi (EM 0) 8).toInt := congrArg Int32.toInt hR.boats
  have e2 : (xi (E 1) 2).toInt = (xi (EM 0) 48).toInt := congrArg Int32.toInt hR.red
  obtain ⟨q0, q2, q3, q4, q5⟩ := hR.cnt
  have lm : (-1 : Int32).toInt = -1 := rfl
  have l0 : (0 : Int32).toInt = 0 := rfl
  have l1 : (1 : Int32).toInt = 1 := rfl
  have l2 : (2 : Int32).toInt = 2 := rfl
  have lk : (1000 : Int32).toInt = 1000 := rfl
  have hd : r1.toInt = r2.toInt ∧ True := by
    obtain ⟨-, -, p1, p2⟩ := id hw1
    obtain ⟨-, -, m1, m2⟩ := id hw2
    refine ⟨?_, trivial⟩
    have ht : 0 ≤ (xs (i + 1).toNatClampNeg).toInt ∧ (xs (i + 1).toNatClampNeg).toInt < ((cf 2 : Nat) : Int) → (xi (E (64 * ((xs (i + 1).toNatClampNeg).toNatClampNeg + 1) + 6)) 0).toInt = (xi (EM 20) (xs (i + 1).toNatClampNeg).toInt.toNat).toInt := fun z => congrArg Int32.toInt (hR.tb2 (6, 0, 20) (by decide) (xs (i + 1).toNatClampNeg).toNatClampNeg (by rw [tn_]; omega))
    by_cases g : ((0 ≤ (xs (i + 3).toNatClampNeg).toInt ∧ (xs (i + 3).toNatClampNeg).toInt ≤ (xi (E 1) 0).toInt) ∧ (0 ≤ (xs (i + 1).toNatClampNeg).toInt ∧ (xs (i + 1).toNatClampNeg).toInt < ((cf 2 : Nat) : Int)) ∧ (xi (E (64 * ((xs (i + 1).toNatClampNeg).toNatClampNeg + 1) + 6)) 0).toInt ≤ (xs (i + 3).toNatClampNeg).toInt) ∧ (0 ≤ (xs (i + 2).toNatClampNeg).toInt ∧ (xs (i + 2).toNatClampNeg).toInt < (xi (E 1) 1).toInt)
    · have h1 := p1 g
      have ht := ht g.1.2.1
      have hb16 : (xs (i + 2).toNatClampNeg).toNatClampNeg < 16 := by rw [tn_]; omega
      have hbn : nI (xs (i + 2).toNatClampNeg).toNatClampNeg = (xs (i + 2).toNatClampNeg) := nI_tn (by omega)
      have hF := fn_eq (a := (xs (i + 1).toNatClampNeg)) (q := (xs (i + 3).toNatClampNeg)) hR hG9 hM0 (by omega) (by omega) g.1.2.1 (by omega) hb16
      rw [hbn] at hF
      by_cases z : CdM EM (xs (i + 1).toNatClampNeg) (xs (i + 2).toNatClampNeg) (xs (i + 3).toNatClampNeg) 0
      · have h2 := m1 ⟨⟨⟨by omega, by omega, by omega, by omega⟩, CdM_ent z⟩, z⟩
        have hc := hF.mpr z
        exact pl_eq (a := (xs (i + 1).toNatClampNeg)) (q := (xs (i + 3).toNatClampNeg)) hR hG9 (hU9.ru hT9) hM0 (by omega) (by omega) (by omega) (by omega) bb g.1.2.1 (by omega) hb16 hc (h1.1 hc) h2
      · have h2 := m2 (fun z2 => z z2.2)
        have h3 := h1.2 (fun z2 => z (hF.mp z2))
        omega
    · have h1 := p2 g
      have h2 := m2 (fun z => g (by have z1 := z.1; have z2 := ht (by omega); exact ⟨⟨by omega, by omega, by omega⟩, by omega⟩))
      omega
  have hR := hR.keep hcf k6 k7 k8 hp (kpS hw2.2.1 rfl) (kpR hw2.2.1 rfl)
  refine lv_pop hx hb dL_law_955 rfl ?_
  refine lv_goto (tgt := 1859) hx hb dL_law_956 (by decide) ?_
  exact W.widen (k := cn + 7) (n := sn + 3300) (by omega) (by omega) (tail _ _ _ _ _ _ _ _ V ⟨⟨⟨⟨⟨hR, hT⟩, hU⟩, hG⟩, hB⟩, hRS⟩ hl)
set_option maxHeartbeats 4000000 in
set_option maxRecDepth 100000 in
theorem law_case_17 {p : Program} {e : Env} {s : State} {m : MethodId} {below : List Frame} {meth : Method} {c : Code} (l : Launch) {b L : Nat} {xs : Nat → Int32} (hL : L ≤ 4096) (C0 : lw_At p s m meth c b L xs) {A : Nat → Prop} {ed : Nat} {dC : Nat → ClassId} {dI : Nat → Nat → Nat} {cT : Nat → ClassId} {cL : ClassId} (F : FX l s A ed dC dI cT cL) {x ou : Nat} {am cf ad : Nat → Nat} {E EM : Nat → va_E} {f : Nat → Int64} {H : Heap} {locs : List Loc} (V : INV s A ed dC dI cT cL x ou am cf ad E EM f H locs) (hR : REL15 cf E EM) {i : Int32} (hi0 : 0 ≤ i.toInt) (hi8 : i.toInt + 8 ≤ (L : Int)) {cn sn : Nat} (hcn : cn + 7 ≤ 601024) (hsn : sn + 3300 ≤ 7293034) (ls : Array Slot) (hl : lv_has ls 7 [(0, .ref b), (1, .ref x), (2, .ref (am 0)), (3, .ref ou), (4, .int i)]) (tail : (∀ (cf ad : Nat → Nat) (E EM : Nat → va_E) (f : Nat → Int64) (H : Heap) (locs : List Loc) (ls : Array Slot), INV s A ed dC dI cT cL x ou am cf ad E EM f H locs → REL15 cf E EM → lv_has ls 7 [(0, .ref b), (1, .ref x), (2, .ref (am 0)), (3, .ref ou), (4, .int i)] → W p l e room_1 s m #[Value.ref b] below meth c H locs (cn + 7) (sn + 3300) (lw_Z below #[Value.ref b] s) (F0 m 1859 ls []))) : W p l e room_1 s m #[Value.ref b] below meth c H locs cn sn (lw_Z below #[Value.ref b] s) (F0 m 959 ls []) := by
  obtain ⟨hx, hb, hr, hml, hown, hts0, hX, hbl, hlocks, hgv⟩ := id C0
  have hts := fun w (h : w ∈ v_law) => hts0 w (v_law_in w h)
  have hbA : ¬ A b := F.hnA b hbl
  obtain rfl := V.hx
  obtain ⟨⟨⟨⟨⟨hR, hT⟩, hU⟩, hG⟩, hB⟩, hRS⟩ := hR
  refine lv_aload_n hx hb dL_law_959 rfl (lv_at hl 1 rfl) ?_
  refine lv_aload_n hx hb dL_law_960 rfl (lv_at hl 0 rfl) ?_
  refine lv_iload hx hb dL_law_961 (lv_at hl 4 rfl) ?_
  refine lv_iconst (v := 1) hx hb dL_law_963 (by decide) ?_
  refine lv_iadd hx hb dL_law_964 ?_
  refine va_sld hx hb hX hbl hbA V.hS (law_in (k := 1) hi0 hi8 hL (by decide) rfl) dL_law_965 ?_
  refine lv_aload_n hx hb dL_law_966 rfl (lv_at hl 0 rfl) ?_
  refine lv_iload hx hb dL_law_967 (lv_at hl 4 rfl) ?_
  refine lv_iconst (v := 2) hx hb dL_law_969 (by decide) ?_
  refine lv_iadd hx hb dL_law_970 ?_
  refine va_sld hx hb hX hbl hbA V.hS (law_in (k := 2) hi0 hi8 hL (by decide) rfl) dL_law_971 ?_
  have hI0 := V.hI
  have hC0 := V.hC
  have hM0 := V.hM
  have bn : (0 : Int) ≤ (xi (E 1) 0).toInt ∧ (xi (E 1) 0).toInt ≤ 400 := hI0.iv 1 (mF 1 rfl) rfl (Nat.le_of_ble_eq_true rfl) rfl
  have bb : (0 : Int) ≤ (xi (E 1) 1).toInt ∧ (xi (E 1) 1).toInt ≤ 16 := hI0.iv 1 (mF 1 rfl) rfl (Nat.le_of_ble_eq_true rfl) rfl
  obtain ⟨⟨k0, k1, k2, k3, k4, k5⟩, -⟩ := id hC0
  refine lC F V (fun r u h => h.1) (va_runV (As := [.int (xs (i + 1).toNatClampNeg), .int (xs (i + 2).toNatClampNeg)]) (rest := []) ⟨hx, hb, hml, hown, hts⟩ (q_u_redressR l dC dI cT cf V.hC ad E H.size (xs (i + 1).toNatClampNeg) (xs (i + 2).toNatClampNeg) V.hI) (cwV 2 hts (gl_V (al_2 _ (zs16 (zs4 (zs1 (zs1 (zs0)))))) (al_2 _ (zs16 (zs4 (zs1 (zs1 (zs1 (zs0))))))) (al_2 _ (zs16 (zs4 (zs4 (zs0))))) (vl_A _ (in_4 _ (zs16 (zs4 (zs1 (zs1 (zs1 (zs0)))))))) (vl_A _ (in_22 _ (zs16 (zs1 (zs0)))))) rfl rfl rfl ⟨rfl, hz_yX12_redress_2⟩ ⟨Nat.le_of_ble_eq_true rfl, Nat.le_of_ble_eq_true rfl⟩) ⟨HWL_bl, va_recv F.kc V.cp (ci := 13) (q0 := posL 0 (LC cf)) rfl (V.hI.ob 0 (mF 0 rfl) rfl), HWL_wi V.cp F.kc V.dc V.hS F.hA (V.ec F)⟩ rfl rfl hl.1 rfl (lv_room (Nat.le_of_ble_eq_true rfl)) dL_law_972 ⟨by show cn + 0 ≤ 601024; omega, by show sn + 0 ≤ 7293034; omega⟩) (fun r1 E1 H locs hw1 V => ?_)
  refine lv_pop hx hb dL_law_975 rfl ?_
  refine lv_aload_n hx hb dL_law_976 rfl (lv_at hl 2 rfl) ?_
  refine lv_aload_n hx hb dL_law_977 rfl (lv_at hl 0 rfl) ?_
  refine lv_iload hx hb dL_law_978 (lv_at hl 4 rfl) ?_
  refine lv_iconst (v := 1) hx hb dL_law_980 (by decide) ?_
  refine lv_iadd hx hb dL_law_981 ?_
  refine va_sld hx hb hX hbl hbA V.hS (law_in (k := 1) hi0 hi8 hL (by decide) rfl) dL_law_982 ?_
  refine lv_aload_n hx hb dL_law_983 rfl (lv_at hl 0 rfl) ?_
  refine lv_iload hx hb dL_law_984 (lv_at hl 4 rfl) ?_
  refine lv_iconst (v := 2) hx hb dL_law_986 (by decide) ?_
  refine lv_iadd hx hb dL_law_987 ?_
  refine va_sld hx hb hX hbl hbA V.hS (law_in (k := 2) hi0 hi8 hL (by decide) rfl) dL_law_988 ?_
  refine lM F V (fun r u h => ⟨h.1, DIr_kp h.2.1 (fun _ => rfl) (fun _ => rfl) V.hDI⟩) (va_runV (As := [.int (xs (i + 1).toNatClampNeg), .int (xs (i + 2).toNatClampNeg)]) (rest := []) ⟨hx, hb, hml, hown, hts⟩ (q_redressX l dC dI cT am EM H.size (xs (i + 1).toNatClampNeg) (xs (i + 2).toNatClampNeg) V.hM) (cwV 2 hts (gl_V (al_2 _ (zs16 (zs4 (zs4 (zs1 (zs0)))))) (al_2 _ (zs16 (zs4 (zs4 (zs1 (zs1 (zs0))))))) (al_2 _ (zs16 (zs4 (zs4 (zs1 (zs1 (zs1 (zs0)))))))) (vl_A _ (in_24 _ (zs4 (zs4 (zs4 (zs1 (zs1 (zs1 (zs0))))))))) (vl_A _ (in_33 _ (zs16 (zs4 (zs0)))))) rfl rfl rfl ⟨rfl, hz_yX13_redress_2⟩ ⟨Nat.le_of_ble_eq_true rfl, Nat.le_of_ble_eq_true rfl⟩) ⟨HW_bl, va_recv F.km V.pm (ci := 14) (q0 := 0) rfl (V.hM.ob 0 (Nat.le_of_ble_eq_true rfl) rfl), HW_wi V.pm F.km V.dm V.hS F.hA F.hEV⟩ rfl rfl hl.1 rfl (lv_room (Nat.le_of_ble_eq_true rfl)) dL_law_989 ⟨by show cn + 0 ≤ 601024; omega, by show sn + 0 ≤ 7293034; omega⟩) (fun r2 EM1 H locs hw2 V => ?_)
  have hRS := hRS.keep (cf' := cf) (E' := E1) rfl (fun i9 _ => xik hw1.2.1 (o := 64 * (i9 + 1) + 12) (j := 2) (by first | exact wl_p rfl rfl (by omega) | (simp [wl]; done) | (simp [wl]; omega))) (fun i9 _ => xik hw1.2.1 (o := 64 * (i9 + 1) + 12) (j := 3) (by first | exact wl_p rfl rfl (by omega) | (simp [wl]; done) | (simp [wl]; omega)))
  have hb9 : (xi (E 1) 1).toInt ≤ (xi (E1 1) 1).toInt := by rw [show xi (E1 1) 1 = xi (E 1) 1 from xik hw1.2.1 (o := 1) (j := 1) (by first | rfl | (simp [wl]; done) | (simp [wl]; omega))]; exact Int.le_refl _
  have hB := hB.keep (cf' := cf) (E' := E1) rfl hb9 (fun i9 _ => xik hw1.2.1 (o := 64 * (i9 + 1) + 0) (j := 0) (by first | exact wl_p rfl rfl (by omega) | (simp [wl]; done) | (simp [wl]; omega)))
  have hT := hT.keep (cf' := cf) (E' := E1) rfl (xik hw1.2.1 (o := 2) (j := 1) (by first | rfl | (simp [wl]; done) | (simp [wl]; omega))) (fun j9 => xik hw1.2.1 (o := 21) (j := j9) (by first | rfl | (simp [wl]; done) | (simp [wl]; omega))) (fun i9 j9 _ => xik hw1.2.1 (o := 64 * (i9 + 1) + 1) (j := j9) (by first | exact wl_p rfl rfl (by omega) | (simp [wl]; done) | (simp [wl]; omega))) (xik hw2.2.1 (o := 0) (j := 16) rfl) (xik hw2.2.1 (o := 0) (j := 17) rfl) (fun j9 => xik hw2.2.1 (o := 7) (j := j9) rfl) (fun j9 => xik hw2.2.1 (o := 10) (j := j9) rfl) (fun j9 => xik hw2.2.1 (o := 11) (j := j9) rfl)
  have hU := hU.keep (cf' := cf) (E' := E1) rfl (fun _ _ => ⟨rfl, rfl⟩) (fun i9 _ t9 _ _ j9 => xik hw1.2.1 (o := 64 * (i9 + 1) + t9) (j := j9) (by first | exact wl_p rfl rfl (by omega) | (simp [wl]; done) | (simp [wl]; omega))) (fun j9 => xik hw2.2.1 (o := 8) (j := j9) rfl) (fun j9 => xik hw2.2.1 (o := 9) (j := j9) rfl)
  have hG := hG.keep (cf' := cf) (E' := E1) rfl (fun i9 j9 _ => xik hw1.2.1 (o := 64 * (i9 + 1) + 14) (j := j9) (by first | exact wl_p rfl rfl (by omega) | (simp [wl]; done) | (simp [wl]; omega))) (fun j9 => xik hw2.2.1 (o := 51) (j := j9) rfl)
  have e0 : (xi (E 1) 0).toInt = (xi (EM 0) 1).toInt := congrArg Int32.toInt hR.now
  have e1 : (xi (E 1) 1).toInt = (xi (EM 0) 8).toInt := congrArg Int32.toInt hR.boats
  have e2 : (xi (E 1) 2).toInt = (xi (EM 0) 48).toInt := congrArg Int32.toInt hR.red
  obtain ⟨q0, q2, q3, q4, q5⟩ := hR.cnt
  have lm : (-1 : Int32).toInt = -1 := rfl
  have l0 : (0 : Int32).toInt = 0 := rfl
  have l1 : (1 : Int32).toInt = 1 := rfl
  have l2 : (2 : Int32).toInt = 2 := rfl
  have lk : (1000 : Int32).toInt = 1000 := rfl
  have hpn := fun (b : Int32) (h1 : 0 ≤ (xs (i + 1).toNatClampNeg).toInt ∧ (xs (i + 1).toNatClampNeg).toInt < ((cf 2 : Nat) : Int)) (h2 : 0 ≤ b.toInt ∧ b.toInt < 16) => pen hR.en hM0 bn (by omega) (xs (i + 1).toNatClampNeg) b h1 h2
  have hp : PK (fun t _ => Nat.beq t 8) cf E E1 := fun t i j ht _ hx _ => xik hw1.2.1 (by
    have hx : (Nat.beq t 8) = false := hx
    have h8 : t ≠ 8 := fun h9 => by subst h9; exact absurd hx (by decide)
    clear hx
    simp [wl]; omega)
  have hk8 : ∀ i9 j9, i9 ≠ (xs (i + 1).toNatClampNeg).toNatClampNeg → xi (E1 (64 * (i9 + 1) + 8)) j9 = xi (E (64 * (i9 + 1) + 8)) j9 := fun i9 j9 hi => xik hw1.2.1 (by simp [wl]; omega)
  have kk0 : xi (E1 1) 0 = xi (E 1) 0 := xik hw1.2.1 (o := 1) (j := 0) (by first | rfl | (simp [wl]; done) | (simp [wl]; omega))
  have kk1 : xi (E1 1) 1 = xi (E 1) 1 := xik hw1.2.1 (o := 1) (j := 1) (by first | rfl | (simp [wl]; done) | (simp [wl]; omega))
  have hn0 : (xi (E 1) 0).toInt ≤ (xi (E1 1) 0).toInt := by rw [kk0]; exact Int.le_refl _
  have hb0 : (xi (E 1) 1).toInt ≤ (xi (E1 1) 1).toInt := by rw [kk1]; exact Int.le_refl _
  have hst : ENst (cf 2) E E1 := ENst.of (fun i j hi => hp 7 i j (by decide) (by decide) rfl hi)
  have hsx := kpSx [48] hw2.2.1 rfl
  have hrx := kpRx [29, 30, 31] hw2.2.1 rfl
  have hbr : (0 : Int) ≤ (xi (EM 0) 48).toInt ∧ (xi (EM 0) 48).toInt ≤ 20 := hM0.iv 0 (Nat.le_of_ble_eq_true rfl) rfl (Nat.le_of_ble_eq_true rfl) rfl
  have hbt : ∀ k : Nat, (k : Int) < (xi (EM 0) 48).toInt → 0 ≤ (xi (EM 31) k).toInt := fun k hk => (show (0 : Int) ≤ (xi (EM 31) k).toInt ∧ (xi (EM 31) k).toInt ≤ 400 from hM0.iv 31 (Nat.le_of_ble_eq_true rfl) (t := 1) (c := 0) (nf := 20) rfl (show k < 20 by omega) rfl).1
  have hre := fun (h1 : 0 ≤ (xs (i + 1).toNatClampNeg).toInt ∧ (xs (i + 1).toNatClampNeg).toInt < ((cf 2 : Nat) : Int)) (h2 : 0 ≤ (xs (i + 2).toNatClampNeg).toInt ∧ (xs (i + 2).toNatClampNeg).toInt < 16) => rd_eq hR.rd (a := (xs (i + 1).toNatClampNeg)) (b := (xs (i + 2).toNatClampNeg)) h1 h2 (q := (xi (EM 0) 1).toInt) e0.symm hbt
  have hd : r1.toInt = r2.toInt ∧ REL cf E1 EM1 := by
    obtain ⟨-, -, hc1⟩ := id hw1
    obtain ⟨-, -, hc2⟩ := id hw2
    rcases hc1 with ⟨n1, g1, u1, v1⟩ | ⟨n1, g1, u1, v1⟩ <;> rcases hc2 with ⟨n2, g2, f2, v2, x2, y2, z2⟩ | ⟨n2, g2, v2, x2, y2, z2⟩
    · have hnew : ∀ k : Nat, (k : Int) < (xi (EM 0) 48).toInt → ¬ ((xi (EM 29) k).toInt = (xs (i + 1).toNatClampNeg).toInt ∧ (xi (EM 30) k).toInt = (xs (i + 2).toNatClampNeg).toInt) := fun k hk hh => by
        have h6 := (hR.rd (xs (i + 1).toNatClampNeg).toNatClampNeg (xs (i + 2).toNatClampNeg).toNatClampNeg (by rw [tn_ (xs (i + 1).toNatClampNeg)]; omega) (by rw [tn_ (xs (i + 2).toNatClampNeg)]; omega)).1 k hk (by rw [hh.1, tn_ (xs (i + 1).toNatClampNeg)]; omega) (by rw [hh.2, tn_ (xs (i + 2).toNatClampNeg)]; omega)
        have h5 := hbt k hk; omega
      exact ⟨by rw [n1, n2], ⟨(kk0.trans hR.now).trans ((hsx 1 (by decide) rfl)).symm,
      (kk1.trans hR.boats).trans ((hsx 8 (by decide) rfl)).symm,
      Int32.toInt_inj.mp (by omega),
      CNT.mv (hR.cnt.k rfl rfl rfl rfl rfl) (fun j hj => by simp only [List.mem_cons, List.not_mem_nil, or_false] at hj; rcases hj with rfl | rfl | rfl | rfl | rfl; exact (hsx 9 (by decide) rfl); exact (hsx 46 (by decide) rfl); exact (hsx 47 (by decide) rfl); exact (hsx 74 (by decide) rfl); exact (hsx 75 (by decide) rfl)),
      EN.m (EM' := EM1) (EN.k (E' := E1) hR.en rfl (fun i j hi => hp 7 i j (by decide) (by decide) rfl hi)) (hrx 21 (by decide) rfl),
      (TBj.km (TBj.kc (E' := E1) hR.tb0 rfl (hp.tb (J := 0) rfl)) (fun q hq j => (show ∀ r ∈ [1, 2, 3, 4, 5, 6], ∀ j, xi (EM1 r) j = xi (EM r) j from fun r hr9 => by simp only [List.mem_cons, List.not_mem_nil, or_false] at hr9; rcases hr9 with rfl | rfl | rfl | rfl | rfl | rfl; exact (hrx 1 (by decide) rfl); exact (hrx 2 (by decide) rfl); exact (hrx 3 (by decide) rfl); exact (hrx 4 (by decide) rfl); exact (hrx 5 (by decide) rfl); exact (hrx 6 (by decide) rfl)) _ (tbm0 q hq) j)),
      (TBj.km (TBj.kc (E' := E1) hR.tb2 rfl (hp.tb (J := 2) rfl)) (fun q hq j => (show ∀ r ∈ [20, 13, 14, 15, 16, 17, 18], ∀ j, xi (EM1 r) j = xi (EM r) j from fun r hr9 => by simp only [List.mem_cons, List.not_mem_nil, or_false] at hr9; rcases hr9 with rfl | rfl | rfl | rfl | rfl | rfl | rfl; exact (hrx 20 (by decide) rfl); exact (hrx 13 (by decide) rfl); exact (hrx 14 (by decide) rfl); exact (hrx 15 (by decide) rfl); exact (hrx 16 (by decide) rfl); exact (hrx 17 (by decide) rfl); exact (hrx 18 (by decide) rfl)) _ (tbm2 q hq) j)),
      (TBj.km (TBj.kc (E' := E1) hR.tb3 rfl (hp.tb (J := 3) rfl)) (fun q hq j => (show ∀ r ∈ [24, 25, 26, 27, 28], ∀ j, xi (EM1 r) j = xi (EM r) j from fun r hr9 => by simp only [List.mem_cons, List.not_mem_nil, or_false] at hr9; rcases hr9 with rfl | rfl | rfl | rfl | rfl; exact (hrx 24 (by decide) rfl); exact (hrx 25 (by decide) rfl); exact (hrx 26 (by decide) rfl); exact (hrx 27 (by decide) rfl); exact (hrx 28 (by decide) rfl)) _ (tbm3 q hq) j)),
      (TBj.km (TBj.kc (E' := E1) hR.tb4 rfl (hp.tb (J := 4) rfl)) (fun q hq j => (show ∀ r ∈ [38, 39, 45, 40, 41, 42, 43, 44], ∀ j, xi (EM1 r) j = xi (EM r) j from fun r hr9 => by simp only [List.mem_cons, List.not_mem_nil, or_false] at hr9; rcases hr9 with rfl | rfl | rfl | rfl | rfl | rfl | rfl | rfl; exact (hrx 38 (by decide) rfl); exact (hrx 39 (by decide) rfl); exact (hrx 45 (by decide) rfl); exact (hrx 40 (by decide) rfl); exact (hrx 41 (by decide) rfl); exact (hrx 42 (by decide) rfl); exact (hrx 43 (by decide) rfl); exact (hrx 44 (by decide) rfl)) _ (tbm4 q hq) j)),
      (TBj.km (TBj.kc (E' := E1) hR.tb5 rfl (hp.tb (J := 5) rfl)) (fun q hq j => (show ∀ r ∈ [46, 47, 48, 49, 50], ∀ j, xi (EM1 r) j = xi (EM r) j from fun r hr9 => by simp only [List.mem_cons, List.not_mem_nil, or_false] at hr9; rcases hr9 with rfl | rfl | rfl | rfl | rfl; exact (hrx 46 (by decide) rfl); exact (hrx 47 (by decide) rfl); exact (hrx 48 (by decide) rfl); exact (hrx 49 (by decide) rfl); exact (hrx 50 (by decide) rfl)) _ (tbm5 q hq) j)),
      (hR.eb.kc rfl hn0 hb0 (fun i hi => hp 6 i 0 (by decide) (by decide) rfl hi) (fun i j hi => hp 7 i j (by decide) (by decide) rfl hi)),
      hR.rd.up (a := (xs (i + 1).toNatClampNeg)) (b := (xs (i + 2).toNatClampNeg)) k2 g1.1.1 (by omega) kk0 rfl hR.now.symm bn.1 rfl hbr.1 hk8 u1 v2 x2 y2 z2 hnew,
      ST.km (ST.kc (E' := E1) hR.st rfl hb0 (fun i j hi => hp 9 i j (by decide) (by decide) rfl hi) (fun i j hi => hp 10 i j (by decide) (by decide) rfl hi)) (hrx 22 (by decide) rfl) (hrx 23 (by decide) rfl),
      SW.km (SW.kc (E' := E1) hR.sw rfl hn0 (fun i hi => hp 6 i 0 (by decide) (by decide) rfl hi) (fun i j hi => hp 11 i j (by decide) (by decide) rfl hi)) (hrx 19 (by decide) rfl),
      DC.km (DC.kc (E' := E1) hR.dc rfl hn0 (fun i j hi => hp 14 i j (by decide) (by decide) rfl hi)) (hrx 52 (by decide) rfl) (hrx 53 (by decide) rfl) (hrx 54 (by decide) rfl) (hrx 55 (by decide) rfl),
      (hR.tn0.kc rfl hn0 (hp.tn (J := 0) rfl)),
      (hR.tn2.kc rfl hn0 (hp.tn (J := 2) rfl)),
      (hR.tn3.kc rfl hn0 (hp.tn (J := 3) rfl)),
      (hR.tn4.kc rfl hn0 (hp.tn (J := 4) rfl)),
      (hR.tn5.kc rfl hn0 (hp.tn (J := 5) rfl)),
      (hR.rmo.kc rfl (fun i hi => hp 6 i 0 (by decide) (by decide) rfl hi)),
      (hR.er3.kc rfl (Nat.le_of_eq (rfl).symm) hst (hp.er (J := 3) rfl)),
      (hR.er4.kc rfl (Nat.le_of_eq (rfl).symm) hst (hp.er (J := 4) rfl)),
      (hR.er5.kc rfl (Nat.le_of_eq (rfl).symm) hst (hp.er (J := 5) rfl)),
      (hR.pne.kc rfl (fun i hi => hp 14 i 1 (by decide) (by decide) rfl hi) (fun i hi => hp 14 i 2 (by decide) (by decide) rfl hi)),
      DZ.km (DZ.kc (cf' := _) hR.dz (Nat.le_of_eq (rfl).symm)) (hrx 54 (by decide) rfl) (hrx 55 (by decide) rfl),
      hR.rro.up (a := (xs (i + 1).toNatClampNeg)) g1.1.2 rfl v2 x2⟩⟩
    · exfalso; refine g2 ⟨by have hp0 := hpn (xs (i + 2).toNatClampNeg) (by omega) (by omega); omega, by omega, (hre (by omega) (by omega)).mp (by omega)⟩
    · exfalso; refine g1 ?_; have h9 := (hre (by omega) (by omega)).mpr f2; have hp0 := hpn (xs (i + 2).toNatClampNeg) (by omega) (by omega); omega
    · refine ⟨by rw [n1, n2], ?_⟩
      have kk2 : xi (E1 1) 2 = xi (E 1) 2 := Int32.toInt_inj.mp v1
      have hp0 : PK X0 cf E E1 := fun t9 i9 j9 ht hk1 _ hi => by
        by_cases h8 : t9 = 8 ∧ i9 = (xs (i + 1).toNatClampNeg).toNatClampNeg
        · obtain ⟨rfl, rfl⟩ := h8; exact congrFun u1 j9
        exact xik hw1.2.1 (by simp [wl]; omega)
      exact hR.keep (fun _ _ _ => rfl) kk0 kk1 kk2 hp0 (kpSy [48] (kpSx [48] hw2.2.1 rfl) (fun j hq => by simp only [List.mem_cons, List.not_mem_nil, or_false] at hq; rcases hq with rfl; exact (Int32.toInt_inj.mp v2))) (kpRy [29, 30, 31] (kpRx [29, 30, 31] hw2.2.1 rfl) (fun r hq j => by simp only [List.mem_cons, List.not_mem_nil, or_false] at hq; rcases hq with rfl | rfl | rfl; exact (congrFun x2 j); exact (congrFun y2 j); exact (congrFun z2 j)))
  have hR := hd.2
  refine lv_pop hx hb dL_law_992 rfl ?_
  refine lv_goto (tgt := 1859) hx hb dL_law_993 (by decide) ?_
  exact W.widen (k := cn + 7) (n := sn + 3300) (by omega) (by omega) (tail _ _ _ _ _ _ _ _ V ⟨⟨⟨⟨⟨hR, hT⟩, hU⟩, hG⟩, hB⟩, hRS⟩ hl)
set_option maxHeartbeats 4000000 in
set_option maxRecDepth 100000 in
theorem law_case_18 {p : Program} {e : Env} {s : State} {m : MethodId} {below : List Frame} {meth : Method} {c : Code} (l : Launch) {b L : Nat} {xs : Nat → Int32} (hL : L ≤ 4096) (C0 : lw_At p s m meth c b L xs) {A : Nat → Prop} {ed : Nat} {dC : Nat → ClassId} {dI : Nat → Nat → Nat} {cT : Nat → ClassId} {cL : ClassId} (F : FX l s A ed dC dI cT cL) {x ou : Nat} {am cf ad : Nat → Nat} {E EM : Nat → va_E} {f : Nat → Int64} {H : Heap} {locs : List Loc} (V : INV s A ed dC dI cT cL x ou am cf ad E EM f H locs) (hR : REL15 cf E EM) {i : Int32} (hi0 : 0 ≤ i.toInt) (hi8 : i.toInt + 8 ≤ (L : Int)) {cn sn : Nat} (hcn : cn + 7 ≤ 601024) (hsn : sn + 3300 ≤ 7293034) (ls : Array Slot) (hl : lv_has ls 7 [(0, .ref b), (1, .ref x), (2, .ref (am 0)), (3, .ref ou), (4, .int i)]) (tail : (∀ (cf ad : Nat → Nat) (E EM : Nat → va_E) (f : Nat → Int64) (H : Heap) (locs : List Loc) (ls : Array Slot), INV s A ed dC dI cT cL x ou am cf ad E EM f H locs → REL15 cf E EM → lv_has ls 7 [(0, .ref b), (1, .ref x), (2, .ref (am 0)), (3, .ref ou), (4, .int i)] → W p l e room_1 s m #[Value.ref b] below meth c H locs (cn + 7) (sn + 3300) (lw_Z below #[Value.ref b] s) (F0 m 1859 ls []))) : W p l e room_1 s m #[Value.ref b] below meth c H locs cn sn (lw_Z below #[Value.ref b] s) (F0 m 996 ls []) := by
  obtain ⟨hx, hb, hr, hml, hown, hts0, hX, hbl, hlocks, hgv⟩ := id C0
  have hts := fun w (h : w ∈ v_law) => hts0 w (v_law_in w h)
  have hbA : ¬ A b := F.hnA b hbl
  obtain rfl := V.hx
  obtain ⟨⟨⟨⟨⟨hR, hT⟩, hU⟩, hG⟩, hB⟩, hRS⟩ := hR
  refine lv_aload_n hx hb dL_law_996 rfl (lv_at hl 1 rfl) ?_
  refine lv_aload_n hx hb dL_law_997 rfl (lv_at hl 0 rfl) ?_
  refine lv_iload hx hb dL_law_998 (lv_at hl 4 rfl) ?_
  refine lv_iconst (v := 1) hx hb dL_law_1000 (by decide) ?_
  refine lv_iadd hx hb dL_law_1001 ?_
  refine va_sld hx hb hX hbl hbA V.hS (law_in (k := 1) hi0 hi8 hL (by decide) rfl) dL_law_1002 ?_
  refine lv_aload_n hx hb dL_law_1003 rfl (lv_at hl 0 rfl) ?_
  refine lv_iload hx hb dL_law_1004 (lv_at hl 4 rfl) ?_
  refine lv_iconst (v := 2) hx hb dL_law_1006 (by decide) ?_
  refine lv_iadd hx hb dL_law_1007 ?_
  refine va_sld hx hb hX hbl hbA V.hS (law_in (k := 2) hi0 hi8 hL (by decide) rfl) dL_law_1008 ?_
  refine lv_aload_n hx hb dL_law_1009 rfl (lv_at hl 0 rfl) ?_
  refine lv_iload hx hb dL_law_1010 (lv_at hl 4 rfl) ?_
  refine lv_iconst (v := 3) hx hb dL_law_1012 (by decide) ?_
  refine lv_iadd hx hb dL_law_1013 ?_
  refine va_sld hx hb hX hbl hbA V.hS (law_in (k := 3) hi0 hi8 hL (by decide) rfl) dL_law_1014 ?_
  have hI0 := V.hI
  have hC0 := V.hC
  have hM0 := V.hM
  have bn : (0 : Int) ≤ (xi (E 1) 0).toInt ∧ (xi (E 1) 0).toInt ≤ 400 := hI0.iv 1 (mF 1 rfl) rfl (Nat.le_of_ble_eq_true rfl) rfl
  have bb : (0 : Int) ≤ (xi (E 1) 1).toInt ∧ (xi (E 1) 1).toInt ≤ 16 := hI0.iv 1 (mF 1 rfl) rfl (Nat.le_of_ble_eq_true rfl) rfl
  obtain ⟨⟨k0, k1, k2, k3, k4, k5⟩, -⟩ := id hC0
  refine lC F V (fun r u h => h.1) (va_runV (As := [.int (xs (i + 1).toNatClampNeg), .int (xs (i + 2).toNatClampNeg), .int (xs (i + 3).toNatClampNeg)]) (rest := []) ⟨hx, hb, hml, hown, hts⟩ (q_u_pointsX l dC dI cT cf V.hC ad E H.size (xs (i + 1).toNatClampNeg) (xs (i + 2).toNatClampNeg) (xs (i + 3).toNatClampNeg) V.hI hU.1) (cwV 3 hts (gl_V (al_2 _ (zs16 (zs4 (zs4 (zs4 (zs0)))))) (al_2 _ (zs16 (zs4 (zs4 (zs4 (zs1 (zs0))))))) (al_2 _ (zs16 (zs4 (zs4 (zs4 (zs1 (zs1 (zs0)))))))) (vl_A _ (in_4 _ (zs16 (zs4 (zs1 (zs1 (zs1 (zs0)))))))) (vl_A _ (in_20 _ (zs4 (zs1 (zs0)))))) rfl rfl rfl ⟨rfl, hz_yX12_points_3⟩ ⟨Nat.le_of_ble_eq_true rfl, Nat.le_of_ble_eq_true rfl⟩) ⟨HWL_bl, va_recv F.kc V.cp (ci := 13) (q0 := posL 0 (LC cf)) rfl (V.hI.ob 0 (mF 0 rfl) rfl), HWL_wi V.cp F.kc V.dc V.hS F.hA (V.ec F)⟩ rfl rfl hl.1 rfl (lv_room (Nat.le_of_ble_eq_true rfl)) dL_law_1015 ⟨by show cn + 0 ≤ 601024; omega, by show sn + 0 ≤ 7293034; omega⟩) (fun r1 E1 H locs hw1 V => ?_)
  have hcf : ∀ j, j < 6 → j ≠ 1 → cf j = cf j := fun _ _ _ => rfl
  have k6 : xi (E1 1) 0 = xi (E 1) 0 := xik hw1.2.1 (o := 1) (j := 0) (by first | rfl | (simp [wl]; done) | (simp [wl]; omega))
  have k7 : xi (E1 1) 1 = xi (E 1) 1 := xik hw1.2.1 (o := 1) (j := 1) (by first | rfl | (simp [wl]; done) | (simp [wl]; omega))
  have k8 : xi (E1 1) 2 = xi (E 1) 2 := xik hw1.2.1 (o := 1) (j := 2) (by first | rfl | (simp [wl]; done) | (simp [wl]; omega))
  have hp : PK X0 cf E E1 := fun t i j _ _ _ _ => xik hw1.2.1 (by first | exact wl_p rfl rfl (by omega) | (simp [wl]; done) | (simp [wl]; omega))
  refine lv_pop hx hb dL_law_1018 rfl ?_
  refine lv_aload_n hx hb dL_law_1019 rfl (lv_at hl 2 rfl) ?_
  refine lv_aload_n hx hb dL_law_1020 rfl (lv_at hl 0 rfl) ?_
  refine lv_iload hx hb dL_law_1021 (lv_at hl 4 rfl) ?_
  refine lv_iconst (v := 1) hx hb dL_law_1023 (by decide) ?_
  refine lv_iadd hx hb dL_law_1024 ?_
  refine va_sld hx hb hX hbl hbA V.hS (law_in (k := 1) hi0 hi8 hL (by decide) rfl) dL_law_1025 ?_
  refine lv_aload_n hx hb dL_law_1026 rfl (lv_at hl 0 rfl) ?_
  refine lv_iload hx hb dL_law_1027 (lv_at hl 4 rfl) ?_
  refine lv_iconst (v := 2) hx hb dL_law_1029 (by decide) ?_
  refine lv_iadd hx hb dL_law_1030 ?_
  refine va_sld hx hb hX hbl hbA V.hS (law_in (k := 2) hi0 hi8 hL (by decide) rfl) dL_law_1031 ?_
  refine lv_aload_n hx hb dL_law_1032 rfl (lv_at hl 0 rfl) ?_
  refine lv_iload hx hb dL_law_1033 (lv_at hl 4 rfl) ?_
  refine lv_iconst (v := 3) hx hb dL_law_1035 (by decide) ?_
  refine lv_iadd hx hb dL_law_1036 ?_
  refine va_sld hx hb hX hbl hbA V.hS (law_in (k := 3) hi0 hi8 hL (by decide) rfl) dL_law_1037 ?_
  refine lM F V (fun r u h => ⟨h.1, DIr_kp h.2.1 (fun _ => rfl) (fun _ => rfl) V.hDI⟩) (va_runV (As := [.int (xs (i + 1).toNatClampNeg), .int (xs (i + 2).toNatClampNeg), .int (xs (i + 3).toNatClampNeg)]) (rest := []) ⟨hx, hb, hml, hown, hts⟩ (q_pointsM l dC dI cT am EM H.size (xs (i + 1).toNatClampNeg) (xs (i + 2).toNatClampNeg) (xs (i + 3).toNatClampNeg) V.hM (hU.ru hT).txm) (cwV 3 hts (gl_V (al_2 _ (zs16 (zs4 (zs4 (zs4 (zs1 (zs1 (zs1 (zs0))))))))) (al_2 _ (zs16 (zs16 (zs0)))) (al_2 _ (zs16 (zs16 (zs1 (zs0))))) (vl_A _ (in_24 _ (zs4 (zs4 (zs4 (zs1 (zs1 (zs1 (zs0))))))))) (vl_A _ (in_32 _ (zs16 (zs16 (zs1 (zs1 (zs0)))))))) rfl rfl rfl ⟨rfl, hz_yX13_points_3⟩ ⟨Nat.le_of_ble_eq_true rfl, Nat.le_of_ble_eq_true rfl⟩) ⟨HW_bl, va_recv F.km V.pm (ci := 14) (q0 := 0) rfl (V.hM.ob 0 (Nat.le_of_ble_eq_true rfl) rfl), HW_wi V.pm F.km V.dm V.hS F.hA F.hEV⟩ rfl rfl hl.1 rfl (lv_room (Nat.le_of_ble_eq_true rfl)) dL_law_1038 ⟨by show cn + 0 ≤ 601024; omega, by show sn + 0 ≤ 7293034; omega⟩) (fun r2 EM1 H locs hw2 V => ?_)
  have hRS := hRS.keep (cf' := cf) (E' := E1) rfl (fun i9 _ => xik hw1.2.1 (o := 64 * (i9 + 1) + 12) (j := 2) (by first | exact wl_p rfl rfl (by omega) | (simp [wl]; done) | (simp [wl]; omega))) (fun i9 _ => xik hw1.2.1 (o := 64 * (i9 + 1) + 12) (j := 3) (by first | exact wl_p rfl rfl (by omega) | (simp [wl]; done) | (simp [wl]; omega)))
  have hb9 : (xi (E 1) 1).toInt ≤ (xi (E1 1) 1).toInt := by rw [show xi (E1 1) 1 = xi (E 1) 1 from xik hw1.2.1 (o := 1) (j := 1) (by first | rfl | (simp [wl]; done) | (simp [wl]; omega))]; exact Int.le_refl _
  have hB := hB.keep (cf' := cf) (E' := E1) rfl hb9 (fun i9 _ => xik hw1.2.1 (o := 64 * (i9 + 1) + 0) (j := 0) (by first | exact wl_p rfl rfl (by omega) | (simp [wl]; done) | (simp [wl]; omega)))
  have hG9 := hG
  have hT9 := hT
  have hU9 := hU
  have hT := hT.keep (cf' := cf) (E' := E1) rfl (xik hw1.2.1 (o := 2) (j := 1) (by first | rfl | (simp [wl]; done) | (simp [wl]; omega))) (fun j9 => xik hw1.2.1 (o := 21) (j := j9) (by first | rfl | (simp [wl]; done) | (simp [wl]; omega))) (fun i9 j9 _ => xik hw1.2.1 (o := 64 * (i9 + 1) + 1) (j := j9) (by first | exact wl_p rfl rfl (by omega) | (simp [wl]; done) | (simp [wl]; omega))) (xik hw2.2.1 (o := 0) (j := 16) rfl) (xik hw2.2.1 (o := 0) (j := 17) rfl) (fun j9 => xik hw2.2.1 (o := 7) (j := j9) rfl) (fun j9 => xik hw2.2.1 (o := 10) (j := j9) rfl) (fun j9 => xik hw2.2.1 (o := 11) (j := j9) rfl)
  have hU := hU.keep (cf' := cf) (E' := E1) rfl (fun _ _ => ⟨rfl, rfl⟩) (fun i9 _ t9 _ _ j9 => xik hw1.2.1 (o := 64 * (i9 + 1) + t9) (j := j9) (by first | exact wl_p rfl rfl (by omega) | (simp [wl]; done) | (simp [wl]; omega))) (fun j9 => xik hw2.2.1 (o := 8) (j := j9) rfl) (fun j9 => xik hw2.2.1 (o := 9) (j := j9) rfl)
  have hG := hG.keep (cf' := cf) (E' := E1) rfl (fun i9 j9 _ => xik hw1.2.1 (o := 64 * (i9 + 1) + 14) (j := j9) (by first | exact wl_p rfl rfl (by omega) | (simp [wl]; done) | (simp [wl]; omega))) (fun j9 => xik hw2.2.1 (o := 51) (j := j9) rfl)
  have e0 : (xi (E 1) 0).toInt = (xi (EM 0) 1).toInt := congrArg Int32.toInt hR.now
  have e1 : (xi (E 1) 1).toInt = (xi (EM 0) 8).toInt := congrArg Int32.toInt hR.boats
  have e2 : (xi (E 1) 2).toInt = (xi (EM 0) 48).toInt := congrArg Int32.toInt hR.red
  obtain ⟨q0, q2, q3, q4, q5⟩ := hR.cnt
  have lm : (-1 : Int32).toInt = -1 := rfl
  have l0 : (0 : Int32).toInt = 0 := rfl
  have l1 : (1 : Int32).toInt = 1 := rfl
  have l2 : (2 : Int32).toInt = 2 := rfl
  have lk : (1000 : Int32).toInt = 1000 := rfl
  have hbr : (0 : Int) ≤ (xi (EM 0) 48).toInt ∧ (xi (EM 0) 48).toInt ≤ 20 := hM0.iv 0 (Nat.le_of_ble_eq_true rfl) rfl (Nat.le_of_ble_eq_true rfl) rfl
  have hbt : ∀ k : Nat, (k : Int) < (xi (EM 0) 48).toInt → 0 ≤ (xi (EM 31) k).toInt := fun k hk => (show (0 : Int) ≤ (xi (EM 31) k).toInt ∧ (xi (EM 31) k).toInt ≤ 400 from hM0.iv 31 (Nat.le_of_ble_eq_true rfl) (t := 1) (c := 0) (nf := 20) rfl (show k < 20 by omega) rfl).1
  have hd : r1.toInt = r2.toInt ∧ True := by
    obtain ⟨-, -, p1, p2⟩ := id hw1
    obtain ⟨-, -, m1, m2⟩ := id hw2
    refine ⟨?_, trivial⟩
    have ht : 0 ≤ (xs (i + 1).toNatClampNeg).toInt ∧ (xs (i + 1).toNatClampNeg).toInt < ((cf 2 : Nat) : Int) → (xi (E (64 * ((xs (i + 1).toNatClampNeg).toNatClampNeg + 1) + 6)) 0).toInt = (xi (EM 20) (xs (i + 1).toNatClampNeg).toInt.toNat).toInt := fun z => congrArg Int32.toInt (hR.tb2 (6, 0, 20) (by decide) (xs (i + 1).toNatClampNeg).toNatClampNeg (by rw [tn_]; omega))
    by_cases g : ((0 ≤ (xs (i + 3).toNatClampNeg).toInt ∧ (xs (i + 3).toNatClampNeg).toInt ≤ (xi (E 1) 0).toInt) ∧ (0 ≤ (xs (i + 1).toNatClampNeg).toInt ∧ (xs (i + 1).toNatClampNeg).toInt < ((cf 2 : Nat) : Int)) ∧ (xi (E (64 * ((xs (i + 1).toNatClampNeg).toNatClampNeg + 1) + 6)) 0).toInt ≤ (xs (i + 3).toNatClampNeg).toInt) ∧ (0 ≤ (xs (i + 2).toNatClampNeg).toInt ∧ (xs (i + 2).toNatClampNeg).toInt < (xi (E 1) 1).toInt)
    · have h1 := p1 g
      have ht := ht g.1.2.1
      have h2 := m1 ⟨by omega, by omega, by omega, by omega⟩
      exact pt_eq (a := (xs (i + 1).toNatClampNeg)) (b := (xs (i + 2).toNatClampNeg)) (q := (xs (i + 3).toNatClampNeg)) hR hG9 (hU9.ru hT9) hM0 (by omega) (by omega) (by omega) (by omega) bb g.1.2.1 (by omega) (by omega) hbt h1 h2
    · have h1 := p2 g
      have h2 := m2 (fun z => g (by have z2 := ht (by omega); exact ⟨⟨by omega, by omega, by omega⟩, by omega⟩))
      omega
  have hR := hR.keep hcf k6 k7 k8 hp (kpS hw2.2.1 rfl) (kpR hw2.2.1 rfl)
  refine lv_pop hx hb dL_law_1041 rfl ?_
  refine lv_goto (tgt := 1859) hx hb dL_law_1042 (by decide) ?_
  exact W.widen (k := cn + 7) (n := sn + 3300) (by omega) (by omega) (tail _ _ _ _ _ _ _ _ V ⟨⟨⟨⟨⟨hR, hT⟩, hU⟩, hG⟩, hB⟩, hRS⟩ hl)
set_option maxHeartbeats 4000000 in
set_option maxRecDepth 100000 in
theorem law_case_19 {p : Program} {e : Env} {s : State} {m : MethodId} {below : List Frame} {meth : Method} {c : Code} (l : Launch) {b L : Nat} {xs : Nat → Int32} (hL : L ≤ 4096) (C0 : lw_At p s m meth c b L xs) {A : Nat → Prop} {ed : Nat} {dC : Nat → ClassId} {dI : Nat → Nat → Nat} {cT : Nat → ClassId} {cL : ClassId} (F : FX l s A ed dC dI cT cL) {x ou : Nat} {am cf ad : Nat → Nat} {E EM : Nat → va_E} {f : Nat → Int64} {H : Heap} {locs : List Loc} (V : INV s A ed dC dI cT cL x ou am cf ad E EM f H locs) (hR : REL15 cf E EM) {i : Int32} (hi0 : 0 ≤ i.toInt) (hi8 : i.toInt + 8 ≤ (L : Int)) {cn sn : Nat} (hcn : cn + 7 ≤ 601024) (hsn : sn + 3300 ≤ 7293034) (ls : Array Slot) (hl : lv_has ls 7 [(0, .ref b), (1, .ref x), (2, .ref (am 0)), (3, .ref ou), (4, .int i)]) (tail : (∀ (cf ad : Nat → Nat) (E EM : Nat → va_E) (f : Nat → Int64) (H : Heap) (locs : List Loc) (ls : Array Slot), INV s A ed dC dI cT cL x ou am cf ad E EM f H locs → REL15 cf E EM → lv_has ls 7 [(0, .ref b), (1, .ref x), (2, .ref (am 0)), (3, .ref ou), (4, .int i)] → W p l e room_1 s m #[Value.ref b] below meth c H locs (cn + 7) (sn + 3300) (lw_Z below #[Value.ref b] s) (F0 m 1859 ls []))) : W p l e room_1 s m #[Value.ref b] below meth c H locs cn sn (lw_Z below #[Value.ref b] s) (F0 m 1045 ls []) := by
  obtain ⟨hx, hb, hr, hml, hown, hts0, hX, hbl, hlocks, hgv⟩ := id C0
  have hts := fun w (h : w ∈ v_law) => hts0 w (v_law_in w h)
  have hbA : ¬ A b := F.hnA b hbl
  obtain rfl := V.hx
  obtain ⟨⟨⟨⟨⟨hR, hT⟩, hU⟩, hG⟩, hB⟩, hRS⟩ := hR
  refine lv_aload_n hx hb dL_law_1045 rfl (lv_at hl 1 rfl) ?_
  refine lv_aload_n hx hb dL_law_1046 rfl (lv_at hl 0 rfl) ?_
  refine lv_iload hx hb dL_law_1047 (lv_at hl 4 rfl) ?_
  refine lv_iconst (v := 1) hx hb dL_law_1049 (by decide) ?_
  refine lv_iadd hx hb dL_law_1050 ?_
  refine va_sld hx hb hX hbl hbA V.hS (law_in (k := 1) hi0 hi8 hL (by decide) rfl) dL_law_1051 ?_
  refine lv_aload_n hx hb dL_law_1052 rfl (lv_at hl 0 rfl) ?_
  refine lv_iload hx hb dL_law_1053 (lv_at hl 4 rfl) ?_
  refine lv_iconst (v := 2) hx hb dL_law_1055 (by decide) ?_
  refine lv_iadd hx hb dL_law_1056 ?_
  refine va_sld hx hb hX hbl hbA V.hS (law_in (k := 2) hi0 hi8 hL (by decide) rfl) dL_law_1057 ?_
  refine lv_aload_n hx hb dL_law_1058 rfl (lv_at hl 0 rfl) ?_
  refine lv_iload hx hb dL_law_1059 (lv_at hl 4 rfl) ?_
  refine lv_iconst (v := 3) hx hb dL_law_1061 (by decide) ?_
  refine lv_iadd hx hb dL_law_1062 ?_
  refine va_sld hx hb hX hbl hbA V.hS (law_in (k := 3) hi0 hi8 hL (by decide) rfl) dL_law_1063 ?_
  have hI0 := V.hI
  have hC0 := V.hC
  have hM0 := V.hM
  have bn : (0 : Int) ≤ (xi (E 1) 0).toInt ∧ (xi (E 1) 0).toInt ≤ 400 := hI0.iv 1 (mF 1 rfl) rfl (Nat.le_of_ble_eq_true rfl) rfl
  have bb : (0 : Int) ≤ (xi (E 1) 1).toInt ∧ (xi (E 1) 1).toInt ≤ 16 := hI0.iv 1 (mF 1 rfl) rfl (Nat.le_of_ble_eq_true rfl) rfl
  obtain ⟨⟨k0, k1, k2, k3, k4, k5⟩, -⟩ := id hC0
  refine lC F V (fun r u h => h.1) (va_runV (As := [.int (xs (i + 1).toNatClampNeg), .int (xs (i + 2).toNatClampNeg), .int (xs (i + 3).toNatClampNeg)]) (rest := []) ⟨hx, hb, hml, hown, hts⟩ (q_u_thrownX l dC dI cT cf V.hC ad E H.size (xs (i + 1).toNatClampNeg) (xs (i + 2).toNatClampNeg) (xs (i + 3).toNatClampNeg) V.hI hU.1) (cwV 3 hts (gl_V (al_2 _ (zs16 (zs16 (zs1 (zs1 (zs0)))))) (al_2 _ (zs16 (zs16 (zs1 (zs1 (zs1 (zs0))))))) (al_2 _ (zs16 (zs16 (zs4 (zs0))))) (vl_A _ (in_4 _ (zs16 (zs4 (zs1 (zs1 (zs1 (zs0)))))))) (vl_A _ (in_23 _ (zs16 (zs4 (zs1 (zs1 (zs0)))))))) rfl rfl rfl ⟨rfl, hz_yX12_thrown_3⟩ ⟨Nat.le_of_ble_eq_true rfl, Nat.le_of_ble_eq_true rfl⟩) ⟨HWL_bl, va_recv F.kc V.cp (ci := 13) (q0 := posL 0 (LC cf)) rfl (V.hI.ob 0 (mF 0 rfl) rfl), HWL_wi V.cp F.kc V.dc V.hS F.hA (V.ec F)⟩ rfl rfl hl.1 rfl (lv_room (Nat.le_of_ble_eq_true rfl)) dL_law_1064 ⟨by show cn + 0 ≤ 601024; omega, by show sn + 0 ≤ 7293034; omega⟩) (fun r1 E1 H locs hw1 V => ?_)
  have hcf : ∀ j, j < 6 → j ≠ 1 → cf j = cf j := fun _ _ _ => rfl
  have k6 : xi (E1 1) 0 = xi (E 1) 0 := xik hw1.2.1 (o := 1) (j := 0) (by first | rfl | (simp [wl]; done) | (simp [wl]; omega))
  have k7 : xi (E1 1) 1 = xi (E 1) 1 := xik hw1.2.1 (o := 1) (j := 1) (by first | rfl | (simp [wl]; done) | (simp [wl]; omega))
  have k8 : xi (E1 1) 2 = xi (E 1) 2 := xik hw1.2.1 (o := 1) (j := 2) (by first | rfl | (simp [wl]; done) | (simp [wl]; omega))
  have hp : PK X0 cf E E1 := fun t i j _ _ _ _ => xik hw1.2.1 (by first | exact wl_p rfl rfl (by omega) | (simp [wl]; done) | (simp [wl]; omega))
  refine lv_pop hx hb dL_law_1067 rfl ?_
  refine lv_aload_n hx hb dL_law_1068 rfl (lv_at hl 2 rfl) ?_
  refine lv_aload_n hx hb dL_law_1069 rfl (lv_at hl 0 rfl) ?_
  refine lv_iload hx hb dL_law_1070 (lv_at hl 4 rfl) ?_
  refine lv_iconst (v := 1) hx hb dL_law_1072 (by decide) ?_
  refine lv_iadd hx hb dL_law_1073 ?_
  refine va_sld hx hb hX hbl hbA V.hS (law_in (k := 1) hi0 hi8 hL (by decide) rfl) dL_law_1074 ?_
  refine lv_aload_n hx hb dL_law_1075 rfl (lv_at hl 0 rfl) ?_
  refine lv_iload hx hb dL_law_1076 (lv_at hl 4 rfl) ?_
  refine lv_iconst (v := 2) hx hb dL_law_1078 (by decide) ?_
  refine lv_iadd hx hb dL_law_1079 ?_
  refine va_sld hx hb hX hbl hbA V.hS (law_in (k := 2) hi0 hi8 hL (by decide) rfl) dL_law_1080 ?_
  refine lv_aload_n hx hb dL_law_1081 rfl (lv_at hl 0 rfl) ?_
  refine lv_iload hx hb dL_law_1082 (lv_at hl 4 rfl) ?_
  refine lv_iconst (v := 3) hx hb dL_law_1084 (by decide) ?_
  refine lv_iadd hx hb dL_law_1085 ?_
  refine va_sld hx hb hX hbl hbA V.hS (law_in (k := 3) hi0 hi8 hL (by decide) rfl) dL_law_1086 ?_
  refine lM F V (fun r u h => ⟨h.1, DIr_kp h.2.1 (fun _ => rfl) (fun _ => rfl) V.hDI⟩) (va_runV (As := [.int (xs (i + 1).toNatClampNeg), .int (xs (i + 2).toNatClampNeg), .int (xs (i + 3).toNatClampNeg)]) (rest := []) ⟨hx, hb, hml, hown, hts⟩ (q_thrownM l dC dI cT am EM H.size (xs (i + 1).toNatClampNeg) (xs (i + 2).toNatClampNeg) (xs (i + 3).toNatClampNeg) V.hM (hU.ru hT).txm) (cwV 3 hts (gl_V (al_2 _ (zs16 (zs16 (zs4 (zs1 (zs0)))))) (al_2 _ (zs16 (zs16 (zs4 (zs1 (zs1 (zs0))))))) (al_2 _ (zs16 (zs16 (zs4 (zs1 (zs1 (zs1 (zs0)))))))) (vl_A _ (in_24 _ (zs4 (zs4 (zs4 (zs1 (zs1 (zs1 (zs0))))))))) (vl_A _ (in_33 _ (zs16 (zs16 (zs1 (zs1 (zs1 (zs0))))))))) rfl rfl rfl ⟨rfl, hz_yX13_thrown_3⟩ ⟨Nat.le_of_ble_eq_true rfl, Nat.le_of_ble_eq_true rfl⟩) ⟨HW_bl, va_recv F.km V.pm (ci := 14) (q0 := 0) rfl (V.hM.ob 0 (Nat.le_of_ble_eq_true rfl) rfl), HW_wi V.pm F.km V.dm V.hS F.hA F.hEV⟩ rfl rfl hl.1 rfl (lv_room (Nat.le_of_ble_eq_true rfl)) dL_law_1087 ⟨by show cn + 0 ≤ 601024; omega, by show sn + 0 ≤ 7293034; omega⟩) (fun r2 EM1 H locs hw2 V => ?_)
  have hRS := hRS.keep (cf' := cf) (E' := E1) rfl (fun i9 _ => xik hw1.2.1 (o := 64 * (i9 + 1) + 12) (j := 2) (by first | exact wl_p rfl rfl (by omega) | (simp [wl]; done) | (simp [wl]; omega))) (fun i9 _ => xik hw1.2.1 (o := 64 * (i9 + 1) + 12) (j := 3) (by first | exact wl_p rfl rfl (by omega) | (simp [wl]; done) | (simp [wl]; omega)))
  have hG9 := hG
  have hT9 := hT
  have hU9 := hU
  have hb9 : (xi (E 1) 1).toInt ≤ (xi (E1 1) 1).toInt := by rw [show xi (E1 1) 1 = xi (E 1) 1 from xik hw1.2.1 (o := 1) (j := 1) (by first | rfl | (simp [wl]; done) | (simp [wl]; omega))]; exact Int.le_refl _
  have hB := hB.keep (cf' := cf) (E' := E1) rfl hb9 (fun i9 _ => xik hw1.2.1 (o := 64 * (i9 + 1) + 0) (j := 0) (by first | exact wl_p rfl rfl (by omega) | (simp [wl]; done) | (simp [wl]; omega)))
  have hT := hT.keep (cf' := cf) (E' := E1) rfl (xik hw1.2.1 (o := 2) (j := 1) (by first | rfl | (simp [wl]; done) | (simp [wl]; omega))) (fun j9 => xik hw1.2.1 (o := 21) (j := j9) (by first | rfl | (simp [wl]; done) | (simp [wl]; omega))) (fun i9 j9 _ => xik hw1.2.1 (o := 64 * (i9 + 1) + 1) (j := j9) (by first | exact wl_p rfl rfl (by omega) | (simp [wl]; done) | (simp [wl]; omega))) (xik hw2.2.1 (o := 0) (j := 16) rfl) (xik hw2.2.1 (o := 0) (j := 17) rfl) (fun j9 => xik hw2.2.1 (o := 7) (j := j9) rfl) (fun j9 => xik hw2.2.1 (o := 10) (j := j9) rfl) (fun j9 => xik hw2.2.1 (o := 11) (j := j9) rfl)
  have hU := hU.keep (cf' := cf) (E' := E1) rfl (fun _ _ => ⟨rfl, rfl⟩) (fun i9 _ t9 _ _ j9 => xik hw1.2.1 (o := 64 * (i9 + 1) + t9) (j := j9) (by first | exact wl_p rfl rfl (by omega) | (simp [wl]; done) | (simp [wl]; omega))) (fun j9 => xik hw2.2.1 (o := 8) (j := j9) rfl) (fun j9 => xik hw2.2.1 (o := 9) (j := j9) rfl)
  have hG := hG.keep (cf' := cf) (E' := E1) rfl (fun i9 j9 _ => xik hw1.2.1 (o := 64 * (i9 + 1) + 14) (j := j9) (by first | exact wl_p rfl rfl (by omega) | (simp [wl]; done) | (simp [wl]; omega))) (fun j9 => xik hw2.2.1 (o := 51) (j := j9) rfl)
  have e0 : (xi (E 1) 0).toInt = (xi (EM 0) 1).toInt := congrArg Int32.toInt hR.now
  have e1 : (xi (E 1) 1).toInt = (xi (EM 0) 8).toInt := congrArg Int32.toInt hR.boats
  have e2 : (xi (E 1) 2).toInt = (xi (EM 0) 48).toInt := congrArg Int32.toInt hR.red
  obtain ⟨q0, q2, q3, q4, q5⟩ := hR.cnt
  have lm : (-1 : Int32).toInt = -1 := rfl
  have l0 : (0 : Int32).toInt = 0 := rfl
  have l1 : (1 : Int32).toInt = 1 := rfl
  have l2 : (2 : Int32).toInt = 2 := rfl
  have lk : (1000 : Int32).toInt = 1000 := rfl
  have hbr : (0 : Int) ≤ (xi (EM 0) 48).toInt ∧ (xi (EM 0) 48).toInt ≤ 20 := hM0.iv 0 (Nat.le_of_ble_eq_true rfl) rfl (Nat.le_of_ble_eq_true rfl) rfl
  have hbt : ∀ k : Nat, (k : Int) < (xi (EM 0) 48).toInt → 0 ≤ (xi (EM 31) k).toInt := fun k hk => (show (0 : Int) ≤ (xi (EM 31) k).toInt ∧ (xi (EM 31) k).toInt ≤ 400 from hM0.iv 31 (Nat.le_of_ble_eq_true rfl) (t := 1) (c := 0) (nf := 20) rfl (show k < 20 by omega) rfl).1
  have hd : r1.toInt = r2.toInt ∧ True := by
    obtain ⟨-, -, p1, p2⟩ := id hw1
    obtain ⟨-, -, m1, m2⟩ := id hw2
    exact ⟨congrArg Int32.toInt (thr_eq hR hG9 (hU9.ru hT9) hM0 (by omega) (by omega) (by omega) (by omega) bb hbt bn p1 p2 m1 m2), trivial⟩
  have hR := hR.keep hcf k6 k7 k8 hp (kpS hw2.2.1 rfl) (kpR hw2.2.1 rfl)
  refine lv_pop hx hb dL_law_1090 rfl ?_
  refine lv_goto (tgt := 1859) hx hb dL_law_1091 (by decide) ?_
  exact W.widen (k := cn + 7) (n := sn + 3300) (by omega) (by omega) (tail _ _ _ _ _ _ _ _ V ⟨⟨⟨⟨⟨hR, hT⟩, hU⟩, hG⟩, hB⟩, hRS⟩ hl)
