theorem dL_law_633 : decode code 633 = .ok (.iaload, 1) := by decide +kernel
theorem dL_law_634 : decode code 634 = .ok (.aload_n 0, 1) := by decide +kernel
theorem dL_law_635 : decode code 635 = .ok (.iload 4, 2) := by decide +kernel
theorem dL_law_637 : decode code 637 = .ok (.iconst 2, 1) := by decide +kernel
theorem dL_law_638 : decode code 638 = .ok (.iadd, 1) := by decide +kernel
theorem dL_law_639 : decode code 639 = .ok (.iaload, 1) := by decide +kernel
theorem dL_law_640 : decode code 640 = .ok (.aload_n 3, 1) := by decide +kernel
theorem dL_law_641 : decode code 641 = .ok (.invokestatic 125, 3) := by decide +kernel
theorem dL_law_644 : decode code 644 = .ok (.istore 5, 2) := by decide +kernel
theorem dL_law_646 : decode code 646 = .ok (.aload_n 2, 1) := by decide +kernel
theorem dL_law_647 : decode code 647 = .ok (.aload_n 0, 1) := by decide +kernel
theorem dL_law_648 : decode code 648 = .ok (.iload 4, 2) := by decide +kernel
theorem dL_law_650 : decode code 650 = .ok (.iconst 1, 1) := by decide +kernel
theorem dL_law_651 : decode code 651 = .ok (.iadd, 1) := by decide +kernel
theorem dL_law_652 : decode code 652 = .ok (.iaload, 1) := by decide +kernel
theorem dL_law_653 : decode code 653 = .ok (.aload_n 0, 1) := by decide +kernel
theorem dL_law_654 : decode code 654 = .ok (.iload 4, 2) := by decide +kernel
theorem dL_law_656 : decode code 656 = .ok (.iconst 2, 1) := by decide +kernel
theorem dL_law_657 : decode code 657 = .ok (.iadd, 1) := by decide +kernel
theorem dL_law_658 : decode code 658 = .ok (.iaload, 1) := by decide +kernel
theorem dL_law_659 : decode code 659 = .ok (.invokevirtual 127, 3) := by decide +kernel
theorem dL_law_662 : decode code 662 = .ok (.istore 6, 2) := by decide +kernel
theorem dL_law_664 : decode code 664 = .ok (.aload_n 2, 1) := by decide +kernel
theorem dL_law_665 : decode code 665 = .ok (.invokevirtual 85, 3) := by decide +kernel
theorem dL_law_668 : decode code 668 = .ok (.iload 5, 2) := by decide +kernel
theorem dL_law_670 : decode code 670 = .ok (.if_icmp .eq 5, 3) := by decide +kernel
theorem dL_law_673 : decode code 673 = .ok (.iconst 0, 1) := by decide +kernel
theorem dL_law_674 : decode code 674 = .ok (.ireturn, 1) := by decide +kernel
theorem dL_law_675 : decode code 675 = .ok (.iload 5, 2) := by decide +kernel
theorem dL_law_677 : decode code 677 = .ok (.ifCond .ne 15, 3) := by decide +kernel
theorem dL_law_680 : decode code 680 = .ok (.aload_n 3, 1) := by decide +kernel
theorem dL_law_681 : decode code 681 = .ok (.iconst 0, 1) := by decide +kernel
theorem dL_law_682 : decode code 682 = .ok (.laload, 1) := by decide +kernel
theorem dL_law_683 : decode code 683 = .ok (.iload 6, 2) := by decide +kernel
theorem dL_law_685 : decode code 685 = .ok (.i2l, 1) := by decide +kernel
theorem dL_law_686 : decode code 686 = .ok (.lcmp, 1) := by decide +kernel
theorem dL_law_687 : decode code 687 = .ok (.ifCond .eq 5, 3) := by decide +kernel
theorem dL_law_690 : decode code 690 = .ok (.iconst 0, 1) := by decide +kernel
theorem dL_law_691 : decode code 691 = .ok (.ireturn, 1) := by decide +kernel
theorem dL_law_692 : decode code 692 = .ok (.goto 576, 3) := by decide +kernel
theorem dL_law_695 : decode code 695 = .ok (.aload_n 1, 1) := by decide +kernel
theorem dL_law_696 : decode code 696 = .ok (.aload_n 0, 1) := by decide +kernel
theorem dL_law_697 : decode code 697 = .ok (.iload 4, 2) := by decide +kernel
theorem dL_law_699 : decode code 699 = .ok (.iconst 1, 1) := by decide +kernel
theorem dL_law_700 : decode code 700 = .ok (.iadd, 1) := by decide +kernel
theorem dL_law_701 : decode code 701 = .ok (.iaload, 1) := by decide +kernel
theorem dL_law_702 : decode code 702 = .ok (.aload_n 0, 1) := by decide +kernel
theorem dL_law_703 : decode code 703 = .ok (.iload 4, 2) := by decide +kernel
theorem dL_law_705 : decode code 705 = .ok (.iconst 2, 1) := by decide +kernel
theorem dL_law_706 : decode code 706 = .ok (.iadd, 1) := by decide +kernel
theorem dL_law_707 : decode code 707 = .ok (.iaload, 1) := by decide +kernel
theorem dL_law_708 : decode code 708 = .ok (.aload_n 0, 1) := by decide +kernel
theorem dL_law_709 : decode code 709 = .ok (.iload 4, 2) := by decide +kernel
theorem dL_law_711 : decode code 711 = .ok (.iconst 3, 1) := by decide +kernel
theorem dL_law_712 : decode code 712 = .ok (.iadd, 1) := by decide +kernel
theorem dL_law_713 : decode code 713 = .ok (.iaload, 1) := by decide +kernel
theorem dL_law_714 : decode code 714 = .ok (.aload_n 0, 1) := by decide +kernel
theorem dL_law_715 : decode code 715 = .ok (.iload 4, 2) := by decide +kernel
theorem dL_law_717 : decode code 717 = .ok (.iconst 4, 1) := by decide +kernel
theorem dL_law_718 : decode code 718 = .ok (.iadd, 1) := by decide +kernel
