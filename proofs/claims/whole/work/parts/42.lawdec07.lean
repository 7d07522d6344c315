theorem dL_law_719 : decode code 719 = .ok (.iaload, 1) := by decide +kernel
theorem dL_law_720 : decode code 720 = .ok (.aload_n 0, 1) := by decide +kernel
theorem dL_law_721 : decode code 721 = .ok (.iload 4, 2) := by decide +kernel
theorem dL_law_723 : decode code 723 = .ok (.iconst 5, 1) := by decide +kernel
theorem dL_law_724 : decode code 724 = .ok (.iadd, 1) := by decide +kernel
theorem dL_law_725 : decode code 725 = .ok (.iaload, 1) := by decide +kernel
theorem dL_law_726 : decode code 726 = .ok (.aload_n 3, 1) := by decide +kernel
theorem dL_law_727 : decode code 727 = .ok (.invokestatic 128, 3) := by decide +kernel
theorem dL_law_730 : decode code 730 = .ok (.istore 5, 2) := by decide +kernel
theorem dL_law_732 : decode code 732 = .ok (.aload_n 2, 1) := by decide +kernel
theorem dL_law_733 : decode code 733 = .ok (.aload_n 0, 1) := by decide +kernel
theorem dL_law_734 : decode code 734 = .ok (.iload 4, 2) := by decide +kernel
theorem dL_law_736 : decode code 736 = .ok (.iconst 1, 1) := by decide +kernel
theorem dL_law_737 : decode code 737 = .ok (.iadd, 1) := by decide +kernel
theorem dL_law_738 : decode code 738 = .ok (.iaload, 1) := by decide +kernel
theorem dL_law_739 : decode code 739 = .ok (.aload_n 0, 1) := by decide +kernel
theorem dL_law_740 : decode code 740 = .ok (.iload 4, 2) := by decide +kernel
theorem dL_law_742 : decode code 742 = .ok (.iconst 2, 1) := by decide +kernel
theorem dL_law_743 : decode code 743 = .ok (.iadd, 1) := by decide +kernel
theorem dL_law_744 : decode code 744 = .ok (.iaload, 1) := by decide +kernel
theorem dL_law_745 : decode code 745 = .ok (.aload_n 0, 1) := by decide +kernel
theorem dL_law_746 : decode code 746 = .ok (.iload 4, 2) := by decide +kernel
theorem dL_law_748 : decode code 748 = .ok (.iconst 3, 1) := by decide +kernel
theorem dL_law_749 : decode code 749 = .ok (.iadd, 1) := by decide +kernel
theorem dL_law_750 : decode code 750 = .ok (.iaload, 1) := by decide +kernel
theorem dL_law_751 : decode code 751 = .ok (.aload_n 0, 1) := by decide +kernel
theorem dL_law_752 : decode code 752 = .ok (.iload 4, 2) := by decide +kernel
theorem dL_law_754 : decode code 754 = .ok (.iconst 4, 1) := by decide +kernel
theorem dL_law_755 : decode code 755 = .ok (.iadd, 1) := by decide +kernel
theorem dL_law_756 : decode code 756 = .ok (.iaload, 1) := by decide +kernel
theorem dL_law_757 : decode code 757 = .ok (.aload_n 0, 1) := by decide +kernel
theorem dL_law_758 : decode code 758 = .ok (.iload 4, 2) := by decide +kernel
theorem dL_law_760 : decode code 760 = .ok (.iconst 5, 1) := by decide +kernel
theorem dL_law_761 : decode code 761 = .ok (.iadd, 1) := by decide +kernel
theorem dL_law_762 : decode code 762 = .ok (.iaload, 1) := by decide +kernel
theorem dL_law_763 : decode code 763 = .ok (.invokevirtual 131, 3) := by decide +kernel
theorem dL_law_766 : decode code 766 = .ok (.istore 6, 2) := by decide +kernel
theorem dL_law_768 : decode code 768 = .ok (.aload_n 2, 1) := by decide +kernel
theorem dL_law_769 : decode code 769 = .ok (.invokevirtual 85, 3) := by decide +kernel
theorem dL_law_772 : decode code 772 = .ok (.iload 5, 2) := by decide +kernel
theorem dL_law_774 : decode code 774 = .ok (.if_icmp .eq 5, 3) := by decide +kernel
theorem dL_law_777 : decode code 777 = .ok (.iconst 0, 1) := by decide +kernel
theorem dL_law_778 : decode code 778 = .ok (.ireturn, 1) := by decide +kernel
theorem dL_law_779 : decode code 779 = .ok (.iload 5, 2) := by decide +kernel
theorem dL_law_781 : decode code 781 = .ok (.ifCond .ne 15, 3) := by decide +kernel
theorem dL_law_784 : decode code 784 = .ok (.aload_n 3, 1) := by decide +kernel
theorem dL_law_785 : decode code 785 = .ok (.iconst 0, 1) := by decide +kernel
theorem dL_law_786 : decode code 786 = .ok (.laload, 1) := by decide +kernel
theorem dL_law_787 : decode code 787 = .ok (.iload 6, 2) := by decide +kernel
theorem dL_law_789 : decode code 789 = .ok (.i2l, 1) := by decide +kernel
theorem dL_law_790 : decode code 790 = .ok (.lcmp, 1) := by decide +kernel
theorem dL_law_791 : decode code 791 = .ok (.ifCond .eq 5, 3) := by decide +kernel
theorem dL_law_794 : decode code 794 = .ok (.iconst 0, 1) := by decide +kernel
theorem dL_law_795 : decode code 795 = .ok (.ireturn, 1) := by decide +kernel
theorem dL_law_796 : decode code 796 = .ok (.goto 472, 3) := by decide +kernel
theorem dL_law_799 : decode code 799 = .ok (.aload_n 1, 1) := by decide +kernel
theorem dL_law_800 : decode code 800 = .ok (.aload_n 0, 1) := by decide +kernel
theorem dL_law_801 : decode code 801 = .ok (.iload 4, 2) := by decide +kernel
theorem dL_law_803 : decode code 803 = .ok (.iconst 1, 1) := by decide +kernel
theorem dL_law_804 : decode code 804 = .ok (.iadd, 1) := by decide +kernel
