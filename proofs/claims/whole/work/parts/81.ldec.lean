theorem dl_710 : decode code 710 = .ok (.iadd, 1) := by decide +kernel
theorem dl_711 : decode code 711 = .ok (.iaload, 1) := by decide +kernel
theorem dl_712 : decode code 712 = .ok (.invokevirtual 76, 3) := by decide +kernel
theorem dl_715 : decode code 715 = .ok (.if_icmp .eq 141, 3) := by decide +kernel
theorem dl_718 : decode code 718 = .ok (.iconst 0, 1) := by decide +kernel
theorem dl_719 : decode code 719 = .ok (.ireturn, 1) := by decide +kernel
theorem dl_720 : decode code 720 = .ok (.aload_n 1, 1) := by decide +kernel
theorem dl_721 : decode code 721 = .ok (.aload_n 0, 1) := by decide +kernel
theorem dl_722 : decode code 722 = .ok (.iload_n 3, 1) := by decide +kernel
theorem dl_723 : decode code 723 = .ok (.iconst 1, 1) := by decide +kernel
theorem dl_724 : decode code 724 = .ok (.iadd, 1) := by decide +kernel
theorem dl_725 : decode code 725 = .ok (.iaload, 1) := by decide +kernel
theorem dl_726 : decode code 726 = .ok (.invokevirtual 77, 3) := by decide +kernel
theorem dl_729 : decode code 729 = .ok (.aload_n 2, 1) := by decide +kernel
theorem dl_730 : decode code 730 = .ok (.aload_n 0, 1) := by decide +kernel
theorem dl_731 : decode code 731 = .ok (.iload_n 3, 1) := by decide +kernel
theorem dl_732 : decode code 732 = .ok (.iconst 1, 1) := by decide +kernel
theorem dl_733 : decode code 733 = .ok (.iadd, 1) := by decide +kernel
theorem dl_734 : decode code 734 = .ok (.iaload, 1) := by decide +kernel
theorem dl_735 : decode code 735 = .ok (.invokevirtual 81, 3) := by decide +kernel
theorem dl_738 : decode code 738 = .ok (.if_icmp .eq 118, 3) := by decide +kernel
theorem dl_741 : decode code 741 = .ok (.iconst 0, 1) := by decide +kernel
theorem dl_742 : decode code 742 = .ok (.ireturn, 1) := by decide +kernel
theorem dl_743 : decode code 743 = .ok (.aload_n 1, 1) := by decide +kernel
theorem dl_744 : decode code 744 = .ok (.aload_n 0, 1) := by decide +kernel
theorem dl_745 : decode code 745 = .ok (.iload_n 3, 1) := by decide +kernel
theorem dl_746 : decode code 746 = .ok (.iconst 1, 1) := by decide +kernel
theorem dl_747 : decode code 747 = .ok (.iadd, 1) := by decide +kernel
theorem dl_748 : decode code 748 = .ok (.iaload, 1) := by decide +kernel
theorem dl_749 : decode code 749 = .ok (.invokevirtual 82, 3) := by decide +kernel
theorem dl_752 : decode code 752 = .ok (.aload_n 2, 1) := by decide +kernel
theorem dl_753 : decode code 753 = .ok (.aload_n 0, 1) := by decide +kernel
theorem dl_754 : decode code 754 = .ok (.iload_n 3, 1) := by decide +kernel
theorem dl_755 : decode code 755 = .ok (.iconst 1, 1) := by decide +kernel
theorem dl_756 : decode code 756 = .ok (.iadd, 1) := by decide +kernel
theorem dl_757 : decode code 757 = .ok (.iaload, 1) := by decide +kernel
theorem dl_758 : decode code 758 = .ok (.invokevirtual 85, 3) := by decide +kernel
theorem dl_761 : decode code 761 = .ok (.if_icmp .eq 95, 3) := by decide +kernel
theorem dl_764 : decode code 764 = .ok (.iconst 0, 1) := by decide +kernel
theorem dl_765 : decode code 765 = .ok (.ireturn, 1) := by decide +kernel
theorem dl_766 : decode code 766 = .ok (.aload_n 1, 1) := by decide +kernel
theorem dl_767 : decode code 767 = .ok (.aload_n 0, 1) := by decide +kernel
theorem dl_768 : decode code 768 = .ok (.iload_n 3, 1) := by decide +kernel
theorem dl_769 : decode code 769 = .ok (.iconst 1, 1) := by decide +kernel
theorem dl_770 : decode code 770 = .ok (.iadd, 1) := by decide +kernel
theorem dl_771 : decode code 771 = .ok (.iaload, 1) := by decide +kernel
theorem dl_772 : decode code 772 = .ok (.invokevirtual 86, 3) := by decide +kernel
theorem dl_775 : decode code 775 = .ok (.aload_n 2, 1) := by decide +kernel
theorem dl_776 : decode code 776 = .ok (.aload_n 0, 1) := by decide +kernel
theorem dl_777 : decode code 777 = .ok (.iload_n 3, 1) := by decide +kernel
theorem dl_778 : decode code 778 = .ok (.iconst 1, 1) := by decide +kernel
theorem dl_779 : decode code 779 = .ok (.iadd, 1) := by decide +kernel
theorem dl_780 : decode code 780 = .ok (.iaload, 1) := by decide +kernel
theorem dl_781 : decode code 781 = .ok (.invokevirtual 89, 3) := by decide +kernel
theorem dl_784 : decode code 784 = .ok (.if_icmp .eq 72, 3) := by decide +kernel
theorem dl_787 : decode code 787 = .ok (.iconst 0, 1) := by decide +kernel
theorem dl_788 : decode code 788 = .ok (.ireturn, 1) := by decide +kernel
theorem dl_789 : decode code 789 = .ok (.aload_n 1, 1) := by decide +kernel
theorem dl_790 : decode code 790 = .ok (.aload_n 0, 1) := by decide +kernel
theorem dl_791 : decode code 791 = .ok (.iload_n 3, 1) := by decide +kernel
