theorem el_701 : decode code 701 = .ok (.aload_n 0, 1) := by decide +kernel
theorem el_702 : decode code 702 = .ok (.iload 4, 2) := by decide +kernel
theorem el_704 : decode code 704 = .ok (.iconst 1, 1) := by decide +kernel
theorem el_705 : decode code 705 = .ok (.iadd, 1) := by decide +kernel
theorem el_706 : decode code 706 = .ok (.iaload, 1) := by decide +kernel
theorem el_707 : decode code 707 = .ok (.aload_n 0, 1) := by decide +kernel
theorem el_708 : decode code 708 = .ok (.iload 4, 2) := by decide +kernel
theorem el_710 : decode code 710 = .ok (.iconst 2, 1) := by decide +kernel
theorem el_711 : decode code 711 = .ok (.iadd, 1) := by decide +kernel
theorem el_712 : decode code 712 = .ok (.iaload, 1) := by decide +kernel
theorem el_713 : decode code 713 = .ok (.invokevirtual 115, 3) := by decide +kernel
theorem el_716 : decode code 716 = .ok (.aload_n 2, 1) := by decide +kernel
theorem el_717 : decode code 717 = .ok (.aload_n 0, 1) := by decide +kernel
theorem el_718 : decode code 718 = .ok (.iload 4, 2) := by decide +kernel
theorem el_720 : decode code 720 = .ok (.iconst 1, 1) := by decide +kernel
theorem el_721 : decode code 721 = .ok (.iadd, 1) := by decide +kernel
theorem el_722 : decode code 722 = .ok (.iaload, 1) := by decide +kernel
theorem el_723 : decode code 723 = .ok (.aload_n 0, 1) := by decide +kernel
theorem el_724 : decode code 724 = .ok (.iload 4, 2) := by decide +kernel
theorem el_726 : decode code 726 = .ok (.iconst 2, 1) := by decide +kernel
theorem el_727 : decode code 727 = .ok (.iadd, 1) := by decide +kernel
theorem el_728 : decode code 728 = .ok (.iaload, 1) := by decide +kernel
theorem el_729 : decode code 729 = .ok (.invokevirtual 118, 3) := by decide +kernel
theorem el_732 : decode code 732 = .ok (.if_icmp .eq 186, 3) := by decide +kernel
theorem el_737 : decode code 737 = .ok (.aload_n 1, 1) := by decide +kernel
theorem el_738 : decode code 738 = .ok (.aload_n 0, 1) := by decide +kernel
theorem el_739 : decode code 739 = .ok (.iload 4, 2) := by decide +kernel
theorem el_741 : decode code 741 = .ok (.iconst 1, 1) := by decide +kernel
theorem el_742 : decode code 742 = .ok (.iadd, 1) := by decide +kernel
theorem el_743 : decode code 743 = .ok (.iaload, 1) := by decide +kernel
theorem el_744 : decode code 744 = .ok (.aload_n 0, 1) := by decide +kernel
theorem el_745 : decode code 745 = .ok (.iload 4, 2) := by decide +kernel
theorem el_747 : decode code 747 = .ok (.iconst 2, 1) := by decide +kernel
theorem el_748 : decode code 748 = .ok (.iadd, 1) := by decide +kernel
theorem el_749 : decode code 749 = .ok (.iaload, 1) := by decide +kernel
theorem el_750 : decode code 750 = .ok (.invokevirtual 119, 3) := by decide +kernel
theorem el_753 : decode code 753 = .ok (.aload_n 2, 1) := by decide +kernel
theorem el_754 : decode code 754 = .ok (.aload_n 0, 1) := by decide +kernel
theorem el_755 : decode code 755 = .ok (.iload 4, 2) := by decide +kernel
theorem el_757 : decode code 757 = .ok (.iconst 1, 1) := by decide +kernel
theorem el_758 : decode code 758 = .ok (.iadd, 1) := by decide +kernel
theorem el_759 : decode code 759 = .ok (.iaload, 1) := by decide +kernel
theorem el_760 : decode code 760 = .ok (.aload_n 0, 1) := by decide +kernel
theorem el_761 : decode code 761 = .ok (.iload 4, 2) := by decide +kernel
theorem el_763 : decode code 763 = .ok (.iconst 2, 1) := by decide +kernel
theorem el_764 : decode code 764 = .ok (.iadd, 1) := by decide +kernel
theorem el_765 : decode code 765 = .ok (.iaload, 1) := by decide +kernel
theorem el_766 : decode code 766 = .ok (.invokevirtual 122, 3) := by decide +kernel
theorem el_769 : decode code 769 = .ok (.if_icmp .eq 149, 3) := by decide +kernel
theorem el_774 : decode code 774 = .ok (.aload_n 1, 1) := by decide +kernel
theorem el_775 : decode code 775 = .ok (.invokevirtual 123, 3) := by decide +kernel
theorem el_778 : decode code 778 = .ok (.aload_n 2, 1) := by decide +kernel
theorem el_779 : decode code 779 = .ok (.invokevirtual 126, 3) := by decide +kernel
theorem el_782 : decode code 782 = .ok (.if_icmp .eq 136, 3) := by decide +kernel
theorem el_787 : decode code 787 = .ok (.aload_n 1, 1) := by decide +kernel
theorem el_788 : decode code 788 = .ok (.invokevirtual 127, 3) := by decide +kernel
theorem el_791 : decode code 791 = .ok (.aload_n 2, 1) := by decide +kernel
theorem el_792 : decode code 792 = .ok (.invokevirtual 130, 3) := by decide +kernel
theorem el_795 : decode code 795 = .ok (.if_icmp .eq 123, 3) := by decide +kernel
theorem el_800 : decode code 800 = .ok (.aload_n 1, 1) := by decide +kernel
theorem el_801 : decode code 801 = .ok (.invokevirtual 131, 3) := by decide +kernel
theorem el_804 : decode code 804 = .ok (.aload_n 2, 1) := by decide +kernel
theorem el_805 : decode code 805 = .ok (.invokevirtual 134, 3) := by decide +kernel
theorem el_808 : decode code 808 = .ok (.if_icmp .eq 110, 3) := by decide +kernel
theorem el_813 : decode code 813 = .ok (.aload_n 1, 1) := by decide +kernel
theorem el_814 : decode code 814 = .ok (.aload_n 0, 1) := by decide +kernel
theorem el_815 : decode code 815 = .ok (.iload 4, 2) := by decide +kernel
theorem el_817 : decode code 817 = .ok (.iconst 1, 1) := by decide +kernel
theorem el_818 : decode code 818 = .ok (.iadd, 1) := by decide +kernel
theorem el_819 : decode code 819 = .ok (.iaload, 1) := by decide +kernel
theorem el_820 : decode code 820 = .ok (.invokevirtual 135, 3) := by decide +kernel
theorem el_823 : decode code 823 = .ok (.aload_n 2, 1) := by decide +kernel
theorem el_824 : decode code 824 = .ok (.aload_n 0, 1) := by decide +kernel
theorem el_825 : decode code 825 = .ok (.iload 4, 2) := by decide +kernel
theorem el_827 : decode code 827 = .ok (.iconst 1, 1) := by decide +kernel
theorem el_828 : decode code 828 = .ok (.iadd, 1) := by decide +kernel
theorem el_829 : decode code 829 = .ok (.iaload, 1) := by decide +kernel
theorem el_830 : decode code 830 = .ok (.invokevirtual 138, 3) := by decide +kernel
theorem el_833 : decode code 833 = .ok (.if_icmp .eq 85, 3) := by decide +kernel
theorem el_838 : decode code 838 = .ok (.aload_n 1, 1) := by decide +kernel
theorem el_839 : decode code 839 = .ok (.aload_n 0, 1) := by decide +kernel
theorem el_840 : decode code 840 = .ok (.iload 4, 2) := by decide +kernel
theorem el_842 : decode code 842 = .ok (.iconst 1, 1) := by decide +kernel
theorem el_843 : decode code 843 = .ok (.iadd, 1) := by decide +kernel
theorem el_844 : decode code 844 = .ok (.iaload, 1) := by decide +kernel
theorem el_845 : decode code 845 = .ok (.invokevirtual 139, 3) := by decide +kernel
theorem el_848 : decode code 848 = .ok (.aload_n 2, 1) := by decide +kernel
theorem el_849 : decode code 849 = .ok (.aload_n 0, 1) := by decide +kernel
theorem el_850 : decode code 850 = .ok (.iload 4, 2) := by decide +kernel
theorem el_852 : decode code 852 = .ok (.iconst 1, 1) := by decide +kernel
theorem el_853 : decode code 853 = .ok (.iadd, 1) := by decide +kernel
theorem el_854 : decode code 854 = .ok (.iaload, 1) := by decide +kernel
theorem el_855 : decode code 855 = .ok (.invokevirtual 142, 3) := by decide +kernel
theorem el_858 : decode code 858 = .ok (.if_icmp .eq 60, 3) := by decide +kernel
theorem el_863 : decode code 863 = .ok (.aload_n 1, 1) := by decide +kernel
theorem el_864 : decode code 864 = .ok (.aload_n 0, 1) := by decide +kernel
theorem el_865 : decode code 865 = .ok (.iload 4, 2) := by decide +kernel
theorem el_867 : decode code 867 = .ok (.iconst 1, 1) := by decide +kernel
theorem el_868 : decode code 868 = .ok (.iadd, 1) := by decide +kernel
theorem el_869 : decode code 869 = .ok (.iaload, 1) := by decide +kernel
theorem el_870 : decode code 870 = .ok (.aload_n 3, 1) := by decide +kernel
theorem el_871 : decode code 871 = .ok (.invokestatic 143, 3) := by decide +kernel
theorem el_874 : decode code 874 = .ok (.istore 5, 2) := by decide +kernel
theorem el_876 : decode code 876 = .ok (.aload_n 2, 1) := by decide +kernel
theorem el_877 : decode code 877 = .ok (.aload_n 0, 1) := by decide +kernel
theorem el_878 : decode code 878 = .ok (.iload 4, 2) := by decide +kernel
theorem el_880 : decode code 880 = .ok (.iconst 1, 1) := by decide +kernel
theorem el_881 : decode code 881 = .ok (.iadd, 1) := by decide +kernel
theorem el_882 : decode code 882 = .ok (.iaload, 1) := by decide +kernel
theorem el_883 : decode code 883 = .ok (.invokevirtual 146, 3) := by decide +kernel
