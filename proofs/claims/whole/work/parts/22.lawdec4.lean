theorem dL_776 : decode code 776 = .ok (.iadd, 1) := by decide +kernel
theorem dL_777 : decode code 777 = .ok (.iaload, 1) := by decide +kernel
theorem dL_778 : decode code 778 = .ok (.invokevirtual 94, 3) := by decide +kernel
theorem dL_781 : decode code 781 = .ok (.aload_n 2, 1) := by decide +kernel
theorem dL_782 : decode code 782 = .ok (.aload_n 0, 1) := by decide +kernel
theorem dL_783 : decode code 783 = .ok (.iload_n 3, 1) := by decide +kernel
theorem dL_784 : decode code 784 = .ok (.iconst 1, 1) := by decide +kernel
theorem dL_785 : decode code 785 = .ok (.iadd, 1) := by decide +kernel
theorem dL_786 : decode code 786 = .ok (.iaload, 1) := by decide +kernel
theorem dL_787 : decode code 787 = .ok (.aload_n 0, 1) := by decide +kernel
theorem dL_788 : decode code 788 = .ok (.iload_n 3, 1) := by decide +kernel
theorem dL_789 : decode code 789 = .ok (.iconst 2, 1) := by decide +kernel
theorem dL_790 : decode code 790 = .ok (.iadd, 1) := by decide +kernel
theorem dL_791 : decode code 791 = .ok (.iaload, 1) := by decide +kernel
theorem dL_792 : decode code 792 = .ok (.aload_n 0, 1) := by decide +kernel
theorem dL_793 : decode code 793 = .ok (.iload_n 3, 1) := by decide +kernel
theorem dL_794 : decode code 794 = .ok (.iconst 3, 1) := by decide +kernel
theorem dL_795 : decode code 795 = .ok (.iadd, 1) := by decide +kernel
theorem dL_796 : decode code 796 = .ok (.iaload, 1) := by decide +kernel
theorem dL_797 : decode code 797 = .ok (.invokevirtual 97, 3) := by decide +kernel
theorem dL_800 : decode code 800 = .ok (.if_icmp .eq 603, 3) := by decide +kernel
theorem dL_803 : decode code 803 = .ok (.iconst 0, 1) := by decide +kernel
theorem dL_804 : decode code 804 = .ok (.ireturn, 1) := by decide +kernel
theorem dL_805 : decode code 805 = .ok (.aload_n 1, 1) := by decide +kernel
theorem dL_806 : decode code 806 = .ok (.aload_n 0, 1) := by decide +kernel
theorem dL_807 : decode code 807 = .ok (.iload_n 3, 1) := by decide +kernel
theorem dL_808 : decode code 808 = .ok (.iconst 1, 1) := by decide +kernel
theorem dL_809 : decode code 809 = .ok (.iadd, 1) := by decide +kernel
theorem dL_810 : decode code 810 = .ok (.iaload, 1) := by decide +kernel
theorem dL_811 : decode code 811 = .ok (.aload_n 0, 1) := by decide +kernel
theorem dL_812 : decode code 812 = .ok (.iload_n 3, 1) := by decide +kernel
theorem dL_813 : decode code 813 = .ok (.iconst 2, 1) := by decide +kernel
theorem dL_814 : decode code 814 = .ok (.iadd, 1) := by decide +kernel
theorem dL_815 : decode code 815 = .ok (.iaload, 1) := by decide +kernel
theorem dL_816 : decode code 816 = .ok (.invokevirtual 98, 3) := by decide +kernel
theorem dL_819 : decode code 819 = .ok (.aload_n 2, 1) := by decide +kernel
theorem dL_820 : decode code 820 = .ok (.aload_n 0, 1) := by decide +kernel
theorem dL_821 : decode code 821 = .ok (.iload_n 3, 1) := by decide +kernel
theorem dL_822 : decode code 822 = .ok (.iconst 1, 1) := by decide +kernel
theorem dL_823 : decode code 823 = .ok (.iadd, 1) := by decide +kernel
theorem dL_824 : decode code 824 = .ok (.iaload, 1) := by decide +kernel
theorem dL_825 : decode code 825 = .ok (.aload_n 0, 1) := by decide +kernel
theorem dL_826 : decode code 826 = .ok (.iload_n 3, 1) := by decide +kernel
theorem dL_827 : decode code 827 = .ok (.iconst 2, 1) := by decide +kernel
theorem dL_828 : decode code 828 = .ok (.iadd, 1) := by decide +kernel
theorem dL_829 : decode code 829 = .ok (.iaload, 1) := by decide +kernel
theorem dL_830 : decode code 830 = .ok (.invokevirtual 101, 3) := by decide +kernel
theorem dL_833 : decode code 833 = .ok (.if_icmp .eq 570, 3) := by decide +kernel
theorem dL_836 : decode code 836 = .ok (.iconst 0, 1) := by decide +kernel
theorem dL_837 : decode code 837 = .ok (.ireturn, 1) := by decide +kernel
theorem dL_838 : decode code 838 = .ok (.aload_n 1, 1) := by decide +kernel
theorem dL_839 : decode code 839 = .ok (.aload_n 0, 1) := by decide +kernel
theorem dL_840 : decode code 840 = .ok (.iload_n 3, 1) := by decide +kernel
theorem dL_841 : decode code 841 = .ok (.iconst 1, 1) := by decide +kernel
theorem dL_842 : decode code 842 = .ok (.iadd, 1) := by decide +kernel
theorem dL_843 : decode code 843 = .ok (.iaload, 1) := by decide +kernel
theorem dL_844 : decode code 844 = .ok (.aload_n 0, 1) := by decide +kernel
theorem dL_845 : decode code 845 = .ok (.iload_n 3, 1) := by decide +kernel
theorem dL_846 : decode code 846 = .ok (.iconst 2, 1) := by decide +kernel
theorem dL_847 : decode code 847 = .ok (.iadd, 1) := by decide +kernel
theorem dL_848 : decode code 848 = .ok (.iaload, 1) := by decide +kernel
theorem dL_849 : decode code 849 = .ok (.aload_n 0, 1) := by decide +kernel
theorem dL_850 : decode code 850 = .ok (.iload_n 3, 1) := by decide +kernel
theorem dL_851 : decode code 851 = .ok (.iconst 3, 1) := by decide +kernel
theorem dL_852 : decode code 852 = .ok (.iadd, 1) := by decide +kernel
theorem dL_853 : decode code 853 = .ok (.iaload, 1) := by decide +kernel
theorem dL_854 : decode code 854 = .ok (.invokevirtual 102, 3) := by decide +kernel
theorem dL_857 : decode code 857 = .ok (.aload_n 2, 1) := by decide +kernel
theorem dL_858 : decode code 858 = .ok (.aload_n 0, 1) := by decide +kernel
theorem dL_859 : decode code 859 = .ok (.iload_n 3, 1) := by decide +kernel
theorem dL_860 : decode code 860 = .ok (.iconst 1, 1) := by decide +kernel
theorem dL_861 : decode code 861 = .ok (.iadd, 1) := by decide +kernel
theorem dL_862 : decode code 862 = .ok (.iaload, 1) := by decide +kernel
theorem dL_863 : decode code 863 = .ok (.aload_n 0, 1) := by decide +kernel
theorem dL_864 : decode code 864 = .ok (.iload_n 3, 1) := by decide +kernel
theorem dL_865 : decode code 865 = .ok (.iconst 2, 1) := by decide +kernel
theorem dL_866 : decode code 866 = .ok (.iadd, 1) := by decide +kernel
theorem dL_867 : decode code 867 = .ok (.iaload, 1) := by decide +kernel
theorem dL_868 : decode code 868 = .ok (.aload_n 0, 1) := by decide +kernel
theorem dL_869 : decode code 869 = .ok (.iload_n 3, 1) := by decide +kernel
theorem dL_870 : decode code 870 = .ok (.iconst 3, 1) := by decide +kernel
theorem dL_871 : decode code 871 = .ok (.iadd, 1) := by decide +kernel
theorem dL_872 : decode code 872 = .ok (.iaload, 1) := by decide +kernel
theorem dL_873 : decode code 873 = .ok (.invokevirtual 105, 3) := by decide +kernel
theorem dL_876 : decode code 876 = .ok (.if_icmp .eq 527, 3) := by decide +kernel
theorem dL_879 : decode code 879 = .ok (.iconst 0, 1) := by decide +kernel
theorem dL_880 : decode code 880 = .ok (.ireturn, 1) := by decide +kernel
theorem dL_881 : decode code 881 = .ok (.aload_n 1, 1) := by decide +kernel
theorem dL_882 : decode code 882 = .ok (.aload_n 0, 1) := by decide +kernel
theorem dL_883 : decode code 883 = .ok (.iload_n 3, 1) := by decide +kernel
theorem dL_884 : decode code 884 = .ok (.iconst 1, 1) := by decide +kernel
theorem dL_885 : decode code 885 = .ok (.iadd, 1) := by decide +kernel
theorem dL_886 : decode code 886 = .ok (.iaload, 1) := by decide +kernel
theorem dL_887 : decode code 887 = .ok (.invokevirtual 106, 3) := by decide +kernel
theorem dL_890 : decode code 890 = .ok (.aload_n 2, 1) := by decide +kernel
theorem dL_891 : decode code 891 = .ok (.aload_n 0, 1) := by decide +kernel
theorem dL_892 : decode code 892 = .ok (.iload_n 3, 1) := by decide +kernel
theorem dL_893 : decode code 893 = .ok (.iconst 1, 1) := by decide +kernel
theorem dL_894 : decode code 894 = .ok (.iadd, 1) := by decide +kernel
theorem dL_895 : decode code 895 = .ok (.iaload, 1) := by decide +kernel
theorem dL_896 : decode code 896 = .ok (.invokevirtual 109, 3) := by decide +kernel
theorem dL_899 : decode code 899 = .ok (.if_icmp .eq 504, 3) := by decide +kernel
theorem dL_902 : decode code 902 = .ok (.iconst 0, 1) := by decide +kernel
theorem dL_903 : decode code 903 = .ok (.ireturn, 1) := by decide +kernel
theorem dL_904 : decode code 904 = .ok (.aload_n 1, 1) := by decide +kernel
theorem dL_905 : decode code 905 = .ok (.aload_n 0, 1) := by decide +kernel
theorem dL_906 : decode code 906 = .ok (.iload_n 3, 1) := by decide +kernel
theorem dL_907 : decode code 907 = .ok (.iconst 1, 1) := by decide +kernel
theorem dL_908 : decode code 908 = .ok (.iadd, 1) := by decide +kernel
theorem dL_909 : decode code 909 = .ok (.iaload, 1) := by decide +kernel
theorem dL_910 : decode code 910 = .ok (.aload_n 0, 1) := by decide +kernel
theorem dL_911 : decode code 911 = .ok (.iload_n 3, 1) := by decide +kernel
theorem dL_912 : decode code 912 = .ok (.iconst 2, 1) := by decide +kernel
theorem dL_913 : decode code 913 = .ok (.iadd, 1) := by decide +kernel
theorem dL_914 : decode code 914 = .ok (.iaload, 1) := by decide +kernel
theorem dL_915 : decode code 915 = .ok (.aload_n 0, 1) := by decide +kernel
theorem dL_916 : decode code 916 = .ok (.iload_n 3, 1) := by decide +kernel
theorem dL_917 : decode code 917 = .ok (.iconst 3, 1) := by decide +kernel
theorem dL_918 : decode code 918 = .ok (.iadd, 1) := by decide +kernel
theorem dL_919 : decode code 919 = .ok (.iaload, 1) := by decide +kernel
