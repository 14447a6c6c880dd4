/-! the law's instructions -/
theorem d_law_788 : decode code 788 = .ok (.iload_n 3, 1) := by decide +kernel
theorem d_law_789 : decode code 789 = .ok (.iconst 1, 1) := by decide +kernel
theorem d_law_790 : decode code 790 = .ok (.iadd, 1) := by decide +kernel
theorem d_law_791 : decode code 791 = .ok (.iaload, 1) := by decide +kernel
theorem d_law_792 : decode code 792 = .ok (.invokevirtual 92, 3) := by decide +kernel
theorem d_law_795 : decode code 795 = .ok (.aload_n 2, 1) := by decide +kernel
theorem d_law_796 : decode code 796 = .ok (.aload_n 0, 1) := by decide +kernel
theorem d_law_797 : decode code 797 = .ok (.iload_n 3, 1) := by decide +kernel
theorem d_law_798 : decode code 798 = .ok (.iconst 1, 1) := by decide +kernel
theorem d_law_799 : decode code 799 = .ok (.iadd, 1) := by decide +kernel
theorem d_law_800 : decode code 800 = .ok (.iaload, 1) := by decide +kernel
theorem d_law_801 : decode code 801 = .ok (.invokevirtual 95, 3) := by decide +kernel
theorem d_law_804 : decode code 804 = .ok (.if_icmp .eq 394, 3) := by decide +kernel
theorem d_law_807 : decode code 807 = .ok (.iconst 0, 1) := by decide +kernel
theorem d_law_808 : decode code 808 = .ok (.ireturn, 1) := by decide +kernel
theorem d_law_809 : decode code 809 = .ok (.aload_n 1, 1) := by decide +kernel
theorem d_law_810 : decode code 810 = .ok (.aload_n 0, 1) := by decide +kernel
theorem d_law_811 : decode code 811 = .ok (.iload_n 3, 1) := by decide +kernel
theorem d_law_812 : decode code 812 = .ok (.iconst 1, 1) := by decide +kernel
theorem d_law_813 : decode code 813 = .ok (.iadd, 1) := by decide +kernel
theorem d_law_814 : decode code 814 = .ok (.iaload, 1) := by decide +kernel
theorem d_law_815 : decode code 815 = .ok (.aload_n 0, 1) := by decide +kernel
theorem d_law_816 : decode code 816 = .ok (.iload_n 3, 1) := by decide +kernel
theorem d_law_817 : decode code 817 = .ok (.iconst 2, 1) := by decide +kernel
theorem d_law_818 : decode code 818 = .ok (.iadd, 1) := by decide +kernel
theorem d_law_819 : decode code 819 = .ok (.iaload, 1) := by decide +kernel
theorem d_law_820 : decode code 820 = .ok (.invokevirtual 96, 3) := by decide +kernel
theorem d_law_823 : decode code 823 = .ok (.aload_n 2, 1) := by decide +kernel
theorem d_law_824 : decode code 824 = .ok (.aload_n 0, 1) := by decide +kernel
theorem d_law_825 : decode code 825 = .ok (.iload_n 3, 1) := by decide +kernel
theorem d_law_826 : decode code 826 = .ok (.iconst 1, 1) := by decide +kernel
theorem d_law_827 : decode code 827 = .ok (.iadd, 1) := by decide +kernel
theorem d_law_828 : decode code 828 = .ok (.iaload, 1) := by decide +kernel
theorem d_law_829 : decode code 829 = .ok (.aload_n 0, 1) := by decide +kernel
theorem d_law_830 : decode code 830 = .ok (.iload_n 3, 1) := by decide +kernel
theorem d_law_831 : decode code 831 = .ok (.iconst 2, 1) := by decide +kernel
theorem d_law_832 : decode code 832 = .ok (.iadd, 1) := by decide +kernel
theorem d_law_833 : decode code 833 = .ok (.iaload, 1) := by decide +kernel
theorem d_law_834 : decode code 834 = .ok (.invokevirtual 99, 3) := by decide +kernel
theorem d_law_837 : decode code 837 = .ok (.if_icmp .eq 361, 3) := by decide +kernel
theorem d_law_840 : decode code 840 = .ok (.iconst 0, 1) := by decide +kernel
theorem d_law_841 : decode code 841 = .ok (.ireturn, 1) := by decide +kernel
theorem d_law_842 : decode code 842 = .ok (.aload_n 1, 1) := by decide +kernel
theorem d_law_843 : decode code 843 = .ok (.invokevirtual 100, 3) := by decide +kernel
theorem d_law_846 : decode code 846 = .ok (.aload_n 2, 1) := by decide +kernel
theorem d_law_847 : decode code 847 = .ok (.invokevirtual 104, 3) := by decide +kernel
theorem d_law_850 : decode code 850 = .ok (.if_icmp .eq 348, 3) := by decide +kernel
theorem d_law_853 : decode code 853 = .ok (.iconst 0, 1) := by decide +kernel
theorem d_law_854 : decode code 854 = .ok (.ireturn, 1) := by decide +kernel
theorem d_law_855 : decode code 855 = .ok (.aload_n 1, 1) := by decide +kernel
theorem d_law_856 : decode code 856 = .ok (.aload_n 0, 1) := by decide +kernel
theorem d_law_857 : decode code 857 = .ok (.iload_n 3, 1) := by decide +kernel
theorem d_law_858 : decode code 858 = .ok (.iconst 1, 1) := by decide +kernel
theorem d_law_859 : decode code 859 = .ok (.iadd, 1) := by decide +kernel
theorem d_law_860 : decode code 860 = .ok (.iaload, 1) := by decide +kernel
theorem d_law_861 : decode code 861 = .ok (.invokevirtual 105, 3) := by decide +kernel
theorem d_law_864 : decode code 864 = .ok (.aload_n 2, 1) := by decide +kernel
theorem d_law_865 : decode code 865 = .ok (.aload_n 0, 1) := by decide +kernel
theorem d_law_866 : decode code 866 = .ok (.iload_n 3, 1) := by decide +kernel
theorem d_law_867 : decode code 867 = .ok (.iconst 1, 1) := by decide +kernel
theorem d_law_868 : decode code 868 = .ok (.iadd, 1) := by decide +kernel
theorem d_law_869 : decode code 869 = .ok (.iaload, 1) := by decide +kernel
theorem d_law_870 : decode code 870 = .ok (.invokevirtual 109, 3) := by decide +kernel
theorem d_law_873 : decode code 873 = .ok (.lcmp, 1) := by decide +kernel
theorem d_law_874 : decode code 874 = .ok (.ifCond .eq 324, 3) := by decide +kernel
theorem d_law_877 : decode code 877 = .ok (.iconst 0, 1) := by decide +kernel
theorem d_law_878 : decode code 878 = .ok (.ireturn, 1) := by decide +kernel
theorem d_law_879 : decode code 879 = .ok (.aload_n 1, 1) := by decide +kernel
theorem d_law_880 : decode code 880 = .ok (.invokevirtual 110, 3) := by decide +kernel
theorem d_law_883 : decode code 883 = .ok (.aload_n 2, 1) := by decide +kernel
theorem d_law_884 : decode code 884 = .ok (.invokevirtual 113, 3) := by decide +kernel
theorem d_law_887 : decode code 887 = .ok (.if_icmp .eq 311, 3) := by decide +kernel
theorem d_law_890 : decode code 890 = .ok (.iconst 0, 1) := by decide +kernel
theorem d_law_891 : decode code 891 = .ok (.ireturn, 1) := by decide +kernel
theorem d_law_892 : decode code 892 = .ok (.aload_n 1, 1) := by decide +kernel
theorem d_law_893 : decode code 893 = .ok (.aload_n 0, 1) := by decide +kernel
theorem d_law_894 : decode code 894 = .ok (.iload_n 3, 1) := by decide +kernel
theorem d_law_895 : decode code 895 = .ok (.iconst 1, 1) := by decide +kernel
theorem d_law_896 : decode code 896 = .ok (.iadd, 1) := by decide +kernel
theorem d_law_897 : decode code 897 = .ok (.iaload, 1) := by decide +kernel
theorem d_law_898 : decode code 898 = .ok (.aload_n 0, 1) := by decide +kernel
theorem d_law_899 : decode code 899 = .ok (.iload_n 3, 1) := by decide +kernel
theorem d_law_900 : decode code 900 = .ok (.iconst 2, 1) := by decide +kernel
theorem d_law_901 : decode code 901 = .ok (.iadd, 1) := by decide +kernel
theorem d_law_902 : decode code 902 = .ok (.iaload, 1) := by decide +kernel
theorem d_law_903 : decode code 903 = .ok (.invokevirtual 114, 3) := by decide +kernel
theorem d_law_906 : decode code 906 = .ok (.aload_n 2, 1) := by decide +kernel
theorem d_law_907 : decode code 907 = .ok (.aload_n 0, 1) := by decide +kernel
theorem d_law_908 : decode code 908 = .ok (.iload_n 3, 1) := by decide +kernel
theorem d_law_909 : decode code 909 = .ok (.iconst 1, 1) := by decide +kernel
theorem d_law_910 : decode code 910 = .ok (.iadd, 1) := by decide +kernel
theorem d_law_911 : decode code 911 = .ok (.iaload, 1) := by decide +kernel
theorem d_law_912 : decode code 912 = .ok (.aload_n 0, 1) := by decide +kernel
theorem d_law_913 : decode code 913 = .ok (.iload_n 3, 1) := by decide +kernel
theorem d_law_914 : decode code 914 = .ok (.iconst 2, 1) := by decide +kernel
theorem d_law_915 : decode code 915 = .ok (.iadd, 1) := by decide +kernel
theorem d_law_916 : decode code 916 = .ok (.iaload, 1) := by decide +kernel
theorem d_law_917 : decode code 917 = .ok (.invokevirtual 117, 3) := by decide +kernel
theorem d_law_920 : decode code 920 = .ok (.if_icmp .eq 278, 3) := by decide +kernel
theorem d_law_923 : decode code 923 = .ok (.iconst 0, 1) := by decide +kernel
theorem d_law_924 : decode code 924 = .ok (.ireturn, 1) := by decide +kernel
theorem d_law_925 : decode code 925 = .ok (.aload_n 1, 1) := by decide +kernel
theorem d_law_926 : decode code 926 = .ok (.aload_n 0, 1) := by decide +kernel
theorem d_law_927 : decode code 927 = .ok (.iload_n 3, 1) := by decide +kernel
theorem d_law_928 : decode code 928 = .ok (.iconst 1, 1) := by decide +kernel
theorem d_law_929 : decode code 929 = .ok (.iadd, 1) := by decide +kernel
theorem d_law_930 : decode code 930 = .ok (.iaload, 1) := by decide +kernel
theorem d_law_931 : decode code 931 = .ok (.invokevirtual 118, 3) := by decide +kernel
theorem d_law_934 : decode code 934 = .ok (.aload_n 2, 1) := by decide +kernel
theorem d_law_935 : decode code 935 = .ok (.aload_n 0, 1) := by decide +kernel
theorem d_law_936 : decode code 936 = .ok (.iload_n 3, 1) := by decide +kernel
theorem d_law_937 : decode code 937 = .ok (.iconst 1, 1) := by decide +kernel
theorem d_law_938 : decode code 938 = .ok (.iadd, 1) := by decide +kernel
theorem d_law_939 : decode code 939 = .ok (.iaload, 1) := by decide +kernel
theorem d_law_940 : decode code 940 = .ok (.invokevirtual 121, 3) := by decide +kernel
theorem d_law_943 : decode code 943 = .ok (.if_icmp .eq 255, 3) := by decide +kernel
theorem d_law_946 : decode code 946 = .ok (.iconst 0, 1) := by decide +kernel
theorem d_law_947 : decode code 947 = .ok (.ireturn, 1) := by decide +kernel
theorem d_law_948 : decode code 948 = .ok (.aload_n 1, 1) := by decide +kernel
theorem d_law_949 : decode code 949 = .ok (.invokevirtual 122, 3) := by decide +kernel
theorem d_law_952 : decode code 952 = .ok (.aload_n 2, 1) := by decide +kernel
theorem d_law_953 : decode code 953 = .ok (.invokevirtual 125, 3) := by decide +kernel
theorem d_law_956 : decode code 956 = .ok (.if_icmp .eq 242, 3) := by decide +kernel
theorem d_law_959 : decode code 959 = .ok (.iconst 0, 1) := by decide +kernel
theorem d_law_960 : decode code 960 = .ok (.ireturn, 1) := by decide +kernel
theorem d_law_961 : decode code 961 = .ok (.aload_n 1, 1) := by decide +kernel
theorem d_law_962 : decode code 962 = .ok (.aload_n 0, 1) := by decide +kernel
theorem d_law_963 : decode code 963 = .ok (.iload_n 3, 1) := by decide +kernel
theorem d_law_964 : decode code 964 = .ok (.iconst 1, 1) := by decide +kernel
theorem d_law_965 : decode code 965 = .ok (.iadd, 1) := by decide +kernel
theorem d_law_966 : decode code 966 = .ok (.iaload, 1) := by decide +kernel
theorem d_law_967 : decode code 967 = .ok (.invokevirtual 126, 3) := by decide +kernel
theorem d_law_970 : decode code 970 = .ok (.aload_n 2, 1) := by decide +kernel
theorem d_law_971 : decode code 971 = .ok (.aload_n 0, 1) := by decide +kernel
theorem d_law_972 : decode code 972 = .ok (.iload_n 3, 1) := by decide +kernel
theorem d_law_973 : decode code 973 = .ok (.iconst 1, 1) := by decide +kernel
theorem d_law_974 : decode code 974 = .ok (.iadd, 1) := by decide +kernel
theorem d_law_975 : decode code 975 = .ok (.iaload, 1) := by decide +kernel
theorem d_law_976 : decode code 976 = .ok (.invokevirtual 129, 3) := by decide +kernel
theorem d_law_979 : decode code 979 = .ok (.lcmp, 1) := by decide +kernel
theorem d_law_980 : decode code 980 = .ok (.ifCond .eq 218, 3) := by decide +kernel
theorem d_law_983 : decode code 983 = .ok (.iconst 0, 1) := by decide +kernel
theorem d_law_984 : decode code 984 = .ok (.ireturn, 1) := by decide +kernel
theorem d_law_985 : decode code 985 = .ok (.aload_n 1, 1) := by decide +kernel
theorem d_law_986 : decode code 986 = .ok (.aload_n 0, 1) := by decide +kernel
theorem d_law_987 : decode code 987 = .ok (.iload_n 3, 1) := by decide +kernel
theorem d_law_988 : decode code 988 = .ok (.iconst 1, 1) := by decide +kernel
theorem d_law_989 : decode code 989 = .ok (.iadd, 1) := by decide +kernel
theorem d_law_990 : decode code 990 = .ok (.iaload, 1) := by decide +kernel
theorem d_law_991 : decode code 991 = .ok (.invokevirtual 130, 3) := by decide +kernel
theorem d_law_994 : decode code 994 = .ok (.aload_n 2, 1) := by decide +kernel
theorem d_law_995 : decode code 995 = .ok (.aload_n 0, 1) := by decide +kernel
theorem d_law_996 : decode code 996 = .ok (.iload_n 3, 1) := by decide +kernel
theorem d_law_997 : decode code 997 = .ok (.iconst 1, 1) := by decide +kernel
theorem d_law_998 : decode code 998 = .ok (.iadd, 1) := by decide +kernel
theorem d_law_999 : decode code 999 = .ok (.iaload, 1) := by decide +kernel
theorem d_law_1000 : decode code 1000 = .ok (.invokevirtual 133, 3) := by decide +kernel
theorem d_law_1003 : decode code 1003 = .ok (.if_icmp .eq 195, 3) := by decide +kernel
theorem d_law_1006 : decode code 1006 = .ok (.iconst 0, 1) := by decide +kernel
theorem d_law_1007 : decode code 1007 = .ok (.ireturn, 1) := by decide +kernel
theorem d_law_1008 : decode code 1008 = .ok (.aload_n 1, 1) := by decide +kernel
theorem d_law_1009 : decode code 1009 = .ok (.aload_n 0, 1) := by decide +kernel
theorem d_law_1010 : decode code 1010 = .ok (.iload_n 3, 1) := by decide +kernel
theorem d_law_1011 : decode code 1011 = .ok (.iconst 1, 1) := by decide +kernel
theorem d_law_1012 : decode code 1012 = .ok (.iadd, 1) := by decide +kernel
theorem d_law_1013 : decode code 1013 = .ok (.iaload, 1) := by decide +kernel
theorem d_law_1014 : decode code 1014 = .ok (.aload_n 0, 1) := by decide +kernel
theorem d_law_1015 : decode code 1015 = .ok (.iload_n 3, 1) := by decide +kernel
theorem d_law_1016 : decode code 1016 = .ok (.iconst 2, 1) := by decide +kernel
theorem d_law_1017 : decode code 1017 = .ok (.iadd, 1) := by decide +kernel
