/-! the law's instructions -/
theorem dl_793 : decode code 793 = .ok (.aload_n 0, 1) := by decide +kernel
theorem dl_794 : decode code 794 = .ok (.iload 4, 2) := by decide +kernel
theorem dl_796 : decode code 796 = .ok (.iconst 2, 1) := by decide +kernel
theorem dl_797 : decode code 797 = .ok (.iadd, 1) := by decide +kernel
theorem dl_798 : decode code 798 = .ok (.iaload, 1) := by decide +kernel
theorem dl_799 : decode code 799 = .ok (.aload_n 0, 1) := by decide +kernel
theorem dl_800 : decode code 800 = .ok (.iload 4, 2) := by decide +kernel
theorem dl_802 : decode code 802 = .ok (.iconst 3, 1) := by decide +kernel
theorem dl_803 : decode code 803 = .ok (.iadd, 1) := by decide +kernel
theorem dl_804 : decode code 804 = .ok (.iaload, 1) := by decide +kernel
theorem dl_805 : decode code 805 = .ok (.aload_n 0, 1) := by decide +kernel
theorem dl_806 : decode code 806 = .ok (.iload 4, 2) := by decide +kernel
theorem dl_808 : decode code 808 = .ok (.iconst 4, 1) := by decide +kernel
theorem dl_809 : decode code 809 = .ok (.iadd, 1) := by decide +kernel
theorem dl_810 : decode code 810 = .ok (.iaload, 1) := by decide +kernel
theorem dl_811 : decode code 811 = .ok (.invokevirtual 104, 3) := by decide +kernel
theorem dl_814 : decode code 814 = .ok (.if_icmp .eq 309, 3) := by decide +kernel
theorem dl_817 : decode code 817 = .ok (.iconst 0, 1) := by decide +kernel
theorem dl_818 : decode code 818 = .ok (.ireturn, 1) := by decide +kernel
theorem dl_819 : decode code 819 = .ok (.aload_n 1, 1) := by decide +kernel
theorem dl_820 : decode code 820 = .ok (.aload_n 0, 1) := by decide +kernel
theorem dl_821 : decode code 821 = .ok (.iload 4, 2) := by decide +kernel
theorem dl_823 : decode code 823 = .ok (.iconst 1, 1) := by decide +kernel
theorem dl_824 : decode code 824 = .ok (.iadd, 1) := by decide +kernel
theorem dl_825 : decode code 825 = .ok (.iaload, 1) := by decide +kernel
theorem dl_826 : decode code 826 = .ok (.invokevirtual 105, 3) := by decide +kernel
theorem dl_829 : decode code 829 = .ok (.aload_n 2, 1) := by decide +kernel
theorem dl_830 : decode code 830 = .ok (.aload_n 0, 1) := by decide +kernel
theorem dl_831 : decode code 831 = .ok (.iload 4, 2) := by decide +kernel
theorem dl_833 : decode code 833 = .ok (.iconst 1, 1) := by decide +kernel
theorem dl_834 : decode code 834 = .ok (.iadd, 1) := by decide +kernel
theorem dl_835 : decode code 835 = .ok (.iaload, 1) := by decide +kernel
theorem dl_836 : decode code 836 = .ok (.invokevirtual 108, 3) := by decide +kernel
theorem dl_839 : decode code 839 = .ok (.if_icmp .eq 284, 3) := by decide +kernel
theorem dl_842 : decode code 842 = .ok (.iconst 0, 1) := by decide +kernel
theorem dl_843 : decode code 843 = .ok (.ireturn, 1) := by decide +kernel
theorem dl_844 : decode code 844 = .ok (.aload_n 1, 1) := by decide +kernel
theorem dl_845 : decode code 845 = .ok (.aload_n 0, 1) := by decide +kernel
theorem dl_846 : decode code 846 = .ok (.iload 4, 2) := by decide +kernel
theorem dl_848 : decode code 848 = .ok (.iconst 1, 1) := by decide +kernel
theorem dl_849 : decode code 849 = .ok (.iadd, 1) := by decide +kernel
theorem dl_850 : decode code 850 = .ok (.iaload, 1) := by decide +kernel
theorem dl_851 : decode code 851 = .ok (.invokevirtual 109, 3) := by decide +kernel
theorem dl_854 : decode code 854 = .ok (.aload_n 2, 1) := by decide +kernel
theorem dl_855 : decode code 855 = .ok (.aload_n 0, 1) := by decide +kernel
theorem dl_856 : decode code 856 = .ok (.iload 4, 2) := by decide +kernel
theorem dl_858 : decode code 858 = .ok (.iconst 1, 1) := by decide +kernel
theorem dl_859 : decode code 859 = .ok (.iadd, 1) := by decide +kernel
theorem dl_860 : decode code 860 = .ok (.iaload, 1) := by decide +kernel
theorem dl_861 : decode code 861 = .ok (.invokevirtual 112, 3) := by decide +kernel
theorem dl_864 : decode code 864 = .ok (.lcmp, 1) := by decide +kernel
theorem dl_865 : decode code 865 = .ok (.ifCond .eq 258, 3) := by decide +kernel
theorem dl_868 : decode code 868 = .ok (.iconst 0, 1) := by decide +kernel
theorem dl_869 : decode code 869 = .ok (.ireturn, 1) := by decide +kernel
theorem dl_870 : decode code 870 = .ok (.aload_n 1, 1) := by decide +kernel
theorem dl_871 : decode code 871 = .ok (.aload_n 0, 1) := by decide +kernel
theorem dl_872 : decode code 872 = .ok (.iload 4, 2) := by decide +kernel
theorem dl_874 : decode code 874 = .ok (.iconst 1, 1) := by decide +kernel
theorem dl_875 : decode code 875 = .ok (.iadd, 1) := by decide +kernel
theorem dl_876 : decode code 876 = .ok (.iaload, 1) := by decide +kernel
theorem dl_877 : decode code 877 = .ok (.invokevirtual 113, 3) := by decide +kernel
theorem dl_880 : decode code 880 = .ok (.aload_n 2, 1) := by decide +kernel
theorem dl_881 : decode code 881 = .ok (.aload_n 0, 1) := by decide +kernel
theorem dl_882 : decode code 882 = .ok (.iload 4, 2) := by decide +kernel
theorem dl_884 : decode code 884 = .ok (.iconst 1, 1) := by decide +kernel
theorem dl_885 : decode code 885 = .ok (.iadd, 1) := by decide +kernel
theorem dl_886 : decode code 886 = .ok (.iaload, 1) := by decide +kernel
theorem dl_887 : decode code 887 = .ok (.invokevirtual 116, 3) := by decide +kernel
theorem dl_890 : decode code 890 = .ok (.lcmp, 1) := by decide +kernel
theorem dl_891 : decode code 891 = .ok (.ifCond .eq 232, 3) := by decide +kernel
theorem dl_894 : decode code 894 = .ok (.iconst 0, 1) := by decide +kernel
theorem dl_895 : decode code 895 = .ok (.ireturn, 1) := by decide +kernel
theorem dl_896 : decode code 896 = .ok (.aload_n 1, 1) := by decide +kernel
theorem dl_897 : decode code 897 = .ok (.aload_n 0, 1) := by decide +kernel
theorem dl_898 : decode code 898 = .ok (.iload 4, 2) := by decide +kernel
theorem dl_900 : decode code 900 = .ok (.iconst 1, 1) := by decide +kernel
theorem dl_901 : decode code 901 = .ok (.iadd, 1) := by decide +kernel
theorem dl_902 : decode code 902 = .ok (.iaload, 1) := by decide +kernel
theorem dl_903 : decode code 903 = .ok (.aload_n 0, 1) := by decide +kernel
theorem dl_904 : decode code 904 = .ok (.iload 4, 2) := by decide +kernel
theorem dl_906 : decode code 906 = .ok (.iconst 2, 1) := by decide +kernel
theorem dl_907 : decode code 907 = .ok (.iadd, 1) := by decide +kernel
theorem dl_908 : decode code 908 = .ok (.iaload, 1) := by decide +kernel
theorem dl_909 : decode code 909 = .ok (.invokevirtual 117, 3) := by decide +kernel
theorem dl_912 : decode code 912 = .ok (.aload_n 2, 1) := by decide +kernel
theorem dl_913 : decode code 913 = .ok (.aload_n 0, 1) := by decide +kernel
theorem dl_914 : decode code 914 = .ok (.iload 4, 2) := by decide +kernel
theorem dl_916 : decode code 916 = .ok (.iconst 1, 1) := by decide +kernel
theorem dl_917 : decode code 917 = .ok (.iadd, 1) := by decide +kernel
theorem dl_918 : decode code 918 = .ok (.iaload, 1) := by decide +kernel
theorem dl_919 : decode code 919 = .ok (.aload_n 0, 1) := by decide +kernel
theorem dl_920 : decode code 920 = .ok (.iload 4, 2) := by decide +kernel
theorem dl_922 : decode code 922 = .ok (.iconst 2, 1) := by decide +kernel
theorem dl_923 : decode code 923 = .ok (.iadd, 1) := by decide +kernel
theorem dl_924 : decode code 924 = .ok (.iaload, 1) := by decide +kernel
theorem dl_925 : decode code 925 = .ok (.invokevirtual 120, 3) := by decide +kernel
theorem dl_928 : decode code 928 = .ok (.lcmp, 1) := by decide +kernel
theorem dl_929 : decode code 929 = .ok (.ifCond .eq 194, 3) := by decide +kernel
theorem dl_932 : decode code 932 = .ok (.iconst 0, 1) := by decide +kernel
theorem dl_933 : decode code 933 = .ok (.ireturn, 1) := by decide +kernel
theorem dl_934 : decode code 934 = .ok (.aload_n 1, 1) := by decide +kernel
theorem dl_935 : decode code 935 = .ok (.aload_n 0, 1) := by decide +kernel
theorem dl_936 : decode code 936 = .ok (.iload 4, 2) := by decide +kernel
theorem dl_938 : decode code 938 = .ok (.iconst 1, 1) := by decide +kernel
theorem dl_939 : decode code 939 = .ok (.iadd, 1) := by decide +kernel
theorem dl_940 : decode code 940 = .ok (.iaload, 1) := by decide +kernel
theorem dl_941 : decode code 941 = .ok (.invokevirtual 121, 3) := by decide +kernel
theorem dl_944 : decode code 944 = .ok (.aload_n 2, 1) := by decide +kernel
theorem dl_945 : decode code 945 = .ok (.aload_n 0, 1) := by decide +kernel
theorem dl_946 : decode code 946 = .ok (.iload 4, 2) := by decide +kernel
theorem dl_948 : decode code 948 = .ok (.iconst 1, 1) := by decide +kernel
theorem dl_949 : decode code 949 = .ok (.iadd, 1) := by decide +kernel
theorem dl_950 : decode code 950 = .ok (.iaload, 1) := by decide +kernel
theorem dl_951 : decode code 951 = .ok (.invokevirtual 124, 3) := by decide +kernel
theorem dl_954 : decode code 954 = .ok (.lcmp, 1) := by decide +kernel
theorem dl_955 : decode code 955 = .ok (.ifCond .eq 168, 3) := by decide +kernel
theorem dl_958 : decode code 958 = .ok (.iconst 0, 1) := by decide +kernel
theorem dl_959 : decode code 959 = .ok (.ireturn, 1) := by decide +kernel
theorem dl_960 : decode code 960 = .ok (.aload_n 1, 1) := by decide +kernel
theorem dl_961 : decode code 961 = .ok (.aload_n 0, 1) := by decide +kernel
theorem dl_962 : decode code 962 = .ok (.iload 4, 2) := by decide +kernel
theorem dl_964 : decode code 964 = .ok (.iconst 1, 1) := by decide +kernel
theorem dl_965 : decode code 965 = .ok (.iadd, 1) := by decide +kernel
theorem dl_966 : decode code 966 = .ok (.iaload, 1) := by decide +kernel
theorem dl_967 : decode code 967 = .ok (.invokevirtual 125, 3) := by decide +kernel
theorem dl_970 : decode code 970 = .ok (.aload_n 2, 1) := by decide +kernel
theorem dl_971 : decode code 971 = .ok (.aload_n 0, 1) := by decide +kernel
theorem dl_972 : decode code 972 = .ok (.iload 4, 2) := by decide +kernel
theorem dl_974 : decode code 974 = .ok (.iconst 1, 1) := by decide +kernel
theorem dl_975 : decode code 975 = .ok (.iadd, 1) := by decide +kernel
theorem dl_976 : decode code 976 = .ok (.iaload, 1) := by decide +kernel
theorem dl_977 : decode code 977 = .ok (.invokevirtual 128, 3) := by decide +kernel
theorem dl_980 : decode code 980 = .ok (.if_icmp .eq 143, 3) := by decide +kernel
theorem dl_983 : decode code 983 = .ok (.iconst 0, 1) := by decide +kernel
theorem dl_984 : decode code 984 = .ok (.ireturn, 1) := by decide +kernel
theorem dl_985 : decode code 985 = .ok (.aload_n 1, 1) := by decide +kernel
theorem dl_986 : decode code 986 = .ok (.aload_n 0, 1) := by decide +kernel
theorem dl_987 : decode code 987 = .ok (.iload 4, 2) := by decide +kernel
theorem dl_989 : decode code 989 = .ok (.iconst 1, 1) := by decide +kernel
theorem dl_990 : decode code 990 = .ok (.iadd, 1) := by decide +kernel
theorem dl_991 : decode code 991 = .ok (.iaload, 1) := by decide +kernel
theorem dl_992 : decode code 992 = .ok (.invokevirtual 129, 3) := by decide +kernel
theorem dl_995 : decode code 995 = .ok (.aload_n 2, 1) := by decide +kernel
theorem dl_996 : decode code 996 = .ok (.aload_n 0, 1) := by decide +kernel
theorem dl_997 : decode code 997 = .ok (.iload 4, 2) := by decide +kernel
theorem dl_999 : decode code 999 = .ok (.iconst 1, 1) := by decide +kernel
theorem dl_1000 : decode code 1000 = .ok (.iadd, 1) := by decide +kernel
theorem dl_1001 : decode code 1001 = .ok (.iaload, 1) := by decide +kernel
theorem dl_1002 : decode code 1002 = .ok (.invokevirtual 133, 3) := by decide +kernel
theorem dl_1005 : decode code 1005 = .ok (.if_icmp .eq 118, 3) := by decide +kernel
theorem dl_1008 : decode code 1008 = .ok (.iconst 0, 1) := by decide +kernel
theorem dl_1009 : decode code 1009 = .ok (.ireturn, 1) := by decide +kernel
theorem dl_1010 : decode code 1010 = .ok (.aload_n 1, 1) := by decide +kernel
theorem dl_1011 : decode code 1011 = .ok (.aload_n 0, 1) := by decide +kernel
theorem dl_1012 : decode code 1012 = .ok (.iload 4, 2) := by decide +kernel
theorem dl_1014 : decode code 1014 = .ok (.iconst 1, 1) := by decide +kernel
theorem dl_1015 : decode code 1015 = .ok (.iadd, 1) := by decide +kernel
theorem dl_1016 : decode code 1016 = .ok (.iaload, 1) := by decide +kernel
theorem dl_1017 : decode code 1017 = .ok (.invokevirtual 134, 3) := by decide +kernel
theorem dl_1020 : decode code 1020 = .ok (.aload_n 2, 1) := by decide +kernel
theorem dl_1021 : decode code 1021 = .ok (.aload_n 0, 1) := by decide +kernel
theorem dl_1022 : decode code 1022 = .ok (.iload 4, 2) := by decide +kernel
theorem dl_1024 : decode code 1024 = .ok (.iconst 1, 1) := by decide +kernel
theorem dl_1025 : decode code 1025 = .ok (.iadd, 1) := by decide +kernel
theorem dl_1026 : decode code 1026 = .ok (.iaload, 1) := by decide +kernel
theorem dl_1027 : decode code 1027 = .ok (.invokevirtual 137, 3) := by decide +kernel
theorem dl_1030 : decode code 1030 = .ok (.if_icmp .eq 93, 3) := by decide +kernel
theorem dl_1033 : decode code 1033 = .ok (.iconst 0, 1) := by decide +kernel
theorem dl_1034 : decode code 1034 = .ok (.ireturn, 1) := by decide +kernel
theorem dl_1035 : decode code 1035 = .ok (.aload_n 1, 1) := by decide +kernel
theorem dl_1036 : decode code 1036 = .ok (.aload_n 0, 1) := by decide +kernel
theorem dl_1037 : decode code 1037 = .ok (.iload 4, 2) := by decide +kernel
theorem dl_1039 : decode code 1039 = .ok (.iconst 1, 1) := by decide +kernel
theorem dl_1040 : decode code 1040 = .ok (.iadd, 1) := by decide +kernel
theorem dl_1041 : decode code 1041 = .ok (.iaload, 1) := by decide +kernel
theorem dl_1042 : decode code 1042 = .ok (.invokevirtual 138, 3) := by decide +kernel
theorem dl_1045 : decode code 1045 = .ok (.aload_n 2, 1) := by decide +kernel
theorem dl_1046 : decode code 1046 = .ok (.aload_n 0, 1) := by decide +kernel
theorem dl_1047 : decode code 1047 = .ok (.iload 4, 2) := by decide +kernel
theorem dl_1049 : decode code 1049 = .ok (.iconst 1, 1) := by decide +kernel
theorem dl_1050 : decode code 1050 = .ok (.iadd, 1) := by decide +kernel
theorem dl_1051 : decode code 1051 = .ok (.iaload, 1) := by decide +kernel
theorem dl_1052 : decode code 1052 = .ok (.invokevirtual 141, 3) := by decide +kernel
theorem dl_1055 : decode code 1055 = .ok (.if_icmp .eq 68, 3) := by decide +kernel
theorem dl_1058 : decode code 1058 = .ok (.iconst 0, 1) := by decide +kernel
theorem dl_1059 : decode code 1059 = .ok (.ireturn, 1) := by decide +kernel
theorem dl_1060 : decode code 1060 = .ok (.aload_n 1, 1) := by decide +kernel
theorem dl_1061 : decode code 1061 = .ok (.invokevirtual 142, 3) := by decide +kernel
theorem dl_1064 : decode code 1064 = .ok (.aload_n 2, 1) := by decide +kernel
theorem dl_1065 : decode code 1065 = .ok (.invokevirtual 145, 3) := by decide +kernel
theorem dl_1068 : decode code 1068 = .ok (.if_icmp .eq 55, 3) := by decide +kernel
theorem dl_1071 : decode code 1071 = .ok (.iconst 0, 1) := by decide +kernel
theorem dl_1072 : decode code 1072 = .ok (.ireturn, 1) := by decide +kernel
theorem dl_1073 : decode code 1073 = .ok (.aload_n 1, 1) := by decide +kernel
theorem dl_1074 : decode code 1074 = .ok (.aload_n 0, 1) := by decide +kernel
theorem dl_1075 : decode code 1075 = .ok (.iload 4, 2) := by decide +kernel
theorem dl_1077 : decode code 1077 = .ok (.iconst 1, 1) := by decide +kernel
theorem dl_1078 : decode code 1078 = .ok (.iadd, 1) := by decide +kernel
theorem dl_1079 : decode code 1079 = .ok (.iaload, 1) := by decide +kernel
theorem dl_1080 : decode code 1080 = .ok (.invokevirtual 146, 3) := by decide +kernel
theorem dl_1083 : decode code 1083 = .ok (.aload_n 2, 1) := by decide +kernel
theorem dl_1084 : decode code 1084 = .ok (.aload_n 0, 1) := by decide +kernel
theorem dl_1085 : decode code 1085 = .ok (.iload 4, 2) := by decide +kernel
theorem dl_1087 : decode code 1087 = .ok (.iconst 1, 1) := by decide +kernel
theorem dl_1088 : decode code 1088 = .ok (.iadd, 1) := by decide +kernel
theorem dl_1089 : decode code 1089 = .ok (.iaload, 1) := by decide +kernel
theorem dl_1090 : decode code 1090 = .ok (.invokevirtual 149, 3) := by decide +kernel
theorem dl_1093 : decode code 1093 = .ok (.if_icmp .eq 30, 3) := by decide +kernel
theorem dl_1096 : decode code 1096 = .ok (.iconst 0, 1) := by decide +kernel
theorem dl_1097 : decode code 1097 = .ok (.ireturn, 1) := by decide +kernel
theorem dl_1098 : decode code 1098 = .ok (.aload_n 1, 1) := by decide +kernel
theorem dl_1099 : decode code 1099 = .ok (.aload_n 0, 1) := by decide +kernel
theorem dl_1100 : decode code 1100 = .ok (.iload 4, 2) := by decide +kernel
theorem dl_1102 : decode code 1102 = .ok (.iconst 1, 1) := by decide +kernel
theorem dl_1103 : decode code 1103 = .ok (.iadd, 1) := by decide +kernel
theorem dl_1104 : decode code 1104 = .ok (.iaload, 1) := by decide +kernel
theorem dl_1105 : decode code 1105 = .ok (.invokevirtual 150, 3) := by decide +kernel
theorem dl_1108 : decode code 1108 = .ok (.aload_n 2, 1) := by decide +kernel
theorem dl_1109 : decode code 1109 = .ok (.aload_n 0, 1) := by decide +kernel
theorem dl_1110 : decode code 1110 = .ok (.iload 4, 2) := by decide +kernel
theorem dl_1112 : decode code 1112 = .ok (.iconst 1, 1) := by decide +kernel
theorem dl_1113 : decode code 1113 = .ok (.iadd, 1) := by decide +kernel
theorem dl_1114 : decode code 1114 = .ok (.iaload, 1) := by decide +kernel
theorem dl_1115 : decode code 1115 = .ok (.invokevirtual 153, 3) := by decide +kernel
theorem dl_1118 : decode code 1118 = .ok (.if_icmp .eq 5, 3) := by decide +kernel
theorem dl_1121 : decode code 1121 = .ok (.iconst 0, 1) := by decide +kernel
theorem dl_1122 : decode code 1122 = .ok (.ireturn, 1) := by decide +kernel
theorem dl_1123 : decode code 1123 = .ok (.iinc 4 6, 3) := by decide +kernel
theorem dl_1126 : decode code 1126 = .ok (.goto (-1103), 3) := by decide +kernel
theorem dl_1129 : decode code 1129 = .ok (.iconst 1, 1) := by decide +kernel
theorem dl_1130 : decode code 1130 = .ok (.ireturn, 1) := by decide +kernel
