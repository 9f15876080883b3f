theorem dL_920 : decode code 920 = .ok (.invokevirtual 110, 3) := by decide +kernel
theorem dL_923 : decode code 923 = .ok (.aload_n 2, 1) := by decide +kernel
theorem dL_924 : decode code 924 = .ok (.aload_n 0, 1) := by decide +kernel
theorem dL_925 : decode code 925 = .ok (.iload_n 3, 1) := by decide +kernel
theorem dL_926 : decode code 926 = .ok (.iconst 1, 1) := by decide +kernel
theorem dL_927 : decode code 927 = .ok (.iadd, 1) := by decide +kernel
theorem dL_928 : decode code 928 = .ok (.iaload, 1) := by decide +kernel
theorem dL_929 : decode code 929 = .ok (.aload_n 0, 1) := by decide +kernel
theorem dL_930 : decode code 930 = .ok (.iload_n 3, 1) := by decide +kernel
theorem dL_931 : decode code 931 = .ok (.iconst 2, 1) := by decide +kernel
theorem dL_932 : decode code 932 = .ok (.iadd, 1) := by decide +kernel
theorem dL_933 : decode code 933 = .ok (.iaload, 1) := by decide +kernel
theorem dL_934 : decode code 934 = .ok (.aload_n 0, 1) := by decide +kernel
theorem dL_935 : decode code 935 = .ok (.iload_n 3, 1) := by decide +kernel
theorem dL_936 : decode code 936 = .ok (.iconst 3, 1) := by decide +kernel
theorem dL_937 : decode code 937 = .ok (.iadd, 1) := by decide +kernel
theorem dL_938 : decode code 938 = .ok (.iaload, 1) := by decide +kernel
theorem dL_939 : decode code 939 = .ok (.invokevirtual 113, 3) := by decide +kernel
theorem dL_942 : decode code 942 = .ok (.if_icmp .eq 461, 3) := by decide +kernel
theorem dL_945 : decode code 945 = .ok (.iconst 0, 1) := by decide +kernel
theorem dL_946 : decode code 946 = .ok (.ireturn, 1) := by decide +kernel
theorem dL_947 : decode code 947 = .ok (.aload_n 1, 1) := by decide +kernel
theorem dL_948 : decode code 948 = .ok (.aload_n 0, 1) := by decide +kernel
theorem dL_949 : decode code 949 = .ok (.iload_n 3, 1) := by decide +kernel
theorem dL_950 : decode code 950 = .ok (.iconst 1, 1) := by decide +kernel
theorem dL_951 : decode code 951 = .ok (.iadd, 1) := by decide +kernel
theorem dL_952 : decode code 952 = .ok (.iaload, 1) := by decide +kernel
theorem dL_953 : decode code 953 = .ok (.aload_n 0, 1) := by decide +kernel
theorem dL_954 : decode code 954 = .ok (.iload_n 3, 1) := by decide +kernel
theorem dL_955 : decode code 955 = .ok (.iconst 2, 1) := by decide +kernel
theorem dL_956 : decode code 956 = .ok (.iadd, 1) := by decide +kernel
theorem dL_957 : decode code 957 = .ok (.iaload, 1) := by decide +kernel
theorem dL_958 : decode code 958 = .ok (.invokevirtual 114, 3) := by decide +kernel
theorem dL_961 : decode code 961 = .ok (.aload_n 2, 1) := by decide +kernel
theorem dL_962 : decode code 962 = .ok (.aload_n 0, 1) := by decide +kernel
theorem dL_963 : decode code 963 = .ok (.iload_n 3, 1) := by decide +kernel
theorem dL_964 : decode code 964 = .ok (.iconst 1, 1) := by decide +kernel
theorem dL_965 : decode code 965 = .ok (.iadd, 1) := by decide +kernel
theorem dL_966 : decode code 966 = .ok (.iaload, 1) := by decide +kernel
theorem dL_967 : decode code 967 = .ok (.aload_n 0, 1) := by decide +kernel
theorem dL_968 : decode code 968 = .ok (.iload_n 3, 1) := by decide +kernel
theorem dL_969 : decode code 969 = .ok (.iconst 2, 1) := by decide +kernel
theorem dL_970 : decode code 970 = .ok (.iadd, 1) := by decide +kernel
theorem dL_971 : decode code 971 = .ok (.iaload, 1) := by decide +kernel
theorem dL_972 : decode code 972 = .ok (.invokevirtual 117, 3) := by decide +kernel
theorem dL_975 : decode code 975 = .ok (.if_icmp .eq 428, 3) := by decide +kernel
theorem dL_978 : decode code 978 = .ok (.iconst 0, 1) := by decide +kernel
theorem dL_979 : decode code 979 = .ok (.ireturn, 1) := by decide +kernel
theorem dL_980 : decode code 980 = .ok (.aload_n 1, 1) := by decide +kernel
theorem dL_981 : decode code 981 = .ok (.aload_n 0, 1) := by decide +kernel
theorem dL_982 : decode code 982 = .ok (.iload_n 3, 1) := by decide +kernel
theorem dL_983 : decode code 983 = .ok (.iconst 1, 1) := by decide +kernel
theorem dL_984 : decode code 984 = .ok (.iadd, 1) := by decide +kernel
theorem dL_985 : decode code 985 = .ok (.iaload, 1) := by decide +kernel
theorem dL_986 : decode code 986 = .ok (.aload_n 0, 1) := by decide +kernel
theorem dL_987 : decode code 987 = .ok (.iload_n 3, 1) := by decide +kernel
theorem dL_988 : decode code 988 = .ok (.iconst 2, 1) := by decide +kernel
theorem dL_989 : decode code 989 = .ok (.iadd, 1) := by decide +kernel
theorem dL_990 : decode code 990 = .ok (.iaload, 1) := by decide +kernel
theorem dL_991 : decode code 991 = .ok (.invokevirtual 118, 3) := by decide +kernel
theorem dL_994 : decode code 994 = .ok (.aload_n 2, 1) := by decide +kernel
theorem dL_995 : decode code 995 = .ok (.aload_n 0, 1) := by decide +kernel
theorem dL_996 : decode code 996 = .ok (.iload_n 3, 1) := by decide +kernel
theorem dL_997 : decode code 997 = .ok (.iconst 1, 1) := by decide +kernel
theorem dL_998 : decode code 998 = .ok (.iadd, 1) := by decide +kernel
theorem dL_999 : decode code 999 = .ok (.iaload, 1) := by decide +kernel
theorem dL_1000 : decode code 1000 = .ok (.aload_n 0, 1) := by decide +kernel
theorem dL_1001 : decode code 1001 = .ok (.iload_n 3, 1) := by decide +kernel
theorem dL_1002 : decode code 1002 = .ok (.iconst 2, 1) := by decide +kernel
theorem dL_1003 : decode code 1003 = .ok (.iadd, 1) := by decide +kernel
theorem dL_1004 : decode code 1004 = .ok (.iaload, 1) := by decide +kernel
theorem dL_1005 : decode code 1005 = .ok (.invokevirtual 121, 3) := by decide +kernel
theorem dL_1008 : decode code 1008 = .ok (.if_icmp .eq 395, 3) := by decide +kernel
theorem dL_1011 : decode code 1011 = .ok (.iconst 0, 1) := by decide +kernel
theorem dL_1012 : decode code 1012 = .ok (.ireturn, 1) := by decide +kernel
theorem dL_1013 : decode code 1013 = .ok (.aload_n 1, 1) := by decide +kernel
theorem dL_1014 : decode code 1014 = .ok (.invokevirtual 122, 3) := by decide +kernel
theorem dL_1017 : decode code 1017 = .ok (.aload_n 2, 1) := by decide +kernel
theorem dL_1018 : decode code 1018 = .ok (.invokevirtual 125, 3) := by decide +kernel
theorem dL_1021 : decode code 1021 = .ok (.if_icmp .eq 382, 3) := by decide +kernel
theorem dL_1024 : decode code 1024 = .ok (.iconst 0, 1) := by decide +kernel
theorem dL_1025 : decode code 1025 = .ok (.ireturn, 1) := by decide +kernel
theorem dL_1026 : decode code 1026 = .ok (.aload_n 1, 1) := by decide +kernel
theorem dL_1027 : decode code 1027 = .ok (.invokevirtual 126, 3) := by decide +kernel
theorem dL_1030 : decode code 1030 = .ok (.aload_n 2, 1) := by decide +kernel
theorem dL_1031 : decode code 1031 = .ok (.invokevirtual 129, 3) := by decide +kernel
theorem dL_1034 : decode code 1034 = .ok (.if_icmp .eq 369, 3) := by decide +kernel
theorem dL_1037 : decode code 1037 = .ok (.iconst 0, 1) := by decide +kernel
theorem dL_1038 : decode code 1038 = .ok (.ireturn, 1) := by decide +kernel
theorem dL_1039 : decode code 1039 = .ok (.aload_n 1, 1) := by decide +kernel
theorem dL_1040 : decode code 1040 = .ok (.aload_n 0, 1) := by decide +kernel
theorem dL_1041 : decode code 1041 = .ok (.iload_n 3, 1) := by decide +kernel
theorem dL_1042 : decode code 1042 = .ok (.iconst 1, 1) := by decide +kernel
theorem dL_1043 : decode code 1043 = .ok (.iadd, 1) := by decide +kernel
theorem dL_1044 : decode code 1044 = .ok (.iaload, 1) := by decide +kernel
theorem dL_1045 : decode code 1045 = .ok (.aload_n 0, 1) := by decide +kernel
theorem dL_1046 : decode code 1046 = .ok (.iload_n 3, 1) := by decide +kernel
theorem dL_1047 : decode code 1047 = .ok (.iconst 2, 1) := by decide +kernel
theorem dL_1048 : decode code 1048 = .ok (.iadd, 1) := by decide +kernel
theorem dL_1049 : decode code 1049 = .ok (.iaload, 1) := by decide +kernel
theorem dL_1050 : decode code 1050 = .ok (.aload_n 0, 1) := by decide +kernel
theorem dL_1051 : decode code 1051 = .ok (.iload_n 3, 1) := by decide +kernel
theorem dL_1052 : decode code 1052 = .ok (.iconst 3, 1) := by decide +kernel
theorem dL_1053 : decode code 1053 = .ok (.iadd, 1) := by decide +kernel
theorem dL_1054 : decode code 1054 = .ok (.iaload, 1) := by decide +kernel
theorem dL_1055 : decode code 1055 = .ok (.invokevirtual 130, 3) := by decide +kernel
theorem dL_1058 : decode code 1058 = .ok (.aload_n 2, 1) := by decide +kernel
theorem dL_1059 : decode code 1059 = .ok (.aload_n 0, 1) := by decide +kernel
theorem dL_1060 : decode code 1060 = .ok (.iload_n 3, 1) := by decide +kernel
theorem dL_1061 : decode code 1061 = .ok (.iconst 1, 1) := by decide +kernel
theorem dL_1062 : decode code 1062 = .ok (.iadd, 1) := by decide +kernel
theorem dL_1063 : decode code 1063 = .ok (.iaload, 1) := by decide +kernel
theorem dL_1064 : decode code 1064 = .ok (.aload_n 0, 1) := by decide +kernel
theorem dL_1065 : decode code 1065 = .ok (.iload_n 3, 1) := by decide +kernel
theorem dL_1066 : decode code 1066 = .ok (.iconst 2, 1) := by decide +kernel
theorem dL_1067 : decode code 1067 = .ok (.iadd, 1) := by decide +kernel
theorem dL_1068 : decode code 1068 = .ok (.iaload, 1) := by decide +kernel
theorem dL_1069 : decode code 1069 = .ok (.aload_n 0, 1) := by decide +kernel
theorem dL_1070 : decode code 1070 = .ok (.iload_n 3, 1) := by decide +kernel
theorem dL_1071 : decode code 1071 = .ok (.iconst 3, 1) := by decide +kernel
