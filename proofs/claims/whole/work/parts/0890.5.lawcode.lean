theorem d_L_law_934 : decode cL_law 934 = .ok (.aload_n 2, 1) := by decide +kernel
theorem d_L_law_935 : decode cL_law 935 = .ok (.aload_n 0, 1) := by decide +kernel
theorem d_L_law_936 : decode cL_law 936 = .ok (.iload 4, 2) := by decide +kernel
theorem d_L_law_938 : decode cL_law 938 = .ok (.iconst 1, 1) := by decide +kernel
theorem d_L_law_939 : decode cL_law 939 = .ok (.iadd, 1) := by decide +kernel
theorem d_L_law_940 : decode cL_law 940 = .ok (.iaload, 1) := by decide +kernel
theorem d_L_law_941 : decode cL_law 941 = .ok (.aload_n 0, 1) := by decide +kernel
theorem d_L_law_942 : decode cL_law 942 = .ok (.iload 4, 2) := by decide +kernel
theorem d_L_law_944 : decode cL_law 944 = .ok (.iconst 2, 1) := by decide +kernel
theorem d_L_law_945 : decode cL_law 945 = .ok (.iadd, 1) := by decide +kernel
theorem d_L_law_946 : decode cL_law 946 = .ok (.iaload, 1) := by decide +kernel
theorem d_L_law_947 : decode cL_law 947 = .ok (.invokevirtual 128, 3) := by decide +kernel
theorem d_L_law_950 : decode cL_law 950 = .ok (.istore 6, 2) := by decide +kernel
theorem d_L_law_952 : decode cL_law 952 = .ok (.aload_n 2, 1) := by decide +kernel
theorem d_L_law_953 : decode cL_law 953 = .ok (.invokevirtual 85, 3) := by decide +kernel
theorem d_L_law_956 : decode cL_law 956 = .ok (.iload 5, 2) := by decide +kernel
theorem d_L_law_958 : decode cL_law 958 = .ok (.if_icmp .eq 5, 3) := by decide +kernel
theorem d_L_law_961 : decode cL_law 961 = .ok (.iconst 0, 1) := by decide +kernel
theorem d_L_law_962 : decode cL_law 962 = .ok (.ireturn, 1) := by decide +kernel
theorem d_L_law_963 : decode cL_law 963 = .ok (.iload 5, 2) := by decide +kernel
theorem d_L_law_965 : decode cL_law 965 = .ok (.ifCond .ne 15, 3) := by decide +kernel
theorem d_L_law_968 : decode cL_law 968 = .ok (.aload_n 3, 1) := by decide +kernel
theorem d_L_law_969 : decode cL_law 969 = .ok (.iconst 0, 1) := by decide +kernel
theorem d_L_law_970 : decode cL_law 970 = .ok (.laload, 1) := by decide +kernel
theorem d_L_law_971 : decode cL_law 971 = .ok (.iload 6, 2) := by decide +kernel
theorem d_L_law_973 : decode cL_law 973 = .ok (.i2l, 1) := by decide +kernel
theorem d_L_law_974 : decode cL_law 974 = .ok (.lcmp, 1) := by decide +kernel
theorem d_L_law_975 : decode cL_law 975 = .ok (.ifCond .eq 5, 3) := by decide +kernel
theorem d_L_law_978 : decode cL_law 978 = .ok (.iconst 0, 1) := by decide +kernel
theorem d_L_law_979 : decode cL_law 979 = .ok (.ireturn, 1) := by decide +kernel
theorem d_L_law_980 : decode cL_law 980 = .ok (.goto 487, 3) := by decide +kernel
theorem d_L_law_983 : decode cL_law 983 = .ok (.aload_n 1, 1) := by decide +kernel
theorem d_L_law_984 : decode cL_law 984 = .ok (.aload_n 0, 1) := by decide +kernel
theorem d_L_law_985 : decode cL_law 985 = .ok (.iload 4, 2) := by decide +kernel
theorem d_L_law_987 : decode cL_law 987 = .ok (.iconst 1, 1) := by decide +kernel
theorem d_L_law_988 : decode cL_law 988 = .ok (.iadd, 1) := by decide +kernel
theorem d_L_law_989 : decode cL_law 989 = .ok (.iaload, 1) := by decide +kernel
theorem d_L_law_990 : decode cL_law 990 = .ok (.aload_n 0, 1) := by decide +kernel
theorem d_L_law_991 : decode cL_law 991 = .ok (.iload 4, 2) := by decide +kernel
theorem d_L_law_993 : decode cL_law 993 = .ok (.iconst 2, 1) := by decide +kernel
theorem d_L_law_994 : decode cL_law 994 = .ok (.iadd, 1) := by decide +kernel
theorem d_L_law_995 : decode cL_law 995 = .ok (.iaload, 1) := by decide +kernel
theorem d_L_law_996 : decode cL_law 996 = .ok (.aload_n 3, 1) := by decide +kernel
theorem d_L_law_997 : decode cL_law 997 = .ok (.invokestatic 129, 3) := by decide +kernel
theorem d_L_law_1000 : decode cL_law 1000 = .ok (.istore 5, 2) := by decide +kernel
theorem d_L_law_1002 : decode cL_law 1002 = .ok (.aload_n 2, 1) := by decide +kernel
theorem d_L_law_1003 : decode cL_law 1003 = .ok (.aload_n 0, 1) := by decide +kernel
theorem d_L_law_1004 : decode cL_law 1004 = .ok (.iload 4, 2) := by decide +kernel
theorem d_L_law_1006 : decode cL_law 1006 = .ok (.iconst 1, 1) := by decide +kernel
theorem d_L_law_1007 : decode cL_law 1007 = .ok (.iadd, 1) := by decide +kernel
theorem d_L_law_1008 : decode cL_law 1008 = .ok (.iaload, 1) := by decide +kernel
theorem d_L_law_1009 : decode cL_law 1009 = .ok (.aload_n 0, 1) := by decide +kernel
theorem d_L_law_1010 : decode cL_law 1010 = .ok (.iload 4, 2) := by decide +kernel
theorem d_L_law_1012 : decode cL_law 1012 = .ok (.iconst 2, 1) := by decide +kernel
theorem d_L_law_1013 : decode cL_law 1013 = .ok (.iadd, 1) := by decide +kernel
theorem d_L_law_1014 : decode cL_law 1014 = .ok (.iaload, 1) := by decide +kernel
theorem d_L_law_1015 : decode cL_law 1015 = .ok (.invokevirtual 131, 3) := by decide +kernel
theorem d_L_law_1018 : decode cL_law 1018 = .ok (.istore 6, 2) := by decide +kernel
theorem d_L_law_1020 : decode cL_law 1020 = .ok (.aload_n 2, 1) := by decide +kernel
theorem d_L_law_1021 : decode cL_law 1021 = .ok (.invokevirtual 85, 3) := by decide +kernel
theorem d_L_law_1024 : decode cL_law 1024 = .ok (.iload 5, 2) := by decide +kernel
theorem d_L_law_1026 : decode cL_law 1026 = .ok (.if_icmp .eq 5, 3) := by decide +kernel
theorem d_L_law_1029 : decode cL_law 1029 = .ok (.iconst 0, 1) := by decide +kernel
theorem d_L_law_1030 : decode cL_law 1030 = .ok (.ireturn, 1) := by decide +kernel
theorem d_L_law_1031 : decode cL_law 1031 = .ok (.iload 5, 2) := by decide +kernel
theorem d_L_law_1033 : decode cL_law 1033 = .ok (.ifCond .ne 15, 3) := by decide +kernel
theorem d_L_law_1036 : decode cL_law 1036 = .ok (.aload_n 3, 1) := by decide +kernel
theorem d_L_law_1037 : decode cL_law 1037 = .ok (.iconst 0, 1) := by decide +kernel
theorem d_L_law_1038 : decode cL_law 1038 = .ok (.laload, 1) := by decide +kernel
theorem d_L_law_1039 : decode cL_law 1039 = .ok (.iload 6, 2) := by decide +kernel
theorem d_L_law_1041 : decode cL_law 1041 = .ok (.i2l, 1) := by decide +kernel
theorem d_L_law_1042 : decode cL_law 1042 = .ok (.lcmp, 1) := by decide +kernel
theorem d_L_law_1043 : decode cL_law 1043 = .ok (.ifCond .eq 5, 3) := by decide +kernel
theorem d_L_law_1046 : decode cL_law 1046 = .ok (.iconst 0, 1) := by decide +kernel
theorem d_L_law_1047 : decode cL_law 1047 = .ok (.ireturn, 1) := by decide +kernel
theorem d_L_law_1048 : decode cL_law 1048 = .ok (.goto 419, 3) := by decide +kernel
theorem d_L_law_1051 : decode cL_law 1051 = .ok (.aload_n 1, 1) := by decide +kernel
theorem d_L_law_1052 : decode cL_law 1052 = .ok (.invokevirtual 132, 3) := by decide +kernel
theorem d_L_law_1055 : decode cL_law 1055 = .ok (.aload_n 2, 1) := by decide +kernel
theorem d_L_law_1056 : decode cL_law 1056 = .ok (.invokevirtual 135, 3) := by decide +kernel
theorem d_L_law_1059 : decode cL_law 1059 = .ok (.if_icmp .eq 408, 3) := by decide +kernel
theorem d_L_law_1062 : decode cL_law 1062 = .ok (.iconst 0, 1) := by decide +kernel
theorem d_L_law_1063 : decode cL_law 1063 = .ok (.ireturn, 1) := by decide +kernel
theorem d_L_law_1064 : decode cL_law 1064 = .ok (.aload_n 1, 1) := by decide +kernel
theorem d_L_law_1065 : decode cL_law 1065 = .ok (.aload_n 0, 1) := by decide +kernel
theorem d_L_law_1066 : decode cL_law 1066 = .ok (.iload 4, 2) := by decide +kernel
theorem d_L_law_1068 : decode cL_law 1068 = .ok (.iconst 1, 1) := by decide +kernel
theorem d_L_law_1069 : decode cL_law 1069 = .ok (.iadd, 1) := by decide +kernel
theorem d_L_law_1070 : decode cL_law 1070 = .ok (.iaload, 1) := by decide +kernel
theorem d_L_law_1071 : decode cL_law 1071 = .ok (.aload_n 0, 1) := by decide +kernel
theorem d_L_law_1072 : decode cL_law 1072 = .ok (.iload 4, 2) := by decide +kernel
theorem d_L_law_1074 : decode cL_law 1074 = .ok (.iconst 2, 1) := by decide +kernel
theorem d_L_law_1075 : decode cL_law 1075 = .ok (.iadd, 1) := by decide +kernel
theorem d_L_law_1076 : decode cL_law 1076 = .ok (.iaload, 1) := by decide +kernel
theorem d_L_law_1077 : decode cL_law 1077 = .ok (.aload_n 3, 1) := by decide +kernel
theorem d_L_law_1078 : decode cL_law 1078 = .ok (.invokestatic 136, 3) := by decide +kernel
theorem d_L_law_1081 : decode cL_law 1081 = .ok (.istore 5, 2) := by decide +kernel
theorem d_L_law_1083 : decode cL_law 1083 = .ok (.aload_n 2, 1) := by decide +kernel
theorem d_L_law_1084 : decode cL_law 1084 = .ok (.aload_n 0, 1) := by decide +kernel
theorem d_L_law_1085 : decode cL_law 1085 = .ok (.iload 4, 2) := by decide +kernel
theorem d_L_law_1087 : decode cL_law 1087 = .ok (.iconst 1, 1) := by decide +kernel
theorem d_L_law_1088 : decode cL_law 1088 = .ok (.iadd, 1) := by decide +kernel
theorem d_L_law_1089 : decode cL_law 1089 = .ok (.iaload, 1) := by decide +kernel
theorem d_L_law_1090 : decode cL_law 1090 = .ok (.aload_n 0, 1) := by decide +kernel
theorem d_L_law_1091 : decode cL_law 1091 = .ok (.iload 4, 2) := by decide +kernel
theorem d_L_law_1093 : decode cL_law 1093 = .ok (.iconst 2, 1) := by decide +kernel
theorem d_L_law_1094 : decode cL_law 1094 = .ok (.iadd, 1) := by decide +kernel
theorem d_L_law_1095 : decode cL_law 1095 = .ok (.iaload, 1) := by decide +kernel
theorem d_L_law_1096 : decode cL_law 1096 = .ok (.invokevirtual 138, 3) := by decide +kernel
theorem d_L_law_1099 : decode cL_law 1099 = .ok (.istore 6, 2) := by decide +kernel
