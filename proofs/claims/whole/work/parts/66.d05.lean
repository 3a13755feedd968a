theorem dL_1010 : decode code 1010 = .ok (.aload_n 2, 1) := by decide +kernel
theorem dL_1011 : decode code 1011 = .ok (.invokevirtual 142, 3) := by decide +kernel
theorem dL_1014 : decode code 1014 = .ok (.if_icmp .eq 74, 3) := by decide +kernel
theorem dL_1017 : decode code 1017 = .ok (.iconst 0, 1) := by decide +kernel
theorem dL_1018 : decode code 1018 = .ok (.ireturn, 1) := by decide +kernel
theorem dL_1019 : decode code 1019 = .ok (.aload_n 1, 1) := by decide +kernel
theorem dL_1020 : decode code 1020 = .ok (.aload_n 0, 1) := by decide +kernel
theorem dL_1021 : decode code 1021 = .ok (.iload_n 3, 1) := by decide +kernel
theorem dL_1022 : decode code 1022 = .ok (.iconst 1, 1) := by decide +kernel
theorem dL_1023 : decode code 1023 = .ok (.iadd, 1) := by decide +kernel
theorem dL_1024 : decode code 1024 = .ok (.iaload, 1) := by decide +kernel
theorem dL_1025 : decode code 1025 = .ok (.invokevirtual 143, 3) := by decide +kernel
theorem dL_1028 : decode code 1028 = .ok (.aload_n 2, 1) := by decide +kernel
theorem dL_1029 : decode code 1029 = .ok (.aload_n 0, 1) := by decide +kernel
theorem dL_1030 : decode code 1030 = .ok (.iload_n 3, 1) := by decide +kernel
theorem dL_1031 : decode code 1031 = .ok (.iconst 1, 1) := by decide +kernel
theorem dL_1032 : decode code 1032 = .ok (.iadd, 1) := by decide +kernel
theorem dL_1033 : decode code 1033 = .ok (.iaload, 1) := by decide +kernel
theorem dL_1034 : decode code 1034 = .ok (.invokevirtual 146, 3) := by decide +kernel
theorem dL_1037 : decode code 1037 = .ok (.if_icmp .eq 51, 3) := by decide +kernel
theorem dL_1040 : decode code 1040 = .ok (.iconst 0, 1) := by decide +kernel
theorem dL_1041 : decode code 1041 = .ok (.ireturn, 1) := by decide +kernel
theorem dL_1042 : decode code 1042 = .ok (.aload_n 1, 1) := by decide +kernel
theorem dL_1043 : decode code 1043 = .ok (.aload_n 0, 1) := by decide +kernel
theorem dL_1044 : decode code 1044 = .ok (.iload_n 3, 1) := by decide +kernel
theorem dL_1045 : decode code 1045 = .ok (.iconst 1, 1) := by decide +kernel
theorem dL_1046 : decode code 1046 = .ok (.iadd, 1) := by decide +kernel
theorem dL_1047 : decode code 1047 = .ok (.iaload, 1) := by decide +kernel
theorem dL_1048 : decode code 1048 = .ok (.invokevirtual 147, 3) := by decide +kernel
theorem dL_1051 : decode code 1051 = .ok (.aload_n 2, 1) := by decide +kernel
theorem dL_1052 : decode code 1052 = .ok (.aload_n 0, 1) := by decide +kernel
theorem dL_1053 : decode code 1053 = .ok (.iload_n 3, 1) := by decide +kernel
theorem dL_1054 : decode code 1054 = .ok (.iconst 1, 1) := by decide +kernel
theorem dL_1055 : decode code 1055 = .ok (.iadd, 1) := by decide +kernel
theorem dL_1056 : decode code 1056 = .ok (.iaload, 1) := by decide +kernel
theorem dL_1057 : decode code 1057 = .ok (.invokevirtual 150, 3) := by decide +kernel
theorem dL_1060 : decode code 1060 = .ok (.if_icmp .eq 28, 3) := by decide +kernel
theorem dL_1063 : decode code 1063 = .ok (.iconst 0, 1) := by decide +kernel
theorem dL_1064 : decode code 1064 = .ok (.ireturn, 1) := by decide +kernel
theorem dL_1065 : decode code 1065 = .ok (.aload_n 1, 1) := by decide +kernel
theorem dL_1066 : decode code 1066 = .ok (.aload_n 0, 1) := by decide +kernel
theorem dL_1067 : decode code 1067 = .ok (.iload_n 3, 1) := by decide +kernel
theorem dL_1068 : decode code 1068 = .ok (.iconst 1, 1) := by decide +kernel
theorem dL_1069 : decode code 1069 = .ok (.iadd, 1) := by decide +kernel
theorem dL_1070 : decode code 1070 = .ok (.iaload, 1) := by decide +kernel
theorem dL_1071 : decode code 1071 = .ok (.invokevirtual 151, 3) := by decide +kernel
theorem dL_1074 : decode code 1074 = .ok (.aload_n 2, 1) := by decide +kernel
theorem dL_1075 : decode code 1075 = .ok (.aload_n 0, 1) := by decide +kernel
theorem dL_1076 : decode code 1076 = .ok (.iload_n 3, 1) := by decide +kernel
theorem dL_1077 : decode code 1077 = .ok (.iconst 1, 1) := by decide +kernel
theorem dL_1078 : decode code 1078 = .ok (.iadd, 1) := by decide +kernel
theorem dL_1079 : decode code 1079 = .ok (.iaload, 1) := by decide +kernel
theorem dL_1080 : decode code 1080 = .ok (.invokevirtual 154, 3) := by decide +kernel
theorem dL_1083 : decode code 1083 = .ok (.if_icmp .eq 5, 3) := by decide +kernel
theorem dL_1086 : decode code 1086 = .ok (.iconst 0, 1) := by decide +kernel
theorem dL_1087 : decode code 1087 = .ok (.ireturn, 1) := by decide +kernel
theorem dL_1088 : decode code 1088 = .ok (.iinc 3 4, 3) := by decide +kernel
theorem dL_1091 : decode code 1091 = .ok (.goto (-1073), 3) := by decide +kernel
theorem dL_1094 : decode code 1094 = .ok (.iconst 1, 1) := by decide +kernel
theorem dL_1095 : decode code 1095 = .ok (.ireturn, 1) := by decide +kernel
