theorem dL_law_1070 : decode code 1070 = .ok (.iadd, 1) := by decide +kernel
theorem dL_law_1071 : decode code 1071 = .ok (.iaload, 1) := by decide +kernel
theorem dL_law_1072 : decode code 1072 = .ok (.invokevirtual 148, 3) := by decide +kernel
theorem dL_law_1075 : decode code 1075 = .ok (.istore 6, 2) := by decide +kernel
theorem dL_law_1077 : decode code 1077 = .ok (.aload_n 2, 1) := by decide +kernel
theorem dL_law_1078 : decode code 1078 = .ok (.invokevirtual 85, 3) := by decide +kernel
theorem dL_law_1081 : decode code 1081 = .ok (.iload 5, 2) := by decide +kernel
theorem dL_law_1083 : decode code 1083 = .ok (.if_icmp .eq 5, 3) := by decide +kernel
theorem dL_law_1086 : decode code 1086 = .ok (.iconst 0, 1) := by decide +kernel
theorem dL_law_1087 : decode code 1087 = .ok (.ireturn, 1) := by decide +kernel
theorem dL_law_1088 : decode code 1088 = .ok (.iload 5, 2) := by decide +kernel
theorem dL_law_1090 : decode code 1090 = .ok (.ifCond .ne 15, 3) := by decide +kernel
theorem dL_law_1093 : decode code 1093 = .ok (.aload_n 3, 1) := by decide +kernel
theorem dL_law_1094 : decode code 1094 = .ok (.iconst 0, 1) := by decide +kernel
theorem dL_law_1095 : decode code 1095 = .ok (.laload, 1) := by decide +kernel
theorem dL_law_1096 : decode code 1096 = .ok (.iload 6, 2) := by decide +kernel
theorem dL_law_1098 : decode code 1098 = .ok (.i2l, 1) := by decide +kernel
theorem dL_law_1099 : decode code 1099 = .ok (.lcmp, 1) := by decide +kernel
theorem dL_law_1100 : decode code 1100 = .ok (.ifCond .eq 5, 3) := by decide +kernel
theorem dL_law_1103 : decode code 1103 = .ok (.iconst 0, 1) := by decide +kernel
theorem dL_law_1104 : decode code 1104 = .ok (.ireturn, 1) := by decide +kernel
theorem dL_law_1105 : decode code 1105 = .ok (.goto 163, 3) := by decide +kernel
theorem dL_law_1108 : decode code 1108 = .ok (.aload_n 1, 1) := by decide +kernel
theorem dL_law_1109 : decode code 1109 = .ok (.aload_n 0, 1) := by decide +kernel
theorem dL_law_1110 : decode code 1110 = .ok (.iload 4, 2) := by decide +kernel
theorem dL_law_1112 : decode code 1112 = .ok (.iconst 1, 1) := by decide +kernel
theorem dL_law_1113 : decode code 1113 = .ok (.iadd, 1) := by decide +kernel
theorem dL_law_1114 : decode code 1114 = .ok (.iaload, 1) := by decide +kernel
theorem dL_law_1115 : decode code 1115 = .ok (.aload_n 0, 1) := by decide +kernel
theorem dL_law_1116 : decode code 1116 = .ok (.iload 4, 2) := by decide +kernel
theorem dL_law_1118 : decode code 1118 = .ok (.iconst 2, 1) := by decide +kernel
theorem dL_law_1119 : decode code 1119 = .ok (.iadd, 1) := by decide +kernel
theorem dL_law_1120 : decode code 1120 = .ok (.iaload, 1) := by decide +kernel
theorem dL_law_1121 : decode code 1121 = .ok (.invokestatic 149, 3) := by decide +kernel
theorem dL_law_1124 : decode code 1124 = .ok (.istore 5, 2) := by decide +kernel
theorem dL_law_1126 : decode code 1126 = .ok (.aload_n 2, 1) := by decide +kernel
theorem dL_law_1127 : decode code 1127 = .ok (.aload_n 0, 1) := by decide +kernel
theorem dL_law_1128 : decode code 1128 = .ok (.iload 4, 2) := by decide +kernel
theorem dL_law_1130 : decode code 1130 = .ok (.iconst 1, 1) := by decide +kernel
theorem dL_law_1131 : decode code 1131 = .ok (.iadd, 1) := by decide +kernel
theorem dL_law_1132 : decode code 1132 = .ok (.iaload, 1) := by decide +kernel
theorem dL_law_1133 : decode code 1133 = .ok (.aload_n 0, 1) := by decide +kernel
theorem dL_law_1134 : decode code 1134 = .ok (.iload 4, 2) := by decide +kernel
theorem dL_law_1136 : decode code 1136 = .ok (.iconst 2, 1) := by decide +kernel
theorem dL_law_1137 : decode code 1137 = .ok (.iadd, 1) := by decide +kernel
theorem dL_law_1138 : decode code 1138 = .ok (.iaload, 1) := by decide +kernel
theorem dL_law_1139 : decode code 1139 = .ok (.invokevirtual 151, 3) := by decide +kernel
theorem dL_law_1142 : decode code 1142 = .ok (.aload_n 2, 1) := by decide +kernel
theorem dL_law_1143 : decode code 1143 = .ok (.invokevirtual 85, 3) := by decide +kernel
theorem dL_law_1146 : decode code 1146 = .ok (.iload 5, 2) := by decide +kernel
theorem dL_law_1148 : decode code 1148 = .ok (.if_icmp .eq 5, 3) := by decide +kernel
theorem dL_law_1151 : decode code 1151 = .ok (.iconst 0, 1) := by decide +kernel
theorem dL_law_1152 : decode code 1152 = .ok (.ireturn, 1) := by decide +kernel
theorem dL_law_1153 : decode code 1153 = .ok (.goto 115, 3) := by decide +kernel
theorem dL_law_1156 : decode code 1156 = .ok (.aload_n 1, 1) := by decide +kernel
theorem dL_law_1157 : decode code 1157 = .ok (.aload_n 0, 1) := by decide +kernel
theorem dL_law_1158 : decode code 1158 = .ok (.iload 4, 2) := by decide +kernel
theorem dL_law_1160 : decode code 1160 = .ok (.iconst 1, 1) := by decide +kernel
theorem dL_law_1161 : decode code 1161 = .ok (.iadd, 1) := by decide +kernel
theorem dL_law_1162 : decode code 1162 = .ok (.iaload, 1) := by decide +kernel
