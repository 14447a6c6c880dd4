/-! the law's instructions -/
theorem d_law_1018 : decode code 1018 = .ok (.iaload, 1) := by decide +kernel
theorem d_law_1019 : decode code 1019 = .ok (.aload_n 0, 1) := by decide +kernel
theorem d_law_1020 : decode code 1020 = .ok (.iload_n 3, 1) := by decide +kernel
theorem d_law_1021 : decode code 1021 = .ok (.iconst 3, 1) := by decide +kernel
theorem d_law_1022 : decode code 1022 = .ok (.iadd, 1) := by decide +kernel
theorem d_law_1023 : decode code 1023 = .ok (.iaload, 1) := by decide +kernel
theorem d_law_1024 : decode code 1024 = .ok (.ifCond .eq 7, 3) := by decide +kernel
theorem d_law_1027 : decode code 1027 = .ok (.iconst 1, 1) := by decide +kernel
theorem d_law_1028 : decode code 1028 = .ok (.goto 4, 3) := by decide +kernel
theorem d_law_1031 : decode code 1031 = .ok (.iconst 0, 1) := by decide +kernel
theorem d_law_1032 : decode code 1032 = .ok (.invokevirtual 134, 3) := by decide +kernel
theorem d_law_1035 : decode code 1035 = .ok (.aload_n 2, 1) := by decide +kernel
theorem d_law_1036 : decode code 1036 = .ok (.aload_n 0, 1) := by decide +kernel
theorem d_law_1037 : decode code 1037 = .ok (.iload_n 3, 1) := by decide +kernel
theorem d_law_1038 : decode code 1038 = .ok (.iconst 1, 1) := by decide +kernel
theorem d_law_1039 : decode code 1039 = .ok (.iadd, 1) := by decide +kernel
theorem d_law_1040 : decode code 1040 = .ok (.iaload, 1) := by decide +kernel
theorem d_law_1041 : decode code 1041 = .ok (.aload_n 0, 1) := by decide +kernel
theorem d_law_1042 : decode code 1042 = .ok (.iload_n 3, 1) := by decide +kernel
theorem d_law_1043 : decode code 1043 = .ok (.iconst 2, 1) := by decide +kernel
theorem d_law_1044 : decode code 1044 = .ok (.iadd, 1) := by decide +kernel
theorem d_law_1045 : decode code 1045 = .ok (.iaload, 1) := by decide +kernel
theorem d_law_1046 : decode code 1046 = .ok (.aload_n 0, 1) := by decide +kernel
theorem d_law_1047 : decode code 1047 = .ok (.iload_n 3, 1) := by decide +kernel
theorem d_law_1048 : decode code 1048 = .ok (.iconst 3, 1) := by decide +kernel
theorem d_law_1049 : decode code 1049 = .ok (.iadd, 1) := by decide +kernel
theorem d_law_1050 : decode code 1050 = .ok (.iaload, 1) := by decide +kernel
theorem d_law_1051 : decode code 1051 = .ok (.ifCond .eq 7, 3) := by decide +kernel
theorem d_law_1054 : decode code 1054 = .ok (.iconst 1, 1) := by decide +kernel
theorem d_law_1055 : decode code 1055 = .ok (.goto 4, 3) := by decide +kernel
theorem d_law_1058 : decode code 1058 = .ok (.iconst 0, 1) := by decide +kernel
theorem d_law_1059 : decode code 1059 = .ok (.invokevirtual 138, 3) := by decide +kernel
theorem d_law_1062 : decode code 1062 = .ok (.if_icmp .eq 136, 3) := by decide +kernel
theorem d_law_1065 : decode code 1065 = .ok (.iconst 0, 1) := by decide +kernel
theorem d_law_1066 : decode code 1066 = .ok (.ireturn, 1) := by decide +kernel
theorem d_law_1067 : decode code 1067 = .ok (.aload_n 1, 1) := by decide +kernel
theorem d_law_1068 : decode code 1068 = .ok (.invokevirtual 139, 3) := by decide +kernel
theorem d_law_1071 : decode code 1071 = .ok (.aload_n 2, 1) := by decide +kernel
theorem d_law_1072 : decode code 1072 = .ok (.invokevirtual 142, 3) := by decide +kernel
theorem d_law_1075 : decode code 1075 = .ok (.if_icmp .eq 123, 3) := by decide +kernel
theorem d_law_1078 : decode code 1078 = .ok (.iconst 0, 1) := by decide +kernel
theorem d_law_1079 : decode code 1079 = .ok (.ireturn, 1) := by decide +kernel
theorem d_law_1080 : decode code 1080 = .ok (.aload_n 1, 1) := by decide +kernel
theorem d_law_1081 : decode code 1081 = .ok (.invokevirtual 143, 3) := by decide +kernel
theorem d_law_1084 : decode code 1084 = .ok (.aload_n 2, 1) := by decide +kernel
theorem d_law_1085 : decode code 1085 = .ok (.invokevirtual 146, 3) := by decide +kernel
theorem d_law_1088 : decode code 1088 = .ok (.if_icmp .eq 110, 3) := by decide +kernel
theorem d_law_1091 : decode code 1091 = .ok (.iconst 0, 1) := by decide +kernel
theorem d_law_1092 : decode code 1092 = .ok (.ireturn, 1) := by decide +kernel
theorem d_law_1093 : decode code 1093 = .ok (.aload_n 1, 1) := by decide +kernel
theorem d_law_1094 : decode code 1094 = .ok (.invokevirtual 147, 3) := by decide +kernel
theorem d_law_1097 : decode code 1097 = .ok (.aload_n 2, 1) := by decide +kernel
theorem d_law_1098 : decode code 1098 = .ok (.invokevirtual 150, 3) := by decide +kernel
theorem d_law_1101 : decode code 1101 = .ok (.if_icmp .eq 97, 3) := by decide +kernel
theorem d_law_1104 : decode code 1104 = .ok (.iconst 0, 1) := by decide +kernel
theorem d_law_1105 : decode code 1105 = .ok (.ireturn, 1) := by decide +kernel
theorem d_law_1106 : decode code 1106 = .ok (.aload_n 1, 1) := by decide +kernel
theorem d_law_1107 : decode code 1107 = .ok (.aload_n 0, 1) := by decide +kernel
theorem d_law_1108 : decode code 1108 = .ok (.iload_n 3, 1) := by decide +kernel
theorem d_law_1109 : decode code 1109 = .ok (.iconst 1, 1) := by decide +kernel
theorem d_law_1110 : decode code 1110 = .ok (.iadd, 1) := by decide +kernel
theorem d_law_1111 : decode code 1111 = .ok (.iaload, 1) := by decide +kernel
theorem d_law_1112 : decode code 1112 = .ok (.invokevirtual 151, 3) := by decide +kernel
theorem d_law_1115 : decode code 1115 = .ok (.aload_n 2, 1) := by decide +kernel
theorem d_law_1116 : decode code 1116 = .ok (.aload_n 0, 1) := by decide +kernel
theorem d_law_1117 : decode code 1117 = .ok (.iload_n 3, 1) := by decide +kernel
theorem d_law_1118 : decode code 1118 = .ok (.iconst 1, 1) := by decide +kernel
theorem d_law_1119 : decode code 1119 = .ok (.iadd, 1) := by decide +kernel
theorem d_law_1120 : decode code 1120 = .ok (.iaload, 1) := by decide +kernel
theorem d_law_1121 : decode code 1121 = .ok (.invokevirtual 154, 3) := by decide +kernel
theorem d_law_1124 : decode code 1124 = .ok (.if_icmp .eq 74, 3) := by decide +kernel
theorem d_law_1127 : decode code 1127 = .ok (.iconst 0, 1) := by decide +kernel
theorem d_law_1128 : decode code 1128 = .ok (.ireturn, 1) := by decide +kernel
theorem d_law_1129 : decode code 1129 = .ok (.aload_n 1, 1) := by decide +kernel
theorem d_law_1130 : decode code 1130 = .ok (.aload_n 0, 1) := by decide +kernel
theorem d_law_1131 : decode code 1131 = .ok (.iload_n 3, 1) := by decide +kernel
theorem d_law_1132 : decode code 1132 = .ok (.iconst 1, 1) := by decide +kernel
theorem d_law_1133 : decode code 1133 = .ok (.iadd, 1) := by decide +kernel
theorem d_law_1134 : decode code 1134 = .ok (.iaload, 1) := by decide +kernel
theorem d_law_1135 : decode code 1135 = .ok (.invokevirtual 155, 3) := by decide +kernel
theorem d_law_1138 : decode code 1138 = .ok (.aload_n 2, 1) := by decide +kernel
theorem d_law_1139 : decode code 1139 = .ok (.aload_n 0, 1) := by decide +kernel
theorem d_law_1140 : decode code 1140 = .ok (.iload_n 3, 1) := by decide +kernel
theorem d_law_1141 : decode code 1141 = .ok (.iconst 1, 1) := by decide +kernel
theorem d_law_1142 : decode code 1142 = .ok (.iadd, 1) := by decide +kernel
theorem d_law_1143 : decode code 1143 = .ok (.iaload, 1) := by decide +kernel
theorem d_law_1144 : decode code 1144 = .ok (.invokevirtual 159, 3) := by decide +kernel
theorem d_law_1147 : decode code 1147 = .ok (.if_icmp .eq 51, 3) := by decide +kernel
theorem d_law_1150 : decode code 1150 = .ok (.iconst 0, 1) := by decide +kernel
theorem d_law_1151 : decode code 1151 = .ok (.ireturn, 1) := by decide +kernel
theorem d_law_1152 : decode code 1152 = .ok (.aload_n 1, 1) := by decide +kernel
theorem d_law_1153 : decode code 1153 = .ok (.aload_n 0, 1) := by decide +kernel
theorem d_law_1154 : decode code 1154 = .ok (.iload_n 3, 1) := by decide +kernel
theorem d_law_1155 : decode code 1155 = .ok (.iconst 1, 1) := by decide +kernel
theorem d_law_1156 : decode code 1156 = .ok (.iadd, 1) := by decide +kernel
theorem d_law_1157 : decode code 1157 = .ok (.iaload, 1) := by decide +kernel
theorem d_law_1158 : decode code 1158 = .ok (.invokevirtual 160, 3) := by decide +kernel
theorem d_law_1161 : decode code 1161 = .ok (.aload_n 2, 1) := by decide +kernel
theorem d_law_1162 : decode code 1162 = .ok (.aload_n 0, 1) := by decide +kernel
theorem d_law_1163 : decode code 1163 = .ok (.iload_n 3, 1) := by decide +kernel
theorem d_law_1164 : decode code 1164 = .ok (.iconst 1, 1) := by decide +kernel
theorem d_law_1165 : decode code 1165 = .ok (.iadd, 1) := by decide +kernel
theorem d_law_1166 : decode code 1166 = .ok (.iaload, 1) := by decide +kernel
theorem d_law_1167 : decode code 1167 = .ok (.invokevirtual 163, 3) := by decide +kernel
theorem d_law_1170 : decode code 1170 = .ok (.if_icmp .eq 28, 3) := by decide +kernel
theorem d_law_1173 : decode code 1173 = .ok (.iconst 0, 1) := by decide +kernel
theorem d_law_1174 : decode code 1174 = .ok (.ireturn, 1) := by decide +kernel
theorem d_law_1175 : decode code 1175 = .ok (.aload_n 1, 1) := by decide +kernel
theorem d_law_1176 : decode code 1176 = .ok (.aload_n 0, 1) := by decide +kernel
theorem d_law_1177 : decode code 1177 = .ok (.iload_n 3, 1) := by decide +kernel
theorem d_law_1178 : decode code 1178 = .ok (.iconst 1, 1) := by decide +kernel
theorem d_law_1179 : decode code 1179 = .ok (.iadd, 1) := by decide +kernel
theorem d_law_1180 : decode code 1180 = .ok (.iaload, 1) := by decide +kernel
theorem d_law_1181 : decode code 1181 = .ok (.invokevirtual 164, 3) := by decide +kernel
theorem d_law_1184 : decode code 1184 = .ok (.aload_n 2, 1) := by decide +kernel
theorem d_law_1185 : decode code 1185 = .ok (.aload_n 0, 1) := by decide +kernel
theorem d_law_1186 : decode code 1186 = .ok (.iload_n 3, 1) := by decide +kernel
theorem d_law_1187 : decode code 1187 = .ok (.iconst 1, 1) := by decide +kernel
theorem d_law_1188 : decode code 1188 = .ok (.iadd, 1) := by decide +kernel
theorem d_law_1189 : decode code 1189 = .ok (.iaload, 1) := by decide +kernel
theorem d_law_1190 : decode code 1190 = .ok (.invokevirtual 167, 3) := by decide +kernel
theorem d_law_1193 : decode code 1193 = .ok (.if_icmp .eq 5, 3) := by decide +kernel
theorem d_law_1196 : decode code 1196 = .ok (.iconst 0, 1) := by decide +kernel
theorem d_law_1197 : decode code 1197 = .ok (.ireturn, 1) := by decide +kernel
theorem d_law_1198 : decode code 1198 = .ok (.iinc 3 6, 3) := by decide +kernel
theorem d_law_1201 : decode code 1201 = .ok (.goto (-1183), 3) := by decide +kernel
theorem d_law_1204 : decode code 1204 = .ok (.iconst 1, 1) := by decide +kernel
theorem d_law_1205 : decode code 1205 = .ok (.ireturn, 1) := by decide +kernel
