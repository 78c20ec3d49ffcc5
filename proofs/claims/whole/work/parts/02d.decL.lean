/-! decode rows of the law's body, 4 -/
theorem dL_law_994 : decode code 994 = .ok (.ifCond .ne 15, 3) := by decide +kernel
theorem dL_law_997 : decode code 997 = .ok (.aload_n 3, 1) := by decide +kernel
theorem dL_law_998 : decode code 998 = .ok (.iconst 0, 1) := by decide +kernel
theorem dL_law_999 : decode code 999 = .ok (.laload, 1) := by decide +kernel
theorem dL_law_1000 : decode code 1000 = .ok (.iload 6, 2) := by decide +kernel
theorem dL_law_1002 : decode code 1002 = .ok (.i2l, 1) := by decide +kernel
theorem dL_law_1003 : decode code 1003 = .ok (.lcmp, 1) := by decide +kernel
theorem dL_law_1004 : decode code 1004 = .ok (.ifCond .eq 5, 3) := by decide +kernel
theorem dL_law_1007 : decode code 1007 = .ok (.iconst 0, 1) := by decide +kernel
theorem dL_law_1008 : decode code 1008 = .ok (.ireturn, 1) := by decide +kernel
theorem dL_law_1009 : decode code 1009 = .ok (.goto 2472, 3) := by decide +kernel
theorem dL_law_1012 : decode code 1012 = .ok (.aload_n 1, 1) := by decide +kernel
theorem dL_law_1013 : decode code 1013 = .ok (.aload_n 0, 1) := by decide +kernel
theorem dL_law_1014 : decode code 1014 = .ok (.iload 4, 2) := by decide +kernel
theorem dL_law_1016 : decode code 1016 = .ok (.iconst 1, 1) := by decide +kernel
theorem dL_law_1017 : decode code 1017 = .ok (.iadd, 1) := by decide +kernel
theorem dL_law_1018 : decode code 1018 = .ok (.iaload, 1) := by decide +kernel
theorem dL_law_1019 : decode code 1019 = .ok (.aload_n 3, 1) := by decide +kernel
theorem dL_law_1020 : decode code 1020 = .ok (.invokestatic 231, 3) := by decide +kernel
theorem dL_law_1023 : decode code 1023 = .ok (.istore 5, 2) := by decide +kernel
theorem dL_law_1025 : decode code 1025 = .ok (.aload_n 2, 1) := by decide +kernel
theorem dL_law_1026 : decode code 1026 = .ok (.aload_n 0, 1) := by decide +kernel
theorem dL_law_1027 : decode code 1027 = .ok (.iload 4, 2) := by decide +kernel
theorem dL_law_1029 : decode code 1029 = .ok (.iconst 1, 1) := by decide +kernel
theorem dL_law_1030 : decode code 1030 = .ok (.iadd, 1) := by decide +kernel
theorem dL_law_1031 : decode code 1031 = .ok (.iaload, 1) := by decide +kernel
theorem dL_law_1032 : decode code 1032 = .ok (.invokevirtual 233, 3) := by decide +kernel
theorem dL_law_1035 : decode code 1035 = .ok (.istore 6, 2) := by decide +kernel
theorem dL_law_1037 : decode code 1037 = .ok (.aload_n 2, 1) := by decide +kernel
theorem dL_law_1038 : decode code 1038 = .ok (.invokevirtual 166, 3) := by decide +kernel
theorem dL_law_1041 : decode code 1041 = .ok (.iload 5, 2) := by decide +kernel
theorem dL_law_1043 : decode code 1043 = .ok (.if_icmp .eq 5, 3) := by decide +kernel
theorem dL_law_1046 : decode code 1046 = .ok (.iconst 0, 1) := by decide +kernel
theorem dL_law_1047 : decode code 1047 = .ok (.ireturn, 1) := by decide +kernel
theorem dL_law_1048 : decode code 1048 = .ok (.iload 5, 2) := by decide +kernel
theorem dL_law_1050 : decode code 1050 = .ok (.ifCond .ne 15, 3) := by decide +kernel
theorem dL_law_1053 : decode code 1053 = .ok (.aload_n 3, 1) := by decide +kernel
theorem dL_law_1054 : decode code 1054 = .ok (.iconst 0, 1) := by decide +kernel
theorem dL_law_1055 : decode code 1055 = .ok (.laload, 1) := by decide +kernel
theorem dL_law_1056 : decode code 1056 = .ok (.iload 6, 2) := by decide +kernel
theorem dL_law_1058 : decode code 1058 = .ok (.i2l, 1) := by decide +kernel
theorem dL_law_1059 : decode code 1059 = .ok (.lcmp, 1) := by decide +kernel
theorem dL_law_1060 : decode code 1060 = .ok (.ifCond .eq 5, 3) := by decide +kernel
theorem dL_law_1063 : decode code 1063 = .ok (.iconst 0, 1) := by decide +kernel
theorem dL_law_1064 : decode code 1064 = .ok (.ireturn, 1) := by decide +kernel
theorem dL_law_1065 : decode code 1065 = .ok (.goto 2416, 3) := by decide +kernel
theorem dL_law_1068 : decode code 1068 = .ok (.aload_n 1, 1) := by decide +kernel
theorem dL_law_1069 : decode code 1069 = .ok (.aload_n 0, 1) := by decide +kernel
theorem dL_law_1070 : decode code 1070 = .ok (.iload 4, 2) := by decide +kernel
theorem dL_law_1072 : decode code 1072 = .ok (.iconst 1, 1) := by decide +kernel
theorem dL_law_1073 : decode code 1073 = .ok (.iadd, 1) := by decide +kernel
theorem dL_law_1074 : decode code 1074 = .ok (.iaload, 1) := by decide +kernel
theorem dL_law_1075 : decode code 1075 = .ok (.aload_n 3, 1) := by decide +kernel
theorem dL_law_1076 : decode code 1076 = .ok (.invokestatic 234, 3) := by decide +kernel
theorem dL_law_1079 : decode code 1079 = .ok (.istore 5, 2) := by decide +kernel
theorem dL_law_1081 : decode code 1081 = .ok (.aload_n 2, 1) := by decide +kernel
theorem dL_law_1082 : decode code 1082 = .ok (.aload_n 0, 1) := by decide +kernel
theorem dL_law_1083 : decode code 1083 = .ok (.iload 4, 2) := by decide +kernel
theorem dL_law_1085 : decode code 1085 = .ok (.iconst 1, 1) := by decide +kernel
theorem dL_law_1086 : decode code 1086 = .ok (.iadd, 1) := by decide +kernel
theorem dL_law_1087 : decode code 1087 = .ok (.iaload, 1) := by decide +kernel
theorem dL_law_1088 : decode code 1088 = .ok (.invokevirtual 236, 3) := by decide +kernel
theorem dL_law_1091 : decode code 1091 = .ok (.istore 6, 2) := by decide +kernel
theorem dL_law_1093 : decode code 1093 = .ok (.aload_n 2, 1) := by decide +kernel
theorem dL_law_1094 : decode code 1094 = .ok (.invokevirtual 166, 3) := by decide +kernel
theorem dL_law_1097 : decode code 1097 = .ok (.iload 5, 2) := by decide +kernel
theorem dL_law_1099 : decode code 1099 = .ok (.if_icmp .eq 5, 3) := by decide +kernel
theorem dL_law_1102 : decode code 1102 = .ok (.iconst 0, 1) := by decide +kernel
theorem dL_law_1103 : decode code 1103 = .ok (.ireturn, 1) := by decide +kernel
theorem dL_law_1104 : decode code 1104 = .ok (.iload 5, 2) := by decide +kernel
theorem dL_law_1106 : decode code 1106 = .ok (.ifCond .ne 22, 3) := by decide +kernel
theorem dL_law_1109 : decode code 1109 = .ok (.aload_n 3, 1) := by decide +kernel
theorem dL_law_1110 : decode code 1110 = .ok (.iconst 0, 1) := by decide +kernel
theorem dL_law_1111 : decode code 1111 = .ok (.laload, 1) := by decide +kernel
theorem dL_law_1112 : decode code 1112 = .ok (.iload 6, 2) := by decide +kernel
theorem dL_law_1114 : decode code 1114 = .ok (.ifCond .eq 7, 3) := by decide +kernel
theorem dL_law_1117 : decode code 1117 = .ok (.lconst 1, 1) := by decide +kernel
theorem dL_law_1118 : decode code 1118 = .ok (.goto 4, 3) := by decide +kernel
theorem dL_law_1121 : decode code 1121 = .ok (.lconst 0, 1) := by decide +kernel
theorem dL_law_1122 : decode code 1122 = .ok (.lcmp, 1) := by decide +kernel
theorem dL_law_1123 : decode code 1123 = .ok (.ifCond .eq 5, 3) := by decide +kernel
theorem dL_law_1126 : decode code 1126 = .ok (.iconst 0, 1) := by decide +kernel
theorem dL_law_1127 : decode code 1127 = .ok (.ireturn, 1) := by decide +kernel
theorem dL_law_1128 : decode code 1128 = .ok (.goto 2353, 3) := by decide +kernel
theorem dL_law_1131 : decode code 1131 = .ok (.aload_n 1, 1) := by decide +kernel
theorem dL_law_1132 : decode code 1132 = .ok (.aload_n 0, 1) := by decide +kernel
theorem dL_law_1133 : decode code 1133 = .ok (.iload 4, 2) := by decide +kernel
theorem dL_law_1135 : decode code 1135 = .ok (.iconst 1, 1) := by decide +kernel
theorem dL_law_1136 : decode code 1136 = .ok (.iadd, 1) := by decide +kernel
theorem dL_law_1137 : decode code 1137 = .ok (.iaload, 1) := by decide +kernel
theorem dL_law_1138 : decode code 1138 = .ok (.aload_n 3, 1) := by decide +kernel
theorem dL_law_1139 : decode code 1139 = .ok (.invokestatic 237, 3) := by decide +kernel
theorem dL_law_1142 : decode code 1142 = .ok (.istore 5, 2) := by decide +kernel
theorem dL_law_1144 : decode code 1144 = .ok (.aload_n 2, 1) := by decide +kernel
theorem dL_law_1145 : decode code 1145 = .ok (.aload_n 0, 1) := by decide +kernel
theorem dL_law_1146 : decode code 1146 = .ok (.iload 4, 2) := by decide +kernel
theorem dL_law_1148 : decode code 1148 = .ok (.iconst 1, 1) := by decide +kernel
theorem dL_law_1149 : decode code 1149 = .ok (.iadd, 1) := by decide +kernel
theorem dL_law_1150 : decode code 1150 = .ok (.iaload, 1) := by decide +kernel
theorem dL_law_1151 : decode code 1151 = .ok (.invokevirtual 239, 3) := by decide +kernel
theorem dL_law_1154 : decode code 1154 = .ok (.istore 6, 2) := by decide +kernel
theorem dL_law_1156 : decode code 1156 = .ok (.aload_n 2, 1) := by decide +kernel
theorem dL_law_1157 : decode code 1157 = .ok (.invokevirtual 166, 3) := by decide +kernel
theorem dL_law_1160 : decode code 1160 = .ok (.iload 5, 2) := by decide +kernel
theorem dL_law_1162 : decode code 1162 = .ok (.if_icmp .eq 5, 3) := by decide +kernel
theorem dL_law_1165 : decode code 1165 = .ok (.iconst 0, 1) := by decide +kernel
theorem dL_law_1166 : decode code 1166 = .ok (.ireturn, 1) := by decide +kernel
theorem dL_law_1167 : decode code 1167 = .ok (.iload 5, 2) := by decide +kernel
theorem dL_law_1169 : decode code 1169 = .ok (.ifCond .ne 22, 3) := by decide +kernel
theorem dL_law_1172 : decode code 1172 = .ok (.aload_n 3, 1) := by decide +kernel
theorem dL_law_1173 : decode code 1173 = .ok (.iconst 0, 1) := by decide +kernel
theorem dL_law_1174 : decode code 1174 = .ok (.laload, 1) := by decide +kernel
theorem dL_law_1175 : decode code 1175 = .ok (.iload 6, 2) := by decide +kernel
theorem dL_law_1177 : decode code 1177 = .ok (.ifCond .eq 7, 3) := by decide +kernel
theorem dL_law_1180 : decode code 1180 = .ok (.lconst 1, 1) := by decide +kernel
theorem dL_law_1181 : decode code 1181 = .ok (.goto 4, 3) := by decide +kernel
theorem dL_law_1184 : decode code 1184 = .ok (.lconst 0, 1) := by decide +kernel
theorem dL_law_1185 : decode code 1185 = .ok (.lcmp, 1) := by decide +kernel
theorem dL_law_1186 : decode code 1186 = .ok (.ifCond .eq 5, 3) := by decide +kernel
theorem dL_law_1189 : decode code 1189 = .ok (.iconst 0, 1) := by decide +kernel
theorem dL_law_1190 : decode code 1190 = .ok (.ireturn, 1) := by decide +kernel
theorem dL_law_1191 : decode code 1191 = .ok (.goto 2290, 3) := by decide +kernel
theorem dL_law_1194 : decode code 1194 = .ok (.aload_n 1, 1) := by decide +kernel
theorem dL_law_1195 : decode code 1195 = .ok (.aload_n 0, 1) := by decide +kernel
theorem dL_law_1196 : decode code 1196 = .ok (.iload 4, 2) := by decide +kernel
theorem dL_law_1198 : decode code 1198 = .ok (.iconst 1, 1) := by decide +kernel
theorem dL_law_1199 : decode code 1199 = .ok (.iadd, 1) := by decide +kernel
theorem dL_law_1200 : decode code 1200 = .ok (.iaload, 1) := by decide +kernel
theorem dL_law_1201 : decode code 1201 = .ok (.aload_n 3, 1) := by decide +kernel
theorem dL_law_1202 : decode code 1202 = .ok (.invokestatic 240, 3) := by decide +kernel
theorem dL_law_1205 : decode code 1205 = .ok (.istore 5, 2) := by decide +kernel
theorem dL_law_1207 : decode code 1207 = .ok (.aload_n 2, 1) := by decide +kernel
theorem dL_law_1208 : decode code 1208 = .ok (.aload_n 0, 1) := by decide +kernel
theorem dL_law_1209 : decode code 1209 = .ok (.iload 4, 2) := by decide +kernel
theorem dL_law_1211 : decode code 1211 = .ok (.iconst 1, 1) := by decide +kernel
theorem dL_law_1212 : decode code 1212 = .ok (.iadd, 1) := by decide +kernel
theorem dL_law_1213 : decode code 1213 = .ok (.iaload, 1) := by decide +kernel
theorem dL_law_1214 : decode code 1214 = .ok (.invokevirtual 242, 3) := by decide +kernel
theorem dL_law_1217 : decode code 1217 = .ok (.istore 6, 2) := by decide +kernel
theorem dL_law_1219 : decode code 1219 = .ok (.aload_n 2, 1) := by decide +kernel
theorem dL_law_1220 : decode code 1220 = .ok (.invokevirtual 166, 3) := by decide +kernel
theorem dL_law_1223 : decode code 1223 = .ok (.iload 5, 2) := by decide +kernel
theorem dL_law_1225 : decode code 1225 = .ok (.if_icmp .eq 5, 3) := by decide +kernel
theorem dL_law_1228 : decode code 1228 = .ok (.iconst 0, 1) := by decide +kernel
theorem dL_law_1229 : decode code 1229 = .ok (.ireturn, 1) := by decide +kernel
theorem dL_law_1230 : decode code 1230 = .ok (.iload 5, 2) := by decide +kernel
theorem dL_law_1232 : decode code 1232 = .ok (.ifCond .ne 22, 3) := by decide +kernel
theorem dL_law_1235 : decode code 1235 = .ok (.aload_n 3, 1) := by decide +kernel
theorem dL_law_1236 : decode code 1236 = .ok (.iconst 0, 1) := by decide +kernel
theorem dL_law_1237 : decode code 1237 = .ok (.laload, 1) := by decide +kernel
