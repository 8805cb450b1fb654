theorem dL_law_1040 : decode cL_law 1040 = .ok (.iconst 1, 1) := by decide +kernel
theorem dL_law_1041 : decode cL_law 1041 = .ok (.iadd, 1) := by decide +kernel
theorem dL_law_1042 : decode cL_law 1042 = .ok (.iaload, 1) := by decide +kernel
theorem dL_law_1043 : decode cL_law 1043 = .ok (.aload_n 0, 1) := by decide +kernel
theorem dL_law_1044 : decode cL_law 1044 = .ok (.iload_n 3, 1) := by decide +kernel
theorem dL_law_1045 : decode cL_law 1045 = .ok (.iconst 2, 1) := by decide +kernel
theorem dL_law_1046 : decode cL_law 1046 = .ok (.iadd, 1) := by decide +kernel
theorem dL_law_1047 : decode cL_law 1047 = .ok (.iaload, 1) := by decide +kernel
theorem dL_law_1048 : decode cL_law 1048 = .ok (.aload_n 0, 1) := by decide +kernel
theorem dL_law_1049 : decode cL_law 1049 = .ok (.iload_n 3, 1) := by decide +kernel
theorem dL_law_1050 : decode cL_law 1050 = .ok (.iconst 3, 1) := by decide +kernel
theorem dL_law_1051 : decode cL_law 1051 = .ok (.iadd, 1) := by decide +kernel
theorem dL_law_1052 : decode cL_law 1052 = .ok (.iaload, 1) := by decide +kernel
theorem dL_law_1053 : decode cL_law 1053 = .ok (.invokevirtual 117, 3) := by decide +kernel
theorem dL_law_1056 : decode cL_law 1056 = .ok (.aload_n 2, 1) := by decide +kernel
theorem dL_law_1057 : decode cL_law 1057 = .ok (.aload_n 0, 1) := by decide +kernel
theorem dL_law_1058 : decode cL_law 1058 = .ok (.iload_n 3, 1) := by decide +kernel
theorem dL_law_1059 : decode cL_law 1059 = .ok (.iconst 1, 1) := by decide +kernel
theorem dL_law_1060 : decode cL_law 1060 = .ok (.iadd, 1) := by decide +kernel
theorem dL_law_1061 : decode cL_law 1061 = .ok (.iaload, 1) := by decide +kernel
theorem dL_law_1062 : decode cL_law 1062 = .ok (.aload_n 0, 1) := by decide +kernel
theorem dL_law_1063 : decode cL_law 1063 = .ok (.iload_n 3, 1) := by decide +kernel
theorem dL_law_1064 : decode cL_law 1064 = .ok (.iconst 2, 1) := by decide +kernel
theorem dL_law_1065 : decode cL_law 1065 = .ok (.iadd, 1) := by decide +kernel
theorem dL_law_1066 : decode cL_law 1066 = .ok (.iaload, 1) := by decide +kernel
theorem dL_law_1067 : decode cL_law 1067 = .ok (.aload_n 0, 1) := by decide +kernel
theorem dL_law_1068 : decode cL_law 1068 = .ok (.iload_n 3, 1) := by decide +kernel
theorem dL_law_1069 : decode cL_law 1069 = .ok (.iconst 3, 1) := by decide +kernel
theorem dL_law_1070 : decode cL_law 1070 = .ok (.iadd, 1) := by decide +kernel
theorem dL_law_1071 : decode cL_law 1071 = .ok (.iaload, 1) := by decide +kernel
theorem dL_law_1072 : decode cL_law 1072 = .ok (.invokevirtual 120, 3) := by decide +kernel
theorem dL_law_1075 : decode cL_law 1075 = .ok (.if_icmp .eq 386, 3) := by decide +kernel
theorem dL_law_1078 : decode cL_law 1078 = .ok (.iconst 0, 1) := by decide +kernel
theorem dL_law_1079 : decode cL_law 1079 = .ok (.ireturn, 1) := by decide +kernel
theorem dL_law_1080 : decode cL_law 1080 = .ok (.aload_n 1, 1) := by decide +kernel
theorem dL_law_1081 : decode cL_law 1081 = .ok (.aload_n 0, 1) := by decide +kernel
theorem dL_law_1082 : decode cL_law 1082 = .ok (.iload_n 3, 1) := by decide +kernel
theorem dL_law_1083 : decode cL_law 1083 = .ok (.iconst 1, 1) := by decide +kernel
theorem dL_law_1084 : decode cL_law 1084 = .ok (.iadd, 1) := by decide +kernel
theorem dL_law_1085 : decode cL_law 1085 = .ok (.iaload, 1) := by decide +kernel
theorem dL_law_1086 : decode cL_law 1086 = .ok (.aload_n 0, 1) := by decide +kernel
theorem dL_law_1087 : decode cL_law 1087 = .ok (.iload_n 3, 1) := by decide +kernel
theorem dL_law_1088 : decode cL_law 1088 = .ok (.iconst 2, 1) := by decide +kernel
theorem dL_law_1089 : decode cL_law 1089 = .ok (.iadd, 1) := by decide +kernel
theorem dL_law_1090 : decode cL_law 1090 = .ok (.iaload, 1) := by decide +kernel
theorem dL_law_1091 : decode cL_law 1091 = .ok (.aload_n 0, 1) := by decide +kernel
theorem dL_law_1092 : decode cL_law 1092 = .ok (.iload_n 3, 1) := by decide +kernel
theorem dL_law_1093 : decode cL_law 1093 = .ok (.iconst 3, 1) := by decide +kernel
theorem dL_law_1094 : decode cL_law 1094 = .ok (.iadd, 1) := by decide +kernel
theorem dL_law_1095 : decode cL_law 1095 = .ok (.iaload, 1) := by decide +kernel
theorem dL_law_1096 : decode cL_law 1096 = .ok (.invokevirtual 121, 3) := by decide +kernel
theorem dL_law_1099 : decode cL_law 1099 = .ok (.aload_n 2, 1) := by decide +kernel
theorem dL_law_1100 : decode cL_law 1100 = .ok (.aload_n 0, 1) := by decide +kernel
theorem dL_law_1101 : decode cL_law 1101 = .ok (.iload_n 3, 1) := by decide +kernel
theorem dL_law_1102 : decode cL_law 1102 = .ok (.iconst 1, 1) := by decide +kernel
theorem dL_law_1103 : decode cL_law 1103 = .ok (.iadd, 1) := by decide +kernel
theorem dL_law_1104 : decode cL_law 1104 = .ok (.iaload, 1) := by decide +kernel
theorem dL_law_1105 : decode cL_law 1105 = .ok (.aload_n 0, 1) := by decide +kernel
theorem dL_law_1106 : decode cL_law 1106 = .ok (.iload_n 3, 1) := by decide +kernel
theorem dL_law_1107 : decode cL_law 1107 = .ok (.iconst 2, 1) := by decide +kernel
theorem dL_law_1108 : decode cL_law 1108 = .ok (.iadd, 1) := by decide +kernel
theorem dL_law_1109 : decode cL_law 1109 = .ok (.iaload, 1) := by decide +kernel
theorem dL_law_1110 : decode cL_law 1110 = .ok (.aload_n 0, 1) := by decide +kernel
theorem dL_law_1111 : decode cL_law 1111 = .ok (.iload_n 3, 1) := by decide +kernel
theorem dL_law_1112 : decode cL_law 1112 = .ok (.iconst 3, 1) := by decide +kernel
theorem dL_law_1113 : decode cL_law 1113 = .ok (.iadd, 1) := by decide +kernel
theorem dL_law_1114 : decode cL_law 1114 = .ok (.iaload, 1) := by decide +kernel
theorem dL_law_1115 : decode cL_law 1115 = .ok (.invokevirtual 124, 3) := by decide +kernel
theorem dL_law_1118 : decode cL_law 1118 = .ok (.if_icmp .eq 343, 3) := by decide +kernel
theorem dL_law_1121 : decode cL_law 1121 = .ok (.iconst 0, 1) := by decide +kernel
theorem dL_law_1122 : decode cL_law 1122 = .ok (.ireturn, 1) := by decide +kernel
theorem dL_law_1123 : decode cL_law 1123 = .ok (.aload_n 1, 1) := by decide +kernel
theorem dL_law_1124 : decode cL_law 1124 = .ok (.aload_n 0, 1) := by decide +kernel
theorem dL_law_1125 : decode cL_law 1125 = .ok (.iload_n 3, 1) := by decide +kernel
theorem dL_law_1126 : decode cL_law 1126 = .ok (.iconst 1, 1) := by decide +kernel
theorem dL_law_1127 : decode cL_law 1127 = .ok (.iadd, 1) := by decide +kernel
theorem dL_law_1128 : decode cL_law 1128 = .ok (.iaload, 1) := by decide +kernel
theorem dL_law_1129 : decode cL_law 1129 = .ok (.aload_n 0, 1) := by decide +kernel
theorem dL_law_1130 : decode cL_law 1130 = .ok (.iload_n 3, 1) := by decide +kernel
theorem dL_law_1131 : decode cL_law 1131 = .ok (.iconst 2, 1) := by decide +kernel
theorem dL_law_1132 : decode cL_law 1132 = .ok (.iadd, 1) := by decide +kernel
theorem dL_law_1133 : decode cL_law 1133 = .ok (.iaload, 1) := by decide +kernel
theorem dL_law_1134 : decode cL_law 1134 = .ok (.aload_n 0, 1) := by decide +kernel
theorem dL_law_1135 : decode cL_law 1135 = .ok (.iload_n 3, 1) := by decide +kernel
theorem dL_law_1136 : decode cL_law 1136 = .ok (.iconst 3, 1) := by decide +kernel
theorem dL_law_1137 : decode cL_law 1137 = .ok (.iadd, 1) := by decide +kernel
theorem dL_law_1138 : decode cL_law 1138 = .ok (.iaload, 1) := by decide +kernel
theorem dL_law_1139 : decode cL_law 1139 = .ok (.invokevirtual 125, 3) := by decide +kernel
theorem dL_law_1142 : decode cL_law 1142 = .ok (.aload_n 2, 1) := by decide +kernel
theorem dL_law_1143 : decode cL_law 1143 = .ok (.aload_n 0, 1) := by decide +kernel
theorem dL_law_1144 : decode cL_law 1144 = .ok (.iload_n 3, 1) := by decide +kernel
theorem dL_law_1145 : decode cL_law 1145 = .ok (.iconst 1, 1) := by decide +kernel
theorem dL_law_1146 : decode cL_law 1146 = .ok (.iadd, 1) := by decide +kernel
theorem dL_law_1147 : decode cL_law 1147 = .ok (.iaload, 1) := by decide +kernel
theorem dL_law_1148 : decode cL_law 1148 = .ok (.aload_n 0, 1) := by decide +kernel
theorem dL_law_1149 : decode cL_law 1149 = .ok (.iload_n 3, 1) := by decide +kernel
theorem dL_law_1150 : decode cL_law 1150 = .ok (.iconst 2, 1) := by decide +kernel
theorem dL_law_1151 : decode cL_law 1151 = .ok (.iadd, 1) := by decide +kernel
theorem dL_law_1152 : decode cL_law 1152 = .ok (.iaload, 1) := by decide +kernel
theorem dL_law_1153 : decode cL_law 1153 = .ok (.aload_n 0, 1) := by decide +kernel
theorem dL_law_1154 : decode cL_law 1154 = .ok (.iload_n 3, 1) := by decide +kernel
theorem dL_law_1155 : decode cL_law 1155 = .ok (.iconst 3, 1) := by decide +kernel
theorem dL_law_1156 : decode cL_law 1156 = .ok (.iadd, 1) := by decide +kernel
theorem dL_law_1157 : decode cL_law 1157 = .ok (.iaload, 1) := by decide +kernel
theorem dL_law_1158 : decode cL_law 1158 = .ok (.invokevirtual 128, 3) := by decide +kernel
theorem dL_law_1161 : decode cL_law 1161 = .ok (.if_icmp .eq 300, 3) := by decide +kernel
theorem dL_law_1164 : decode cL_law 1164 = .ok (.iconst 0, 1) := by decide +kernel
theorem dL_law_1165 : decode cL_law 1165 = .ok (.ireturn, 1) := by decide +kernel
theorem dL_law_1166 : decode cL_law 1166 = .ok (.aload_n 1, 1) := by decide +kernel
theorem dL_law_1167 : decode cL_law 1167 = .ok (.aload_n 0, 1) := by decide +kernel
theorem dL_law_1168 : decode cL_law 1168 = .ok (.iload_n 3, 1) := by decide +kernel
theorem dL_law_1169 : decode cL_law 1169 = .ok (.iconst 1, 1) := by decide +kernel
theorem dL_law_1170 : decode cL_law 1170 = .ok (.iadd, 1) := by decide +kernel
theorem dL_law_1171 : decode cL_law 1171 = .ok (.iaload, 1) := by decide +kernel
theorem dL_law_1172 : decode cL_law 1172 = .ok (.aload_n 0, 1) := by decide +kernel
theorem dL_law_1173 : decode cL_law 1173 = .ok (.iload_n 3, 1) := by decide +kernel
theorem dL_law_1174 : decode cL_law 1174 = .ok (.iconst 2, 1) := by decide +kernel
theorem dL_law_1175 : decode cL_law 1175 = .ok (.iadd, 1) := by decide +kernel
theorem dL_law_1176 : decode cL_law 1176 = .ok (.iaload, 1) := by decide +kernel
theorem dL_law_1177 : decode cL_law 1177 = .ok (.aload_n 0, 1) := by decide +kernel
theorem dL_law_1178 : decode cL_law 1178 = .ok (.iload_n 3, 1) := by decide +kernel
theorem dL_law_1179 : decode cL_law 1179 = .ok (.iconst 3, 1) := by decide +kernel
theorem dL_law_1180 : decode cL_law 1180 = .ok (.iadd, 1) := by decide +kernel
theorem dL_law_1181 : decode cL_law 1181 = .ok (.iaload, 1) := by decide +kernel
theorem dL_law_1182 : decode cL_law 1182 = .ok (.i2l, 1) := by decide +kernel
theorem dL_law_1183 : decode cL_law 1183 = .ok (.bipush 32, 2) := by decide +kernel
theorem dL_law_1185 : decode cL_law 1185 = .ok (.lshl, 1) := by decide +kernel
theorem dL_law_1186 : decode cL_law 1186 = .ok (.aload_n 0, 1) := by decide +kernel
theorem dL_law_1187 : decode cL_law 1187 = .ok (.iload_n 3, 1) := by decide +kernel
theorem dL_law_1188 : decode cL_law 1188 = .ok (.iconst 4, 1) := by decide +kernel
theorem dL_law_1189 : decode cL_law 1189 = .ok (.iadd, 1) := by decide +kernel
theorem dL_law_1190 : decode cL_law 1190 = .ok (.iaload, 1) := by decide +kernel
theorem dL_law_1191 : decode cL_law 1191 = .ok (.i2l, 1) := by decide +kernel
theorem dL_law_1192 : decode cL_law 1192 = .ok (.ldc2_w 129, 3) := by decide +kernel
theorem dL_law_1195 : decode cL_law 1195 = .ok (.land, 1) := by decide +kernel
theorem dL_law_1196 : decode cL_law 1196 = .ok (.lor, 1) := by decide +kernel
theorem dL_law_1197 : decode cL_law 1197 = .ok (.invokevirtual 131, 3) := by decide +kernel
theorem dL_law_1200 : decode cL_law 1200 = .ok (.aload_n 2, 1) := by decide +kernel
theorem dL_law_1201 : decode cL_law 1201 = .ok (.aload_n 0, 1) := by decide +kernel
theorem dL_law_1202 : decode cL_law 1202 = .ok (.iload_n 3, 1) := by decide +kernel
theorem dL_law_1203 : decode cL_law 1203 = .ok (.iconst 1, 1) := by decide +kernel
theorem dL_law_1204 : decode cL_law 1204 = .ok (.iadd, 1) := by decide +kernel
theorem dL_law_1205 : decode cL_law 1205 = .ok (.iaload, 1) := by decide +kernel
theorem dL_law_1206 : decode cL_law 1206 = .ok (.aload_n 0, 1) := by decide +kernel
theorem dL_law_1207 : decode cL_law 1207 = .ok (.iload_n 3, 1) := by decide +kernel
theorem dL_law_1208 : decode cL_law 1208 = .ok (.iconst 2, 1) := by decide +kernel
theorem dL_law_1209 : decode cL_law 1209 = .ok (.iadd, 1) := by decide +kernel
theorem dL_law_1210 : decode cL_law 1210 = .ok (.iaload, 1) := by decide +kernel
theorem dL_law_1211 : decode cL_law 1211 = .ok (.aload_n 0, 1) := by decide +kernel
theorem dL_law_1212 : decode cL_law 1212 = .ok (.iload_n 3, 1) := by decide +kernel
theorem dL_law_1213 : decode cL_law 1213 = .ok (.iconst 3, 1) := by decide +kernel
theorem dL_law_1214 : decode cL_law 1214 = .ok (.iadd, 1) := by decide +kernel
theorem dL_law_1215 : decode cL_law 1215 = .ok (.iaload, 1) := by decide +kernel
theorem dL_law_1216 : decode cL_law 1216 = .ok (.i2l, 1) := by decide +kernel
theorem dL_law_1217 : decode cL_law 1217 = .ok (.bipush 32, 2) := by decide +kernel
theorem dL_law_1219 : decode cL_law 1219 = .ok (.lshl, 1) := by decide +kernel
theorem dL_law_1220 : decode cL_law 1220 = .ok (.aload_n 0, 1) := by decide +kernel
theorem dL_law_1221 : decode cL_law 1221 = .ok (.iload_n 3, 1) := by decide +kernel
theorem dL_law_1222 : decode cL_law 1222 = .ok (.iconst 4, 1) := by decide +kernel
theorem dL_law_1223 : decode cL_law 1223 = .ok (.iadd, 1) := by decide +kernel
theorem dL_law_1224 : decode cL_law 1224 = .ok (.iaload, 1) := by decide +kernel
theorem dL_law_1225 : decode cL_law 1225 = .ok (.i2l, 1) := by decide +kernel
theorem dL_law_1226 : decode cL_law 1226 = .ok (.ldc2_w 129, 3) := by decide +kernel
theorem dL_law_1229 : decode cL_law 1229 = .ok (.land, 1) := by decide +kernel
theorem dL_law_1230 : decode cL_law 1230 = .ok (.lor, 1) := by decide +kernel
theorem dL_law_1231 : decode cL_law 1231 = .ok (.invokevirtual 135, 3) := by decide +kernel
theorem dL_law_1234 : decode cL_law 1234 = .ok (.if_icmp .eq 227, 3) := by decide +kernel
theorem dL_law_1237 : decode cL_law 1237 = .ok (.iconst 0, 1) := by decide +kernel
theorem dL_law_1238 : decode cL_law 1238 = .ok (.ireturn, 1) := by decide +kernel
theorem dL_law_1239 : decode cL_law 1239 = .ok (.aload_n 1, 1) := by decide +kernel
theorem dL_law_1240 : decode cL_law 1240 = .ok (.aload_n 0, 1) := by decide +kernel
theorem dL_law_1241 : decode cL_law 1241 = .ok (.iload_n 3, 1) := by decide +kernel
theorem dL_law_1242 : decode cL_law 1242 = .ok (.iconst 1, 1) := by decide +kernel
theorem dL_law_1243 : decode cL_law 1243 = .ok (.iadd, 1) := by decide +kernel
theorem dL_law_1244 : decode cL_law 1244 = .ok (.iaload, 1) := by decide +kernel
theorem dL_law_1245 : decode cL_law 1245 = .ok (.aload_n 0, 1) := by decide +kernel
theorem dL_law_1246 : decode cL_law 1246 = .ok (.iload_n 3, 1) := by decide +kernel
theorem dL_law_1247 : decode cL_law 1247 = .ok (.iconst 2, 1) := by decide +kernel
theorem dL_law_1248 : decode cL_law 1248 = .ok (.iadd, 1) := by decide +kernel
theorem dL_law_1249 : decode cL_law 1249 = .ok (.iaload, 1) := by decide +kernel
