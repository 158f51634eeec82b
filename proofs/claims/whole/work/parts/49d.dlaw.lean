theorem dl_1053 : decode code 1053 = .ok (.iload_n 3, 1) := by decide +kernel
theorem dl_1054 : decode code 1054 = .ok (.iconst 4, 1) := by decide +kernel
theorem dl_1055 : decode code 1055 = .ok (.iadd, 1) := by decide +kernel
theorem dl_1056 : decode code 1056 = .ok (.iaload, 1) := by decide +kernel
theorem dl_1057 : decode code 1057 = .ok (.aload_n 0, 1) := by decide +kernel
theorem dl_1058 : decode code 1058 = .ok (.iload_n 3, 1) := by decide +kernel
theorem dl_1059 : decode code 1059 = .ok (.iconst 5, 1) := by decide +kernel
theorem dl_1060 : decode code 1060 = .ok (.iadd, 1) := by decide +kernel
theorem dl_1061 : decode code 1061 = .ok (.iaload, 1) := by decide +kernel
theorem dl_1062 : decode code 1062 = .ok (.invokevirtual 138, 3) := by decide +kernel
theorem dl_1065 : decode code 1065 = .ok (.if_icmp .eq 269, 3) := by decide +kernel
theorem dl_1068 : decode code 1068 = .ok (.iconst 0, 1) := by decide +kernel
theorem dl_1069 : decode code 1069 = .ok (.ireturn, 1) := by decide +kernel
theorem dl_1070 : decode code 1070 = .ok (.aload_n 1, 1) := by decide +kernel
theorem dl_1071 : decode code 1071 = .ok (.aload_n 0, 1) := by decide +kernel
theorem dl_1072 : decode code 1072 = .ok (.iload_n 3, 1) := by decide +kernel
theorem dl_1073 : decode code 1073 = .ok (.iconst 1, 1) := by decide +kernel
theorem dl_1074 : decode code 1074 = .ok (.iadd, 1) := by decide +kernel
theorem dl_1075 : decode code 1075 = .ok (.iaload, 1) := by decide +kernel
theorem dl_1076 : decode code 1076 = .ok (.invokevirtual 139, 3) := by decide +kernel
theorem dl_1079 : decode code 1079 = .ok (.aload_n 2, 1) := by decide +kernel
theorem dl_1080 : decode code 1080 = .ok (.aload_n 0, 1) := by decide +kernel
theorem dl_1081 : decode code 1081 = .ok (.iload_n 3, 1) := by decide +kernel
theorem dl_1082 : decode code 1082 = .ok (.iconst 1, 1) := by decide +kernel
theorem dl_1083 : decode code 1083 = .ok (.iadd, 1) := by decide +kernel
theorem dl_1084 : decode code 1084 = .ok (.iaload, 1) := by decide +kernel
theorem dl_1085 : decode code 1085 = .ok (.invokevirtual 142, 3) := by decide +kernel
theorem dl_1088 : decode code 1088 = .ok (.if_icmp .eq 246, 3) := by decide +kernel
theorem dl_1091 : decode code 1091 = .ok (.iconst 0, 1) := by decide +kernel
theorem dl_1092 : decode code 1092 = .ok (.ireturn, 1) := by decide +kernel
theorem dl_1093 : decode code 1093 = .ok (.aload_n 1, 1) := by decide +kernel
theorem dl_1094 : decode code 1094 = .ok (.aload_n 0, 1) := by decide +kernel
theorem dl_1095 : decode code 1095 = .ok (.iload_n 3, 1) := by decide +kernel
theorem dl_1096 : decode code 1096 = .ok (.iconst 1, 1) := by decide +kernel
theorem dl_1097 : decode code 1097 = .ok (.iadd, 1) := by decide +kernel
theorem dl_1098 : decode code 1098 = .ok (.iaload, 1) := by decide +kernel
theorem dl_1099 : decode code 1099 = .ok (.aload_n 0, 1) := by decide +kernel
theorem dl_1100 : decode code 1100 = .ok (.iload_n 3, 1) := by decide +kernel
theorem dl_1101 : decode code 1101 = .ok (.iconst 2, 1) := by decide +kernel
theorem dl_1102 : decode code 1102 = .ok (.iadd, 1) := by decide +kernel
theorem dl_1103 : decode code 1103 = .ok (.iaload, 1) := by decide +kernel
theorem dl_1104 : decode code 1104 = .ok (.aload_n 0, 1) := by decide +kernel
theorem dl_1105 : decode code 1105 = .ok (.iload_n 3, 1) := by decide +kernel
theorem dl_1106 : decode code 1106 = .ok (.iconst 3, 1) := by decide +kernel
theorem dl_1107 : decode code 1107 = .ok (.iadd, 1) := by decide +kernel
theorem dl_1108 : decode code 1108 = .ok (.iaload, 1) := by decide +kernel
theorem dl_1109 : decode code 1109 = .ok (.invokevirtual 143, 3) := by decide +kernel
theorem dl_1112 : decode code 1112 = .ok (.aload_n 2, 1) := by decide +kernel
theorem dl_1113 : decode code 1113 = .ok (.aload_n 0, 1) := by decide +kernel
theorem dl_1114 : decode code 1114 = .ok (.iload_n 3, 1) := by decide +kernel
theorem dl_1115 : decode code 1115 = .ok (.iconst 1, 1) := by decide +kernel
theorem dl_1116 : decode code 1116 = .ok (.iadd, 1) := by decide +kernel
theorem dl_1117 : decode code 1117 = .ok (.iaload, 1) := by decide +kernel
theorem dl_1118 : decode code 1118 = .ok (.aload_n 0, 1) := by decide +kernel
theorem dl_1119 : decode code 1119 = .ok (.iload_n 3, 1) := by decide +kernel
theorem dl_1120 : decode code 1120 = .ok (.iconst 2, 1) := by decide +kernel
theorem dl_1121 : decode code 1121 = .ok (.iadd, 1) := by decide +kernel
theorem dl_1122 : decode code 1122 = .ok (.iaload, 1) := by decide +kernel
theorem dl_1123 : decode code 1123 = .ok (.aload_n 0, 1) := by decide +kernel
theorem dl_1124 : decode code 1124 = .ok (.iload_n 3, 1) := by decide +kernel
theorem dl_1125 : decode code 1125 = .ok (.iconst 3, 1) := by decide +kernel
theorem dl_1126 : decode code 1126 = .ok (.iadd, 1) := by decide +kernel
theorem dl_1127 : decode code 1127 = .ok (.iaload, 1) := by decide +kernel
theorem dl_1128 : decode code 1128 = .ok (.invokevirtual 146, 3) := by decide +kernel
theorem dl_1131 : decode code 1131 = .ok (.if_icmp .eq 203, 3) := by decide +kernel
theorem dl_1134 : decode code 1134 = .ok (.iconst 0, 1) := by decide +kernel
theorem dl_1135 : decode code 1135 = .ok (.ireturn, 1) := by decide +kernel
theorem dl_1136 : decode code 1136 = .ok (.aload_n 1, 1) := by decide +kernel
theorem dl_1137 : decode code 1137 = .ok (.aload_n 0, 1) := by decide +kernel
theorem dl_1138 : decode code 1138 = .ok (.iload_n 3, 1) := by decide +kernel
theorem dl_1139 : decode code 1139 = .ok (.iconst 1, 1) := by decide +kernel
theorem dl_1140 : decode code 1140 = .ok (.iadd, 1) := by decide +kernel
theorem dl_1141 : decode code 1141 = .ok (.iaload, 1) := by decide +kernel
theorem dl_1142 : decode code 1142 = .ok (.aload_n 0, 1) := by decide +kernel
theorem dl_1143 : decode code 1143 = .ok (.iload_n 3, 1) := by decide +kernel
theorem dl_1144 : decode code 1144 = .ok (.iconst 2, 1) := by decide +kernel
theorem dl_1145 : decode code 1145 = .ok (.iadd, 1) := by decide +kernel
theorem dl_1146 : decode code 1146 = .ok (.iaload, 1) := by decide +kernel
theorem dl_1147 : decode code 1147 = .ok (.aload_n 0, 1) := by decide +kernel
theorem dl_1148 : decode code 1148 = .ok (.iload_n 3, 1) := by decide +kernel
theorem dl_1149 : decode code 1149 = .ok (.iconst 3, 1) := by decide +kernel
theorem dl_1150 : decode code 1150 = .ok (.iadd, 1) := by decide +kernel
theorem dl_1151 : decode code 1151 = .ok (.iaload, 1) := by decide +kernel
theorem dl_1152 : decode code 1152 = .ok (.invokevirtual 147, 3) := by decide +kernel
theorem dl_1155 : decode code 1155 = .ok (.aload_n 2, 1) := by decide +kernel
theorem dl_1156 : decode code 1156 = .ok (.aload_n 0, 1) := by decide +kernel
theorem dl_1157 : decode code 1157 = .ok (.iload_n 3, 1) := by decide +kernel
theorem dl_1158 : decode code 1158 = .ok (.iconst 1, 1) := by decide +kernel
theorem dl_1159 : decode code 1159 = .ok (.iadd, 1) := by decide +kernel
theorem dl_1160 : decode code 1160 = .ok (.iaload, 1) := by decide +kernel
theorem dl_1161 : decode code 1161 = .ok (.aload_n 0, 1) := by decide +kernel
theorem dl_1162 : decode code 1162 = .ok (.iload_n 3, 1) := by decide +kernel
theorem dl_1163 : decode code 1163 = .ok (.iconst 2, 1) := by decide +kernel
theorem dl_1164 : decode code 1164 = .ok (.iadd, 1) := by decide +kernel
theorem dl_1165 : decode code 1165 = .ok (.iaload, 1) := by decide +kernel
theorem dl_1166 : decode code 1166 = .ok (.aload_n 0, 1) := by decide +kernel
theorem dl_1167 : decode code 1167 = .ok (.iload_n 3, 1) := by decide +kernel
theorem dl_1168 : decode code 1168 = .ok (.iconst 3, 1) := by decide +kernel
theorem dl_1169 : decode code 1169 = .ok (.iadd, 1) := by decide +kernel
theorem dl_1170 : decode code 1170 = .ok (.iaload, 1) := by decide +kernel
theorem dl_1171 : decode code 1171 = .ok (.invokevirtual 150, 3) := by decide +kernel
theorem dl_1174 : decode code 1174 = .ok (.if_icmp .eq 160, 3) := by decide +kernel
theorem dl_1177 : decode code 1177 = .ok (.iconst 0, 1) := by decide +kernel
theorem dl_1178 : decode code 1178 = .ok (.ireturn, 1) := by decide +kernel
theorem dl_1179 : decode code 1179 = .ok (.aload_n 1, 1) := by decide +kernel
theorem dl_1180 : decode code 1180 = .ok (.aload_n 0, 1) := by decide +kernel
theorem dl_1181 : decode code 1181 = .ok (.iload_n 3, 1) := by decide +kernel
theorem dl_1182 : decode code 1182 = .ok (.iconst 1, 1) := by decide +kernel
theorem dl_1183 : decode code 1183 = .ok (.iadd, 1) := by decide +kernel
theorem dl_1184 : decode code 1184 = .ok (.iaload, 1) := by decide +kernel
theorem dl_1185 : decode code 1185 = .ok (.aload_n 0, 1) := by decide +kernel
theorem dl_1186 : decode code 1186 = .ok (.iload_n 3, 1) := by decide +kernel
theorem dl_1187 : decode code 1187 = .ok (.iconst 2, 1) := by decide +kernel
theorem dl_1188 : decode code 1188 = .ok (.iadd, 1) := by decide +kernel
theorem dl_1189 : decode code 1189 = .ok (.iaload, 1) := by decide +kernel
theorem dl_1190 : decode code 1190 = .ok (.aload_n 0, 1) := by decide +kernel
theorem dl_1191 : decode code 1191 = .ok (.iload_n 3, 1) := by decide +kernel
theorem dl_1192 : decode code 1192 = .ok (.iconst 3, 1) := by decide +kernel
theorem dl_1193 : decode code 1193 = .ok (.iadd, 1) := by decide +kernel
theorem dl_1194 : decode code 1194 = .ok (.iaload, 1) := by decide +kernel
theorem dl_1195 : decode code 1195 = .ok (.invokevirtual 151, 3) := by decide +kernel
theorem dl_1198 : decode code 1198 = .ok (.aload_n 2, 1) := by decide +kernel
theorem dl_1199 : decode code 1199 = .ok (.aload_n 0, 1) := by decide +kernel
theorem dl_1200 : decode code 1200 = .ok (.iload_n 3, 1) := by decide +kernel
theorem dl_1201 : decode code 1201 = .ok (.iconst 1, 1) := by decide +kernel
theorem dl_1202 : decode code 1202 = .ok (.iadd, 1) := by decide +kernel
theorem dl_1203 : decode code 1203 = .ok (.iaload, 1) := by decide +kernel
theorem dl_1204 : decode code 1204 = .ok (.aload_n 0, 1) := by decide +kernel
theorem dl_1205 : decode code 1205 = .ok (.iload_n 3, 1) := by decide +kernel
theorem dl_1206 : decode code 1206 = .ok (.iconst 2, 1) := by decide +kernel
theorem dl_1207 : decode code 1207 = .ok (.iadd, 1) := by decide +kernel
theorem dl_1208 : decode code 1208 = .ok (.iaload, 1) := by decide +kernel
theorem dl_1209 : decode code 1209 = .ok (.aload_n 0, 1) := by decide +kernel
theorem dl_1210 : decode code 1210 = .ok (.iload_n 3, 1) := by decide +kernel
theorem dl_1211 : decode code 1211 = .ok (.iconst 3, 1) := by decide +kernel
theorem dl_1212 : decode code 1212 = .ok (.iadd, 1) := by decide +kernel
theorem dl_1213 : decode code 1213 = .ok (.iaload, 1) := by decide +kernel
theorem dl_1214 : decode code 1214 = .ok (.invokevirtual 154, 3) := by decide +kernel
theorem dl_1217 : decode code 1217 = .ok (.if_icmp .eq 117, 3) := by decide +kernel
theorem dl_1220 : decode code 1220 = .ok (.iconst 0, 1) := by decide +kernel
theorem dl_1221 : decode code 1221 = .ok (.ireturn, 1) := by decide +kernel
theorem dl_1222 : decode code 1222 = .ok (.aload_n 1, 1) := by decide +kernel
theorem dl_1223 : decode code 1223 = .ok (.aload_n 0, 1) := by decide +kernel
theorem dl_1224 : decode code 1224 = .ok (.iload_n 3, 1) := by decide +kernel
theorem dl_1225 : decode code 1225 = .ok (.iconst 1, 1) := by decide +kernel
theorem dl_1226 : decode code 1226 = .ok (.iadd, 1) := by decide +kernel
theorem dl_1227 : decode code 1227 = .ok (.iaload, 1) := by decide +kernel
theorem dl_1228 : decode code 1228 = .ok (.aload_n 0, 1) := by decide +kernel
theorem dl_1229 : decode code 1229 = .ok (.iload_n 3, 1) := by decide +kernel
theorem dl_1230 : decode code 1230 = .ok (.iconst 2, 1) := by decide +kernel
theorem dl_1231 : decode code 1231 = .ok (.iadd, 1) := by decide +kernel
theorem dl_1232 : decode code 1232 = .ok (.iaload, 1) := by decide +kernel
theorem dl_1233 : decode code 1233 = .ok (.invokevirtual 155, 3) := by decide +kernel
theorem dl_1236 : decode code 1236 = .ok (.aload_n 2, 1) := by decide +kernel
theorem dl_1237 : decode code 1237 = .ok (.aload_n 0, 1) := by decide +kernel
theorem dl_1238 : decode code 1238 = .ok (.iload_n 3, 1) := by decide +kernel
theorem dl_1239 : decode code 1239 = .ok (.iconst 1, 1) := by decide +kernel
theorem dl_1240 : decode code 1240 = .ok (.iadd, 1) := by decide +kernel
theorem dl_1241 : decode code 1241 = .ok (.iaload, 1) := by decide +kernel
theorem dl_1242 : decode code 1242 = .ok (.aload_n 0, 1) := by decide +kernel
theorem dl_1243 : decode code 1243 = .ok (.iload_n 3, 1) := by decide +kernel
theorem dl_1244 : decode code 1244 = .ok (.iconst 2, 1) := by decide +kernel
theorem dl_1245 : decode code 1245 = .ok (.iadd, 1) := by decide +kernel
theorem dl_1246 : decode code 1246 = .ok (.iaload, 1) := by decide +kernel
theorem dl_1247 : decode code 1247 = .ok (.invokevirtual 158, 3) := by decide +kernel
theorem dl_1250 : decode code 1250 = .ok (.if_icmp .eq 84, 3) := by decide +kernel
theorem dl_1253 : decode code 1253 = .ok (.iconst 0, 1) := by decide +kernel
theorem dl_1254 : decode code 1254 = .ok (.ireturn, 1) := by decide +kernel
theorem dl_1255 : decode code 1255 = .ok (.aload_n 1, 1) := by decide +kernel
theorem dl_1256 : decode code 1256 = .ok (.aload_n 0, 1) := by decide +kernel
theorem dl_1257 : decode code 1257 = .ok (.iload_n 3, 1) := by decide +kernel
theorem dl_1258 : decode code 1258 = .ok (.iconst 1, 1) := by decide +kernel
theorem dl_1259 : decode code 1259 = .ok (.iadd, 1) := by decide +kernel
theorem dl_1260 : decode code 1260 = .ok (.iaload, 1) := by decide +kernel
theorem dl_1261 : decode code 1261 = .ok (.aload_n 0, 1) := by decide +kernel
theorem dl_1262 : decode code 1262 = .ok (.iload_n 3, 1) := by decide +kernel
theorem dl_1263 : decode code 1263 = .ok (.iconst 2, 1) := by decide +kernel
theorem dl_1264 : decode code 1264 = .ok (.iadd, 1) := by decide +kernel
theorem dl_1265 : decode code 1265 = .ok (.iaload, 1) := by decide +kernel
theorem dl_1266 : decode code 1266 = .ok (.invokevirtual 159, 3) := by decide +kernel
theorem dl_1269 : decode code 1269 = .ok (.aload_n 2, 1) := by decide +kernel
theorem dl_1270 : decode code 1270 = .ok (.aload_n 0, 1) := by decide +kernel
theorem dl_1271 : decode code 1271 = .ok (.iload_n 3, 1) := by decide +kernel
theorem dl_1272 : decode code 1272 = .ok (.iconst 1, 1) := by decide +kernel
theorem dl_1273 : decode code 1273 = .ok (.iadd, 1) := by decide +kernel
theorem dl_1274 : decode code 1274 = .ok (.iaload, 1) := by decide +kernel
theorem dl_1275 : decode code 1275 = .ok (.aload_n 0, 1) := by decide +kernel
theorem dl_1276 : decode code 1276 = .ok (.iload_n 3, 1) := by decide +kernel
theorem dl_1277 : decode code 1277 = .ok (.iconst 2, 1) := by decide +kernel
theorem dl_1278 : decode code 1278 = .ok (.iadd, 1) := by decide +kernel
theorem dl_1279 : decode code 1279 = .ok (.iaload, 1) := by decide +kernel
theorem dl_1280 : decode code 1280 = .ok (.invokevirtual 162, 3) := by decide +kernel
theorem dl_1283 : decode code 1283 = .ok (.if_icmp .eq 51, 3) := by decide +kernel
theorem dl_1286 : decode code 1286 = .ok (.iconst 0, 1) := by decide +kernel
theorem dl_1287 : decode code 1287 = .ok (.ireturn, 1) := by decide +kernel
theorem dl_1288 : decode code 1288 = .ok (.aload_n 1, 1) := by decide +kernel
theorem dl_1289 : decode code 1289 = .ok (.aload_n 0, 1) := by decide +kernel
theorem dl_1290 : decode code 1290 = .ok (.iload_n 3, 1) := by decide +kernel
theorem dl_1291 : decode code 1291 = .ok (.iconst 1, 1) := by decide +kernel
theorem dl_1292 : decode code 1292 = .ok (.iadd, 1) := by decide +kernel
theorem dl_1293 : decode code 1293 = .ok (.iaload, 1) := by decide +kernel
theorem dl_1294 : decode code 1294 = .ok (.invokevirtual 163, 3) := by decide +kernel
theorem dl_1297 : decode code 1297 = .ok (.aload_n 2, 1) := by decide +kernel
theorem dl_1298 : decode code 1298 = .ok (.aload_n 0, 1) := by decide +kernel
theorem dl_1299 : decode code 1299 = .ok (.iload_n 3, 1) := by decide +kernel
theorem dl_1300 : decode code 1300 = .ok (.iconst 1, 1) := by decide +kernel
theorem dl_1301 : decode code 1301 = .ok (.iadd, 1) := by decide +kernel
theorem dl_1302 : decode code 1302 = .ok (.iaload, 1) := by decide +kernel
theorem dl_1303 : decode code 1303 = .ok (.invokevirtual 166, 3) := by decide +kernel
theorem dl_1306 : decode code 1306 = .ok (.if_icmp .eq 28, 3) := by decide +kernel
theorem dl_1309 : decode code 1309 = .ok (.iconst 0, 1) := by decide +kernel
theorem dl_1310 : decode code 1310 = .ok (.ireturn, 1) := by decide +kernel
theorem dl_1311 : decode code 1311 = .ok (.aload_n 1, 1) := by decide +kernel
theorem dl_1312 : decode code 1312 = .ok (.aload_n 0, 1) := by decide +kernel
theorem dl_1313 : decode code 1313 = .ok (.iload_n 3, 1) := by decide +kernel
theorem dl_1314 : decode code 1314 = .ok (.iconst 1, 1) := by decide +kernel
theorem dl_1315 : decode code 1315 = .ok (.iadd, 1) := by decide +kernel
theorem dl_1316 : decode code 1316 = .ok (.iaload, 1) := by decide +kernel
theorem dl_1317 : decode code 1317 = .ok (.invokevirtual 167, 3) := by decide +kernel
theorem dl_1320 : decode code 1320 = .ok (.aload_n 2, 1) := by decide +kernel
theorem dl_1321 : decode code 1321 = .ok (.aload_n 0, 1) := by decide +kernel
theorem dl_1322 : decode code 1322 = .ok (.iload_n 3, 1) := by decide +kernel
theorem dl_1323 : decode code 1323 = .ok (.iconst 1, 1) := by decide +kernel
theorem dl_1324 : decode code 1324 = .ok (.iadd, 1) := by decide +kernel
theorem dl_1325 : decode code 1325 = .ok (.iaload, 1) := by decide +kernel
theorem dl_1326 : decode code 1326 = .ok (.invokevirtual 170, 3) := by decide +kernel
theorem dl_1329 : decode code 1329 = .ok (.if_icmp .eq 5, 3) := by decide +kernel
theorem dl_1332 : decode code 1332 = .ok (.iconst 0, 1) := by decide +kernel
theorem dl_1333 : decode code 1333 = .ok (.ireturn, 1) := by decide +kernel
theorem dl_1334 : decode code 1334 = .ok (.iinc 3 6, 3) := by decide +kernel
theorem dl_1337 : decode code 1337 = .ok (.goto (-1319), 3) := by decide +kernel
theorem dl_1340 : decode code 1340 = .ok (.iconst 1, 1) := by decide +kernel
theorem dl_1341 : decode code 1341 = .ok (.ireturn, 1) := by decide +kernel
