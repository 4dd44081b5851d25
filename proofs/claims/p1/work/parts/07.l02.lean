theorem dL_law_1000 : decode cL_law 1000 = .ok (.if_icmp .eq 340, 3) := by decide +kernel
theorem dL_law_1005 : decode cL_law 1005 = .ok (.aload_n 1, 1) := by decide +kernel
theorem dL_law_1006 : decode cL_law 1006 = .ok (.aload_n 0, 1) := by decide +kernel
theorem dL_law_1007 : decode cL_law 1007 = .ok (.iload_n 3, 1) := by decide +kernel
theorem dL_law_1008 : decode cL_law 1008 = .ok (.iconst 1, 1) := by decide +kernel
theorem dL_law_1009 : decode cL_law 1009 = .ok (.iadd, 1) := by decide +kernel
theorem dL_law_1010 : decode cL_law 1010 = .ok (.iaload, 1) := by decide +kernel
theorem dL_law_1011 : decode cL_law 1011 = .ok (.aload_n 0, 1) := by decide +kernel
theorem dL_law_1012 : decode cL_law 1012 = .ok (.iload_n 3, 1) := by decide +kernel
theorem dL_law_1013 : decode cL_law 1013 = .ok (.iconst 2, 1) := by decide +kernel
theorem dL_law_1014 : decode cL_law 1014 = .ok (.iadd, 1) := by decide +kernel
theorem dL_law_1015 : decode cL_law 1015 = .ok (.iaload, 1) := by decide +kernel
theorem dL_law_1016 : decode cL_law 1016 = .ok (.aload_n 0, 1) := by decide +kernel
theorem dL_law_1017 : decode cL_law 1017 = .ok (.iload_n 3, 1) := by decide +kernel
theorem dL_law_1018 : decode cL_law 1018 = .ok (.iconst 3, 1) := by decide +kernel
theorem dL_law_1019 : decode cL_law 1019 = .ok (.iadd, 1) := by decide +kernel
theorem dL_law_1020 : decode cL_law 1020 = .ok (.iaload, 1) := by decide +kernel
theorem dL_law_1021 : decode cL_law 1021 = .ok (.invokevirtual 145, 3) := by decide +kernel
theorem dL_law_1024 : decode cL_law 1024 = .ok (.aload_n 2, 1) := by decide +kernel
theorem dL_law_1025 : decode cL_law 1025 = .ok (.aload_n 0, 1) := by decide +kernel
theorem dL_law_1026 : decode cL_law 1026 = .ok (.iload_n 3, 1) := by decide +kernel
theorem dL_law_1027 : decode cL_law 1027 = .ok (.iconst 1, 1) := by decide +kernel
theorem dL_law_1028 : decode cL_law 1028 = .ok (.iadd, 1) := by decide +kernel
theorem dL_law_1029 : decode cL_law 1029 = .ok (.iaload, 1) := by decide +kernel
theorem dL_law_1030 : decode cL_law 1030 = .ok (.aload_n 0, 1) := by decide +kernel
theorem dL_law_1031 : decode cL_law 1031 = .ok (.iload_n 3, 1) := by decide +kernel
theorem dL_law_1032 : decode cL_law 1032 = .ok (.iconst 2, 1) := by decide +kernel
theorem dL_law_1033 : decode cL_law 1033 = .ok (.iadd, 1) := by decide +kernel
theorem dL_law_1034 : decode cL_law 1034 = .ok (.iaload, 1) := by decide +kernel
theorem dL_law_1035 : decode cL_law 1035 = .ok (.aload_n 0, 1) := by decide +kernel
theorem dL_law_1036 : decode cL_law 1036 = .ok (.iload_n 3, 1) := by decide +kernel
theorem dL_law_1037 : decode cL_law 1037 = .ok (.iconst 3, 1) := by decide +kernel
theorem dL_law_1038 : decode cL_law 1038 = .ok (.iadd, 1) := by decide +kernel
theorem dL_law_1039 : decode cL_law 1039 = .ok (.iaload, 1) := by decide +kernel
theorem dL_law_1040 : decode cL_law 1040 = .ok (.invokevirtual 148, 3) := by decide +kernel
theorem dL_law_1043 : decode cL_law 1043 = .ok (.if_icmp .eq 297, 3) := by decide +kernel
theorem dL_law_1048 : decode cL_law 1048 = .ok (.aload_n 1, 1) := by decide +kernel
theorem dL_law_1049 : decode cL_law 1049 = .ok (.aload_n 0, 1) := by decide +kernel
theorem dL_law_1050 : decode cL_law 1050 = .ok (.iload_n 3, 1) := by decide +kernel
theorem dL_law_1051 : decode cL_law 1051 = .ok (.iconst 1, 1) := by decide +kernel
theorem dL_law_1052 : decode cL_law 1052 = .ok (.iadd, 1) := by decide +kernel
theorem dL_law_1053 : decode cL_law 1053 = .ok (.iaload, 1) := by decide +kernel
theorem dL_law_1054 : decode cL_law 1054 = .ok (.invokevirtual 149, 3) := by decide +kernel
theorem dL_law_1057 : decode cL_law 1057 = .ok (.aload_n 2, 1) := by decide +kernel
theorem dL_law_1058 : decode cL_law 1058 = .ok (.aload_n 0, 1) := by decide +kernel
theorem dL_law_1059 : decode cL_law 1059 = .ok (.iload_n 3, 1) := by decide +kernel
theorem dL_law_1060 : decode cL_law 1060 = .ok (.iconst 1, 1) := by decide +kernel
theorem dL_law_1061 : decode cL_law 1061 = .ok (.iadd, 1) := by decide +kernel
theorem dL_law_1062 : decode cL_law 1062 = .ok (.iaload, 1) := by decide +kernel
theorem dL_law_1063 : decode cL_law 1063 = .ok (.invokevirtual 152, 3) := by decide +kernel
theorem dL_law_1066 : decode cL_law 1066 = .ok (.if_icmp .eq 274, 3) := by decide +kernel
theorem dL_law_1071 : decode cL_law 1071 = .ok (.aload_n 1, 1) := by decide +kernel
theorem dL_law_1072 : decode cL_law 1072 = .ok (.aload_n 0, 1) := by decide +kernel
theorem dL_law_1073 : decode cL_law 1073 = .ok (.iload_n 3, 1) := by decide +kernel
theorem dL_law_1074 : decode cL_law 1074 = .ok (.iconst 1, 1) := by decide +kernel
theorem dL_law_1075 : decode cL_law 1075 = .ok (.iadd, 1) := by decide +kernel
theorem dL_law_1076 : decode cL_law 1076 = .ok (.iaload, 1) := by decide +kernel
theorem dL_law_1077 : decode cL_law 1077 = .ok (.aload_n 0, 1) := by decide +kernel
theorem dL_law_1078 : decode cL_law 1078 = .ok (.iload_n 3, 1) := by decide +kernel
theorem dL_law_1079 : decode cL_law 1079 = .ok (.iconst 2, 1) := by decide +kernel
theorem dL_law_1080 : decode cL_law 1080 = .ok (.iadd, 1) := by decide +kernel
theorem dL_law_1081 : decode cL_law 1081 = .ok (.iaload, 1) := by decide +kernel
theorem dL_law_1082 : decode cL_law 1082 = .ok (.invokevirtual 153, 3) := by decide +kernel
theorem dL_law_1085 : decode cL_law 1085 = .ok (.aload_n 2, 1) := by decide +kernel
theorem dL_law_1086 : decode cL_law 1086 = .ok (.aload_n 0, 1) := by decide +kernel
theorem dL_law_1087 : decode cL_law 1087 = .ok (.iload_n 3, 1) := by decide +kernel
theorem dL_law_1088 : decode cL_law 1088 = .ok (.iconst 1, 1) := by decide +kernel
theorem dL_law_1089 : decode cL_law 1089 = .ok (.iadd, 1) := by decide +kernel
theorem dL_law_1090 : decode cL_law 1090 = .ok (.iaload, 1) := by decide +kernel
theorem dL_law_1091 : decode cL_law 1091 = .ok (.aload_n 0, 1) := by decide +kernel
theorem dL_law_1092 : decode cL_law 1092 = .ok (.iload_n 3, 1) := by decide +kernel
theorem dL_law_1093 : decode cL_law 1093 = .ok (.iconst 2, 1) := by decide +kernel
theorem dL_law_1094 : decode cL_law 1094 = .ok (.iadd, 1) := by decide +kernel
theorem dL_law_1095 : decode cL_law 1095 = .ok (.iaload, 1) := by decide +kernel
theorem dL_law_1096 : decode cL_law 1096 = .ok (.invokevirtual 156, 3) := by decide +kernel
theorem dL_law_1099 : decode cL_law 1099 = .ok (.if_icmp .eq 241, 3) := by decide +kernel
theorem dL_law_1104 : decode cL_law 1104 = .ok (.aload_n 1, 1) := by decide +kernel
theorem dL_law_1105 : decode cL_law 1105 = .ok (.aload_n 0, 1) := by decide +kernel
theorem dL_law_1106 : decode cL_law 1106 = .ok (.iload_n 3, 1) := by decide +kernel
theorem dL_law_1107 : decode cL_law 1107 = .ok (.iconst 1, 1) := by decide +kernel
theorem dL_law_1108 : decode cL_law 1108 = .ok (.iadd, 1) := by decide +kernel
theorem dL_law_1109 : decode cL_law 1109 = .ok (.iaload, 1) := by decide +kernel
theorem dL_law_1110 : decode cL_law 1110 = .ok (.invokevirtual 157, 3) := by decide +kernel
theorem dL_law_1113 : decode cL_law 1113 = .ok (.aload_n 2, 1) := by decide +kernel
theorem dL_law_1114 : decode cL_law 1114 = .ok (.aload_n 0, 1) := by decide +kernel
theorem dL_law_1115 : decode cL_law 1115 = .ok (.iload_n 3, 1) := by decide +kernel
theorem dL_law_1116 : decode cL_law 1116 = .ok (.iconst 1, 1) := by decide +kernel
theorem dL_law_1117 : decode cL_law 1117 = .ok (.iadd, 1) := by decide +kernel
theorem dL_law_1118 : decode cL_law 1118 = .ok (.iaload, 1) := by decide +kernel
theorem dL_law_1119 : decode cL_law 1119 = .ok (.invokevirtual 160, 3) := by decide +kernel
theorem dL_law_1122 : decode cL_law 1122 = .ok (.if_icmp .eq 218, 3) := by decide +kernel
theorem dL_law_1127 : decode cL_law 1127 = .ok (.aload_n 1, 1) := by decide +kernel
theorem dL_law_1128 : decode cL_law 1128 = .ok (.aload_n 0, 1) := by decide +kernel
theorem dL_law_1129 : decode cL_law 1129 = .ok (.iload_n 3, 1) := by decide +kernel
theorem dL_law_1130 : decode cL_law 1130 = .ok (.iconst 1, 1) := by decide +kernel
theorem dL_law_1131 : decode cL_law 1131 = .ok (.iadd, 1) := by decide +kernel
theorem dL_law_1132 : decode cL_law 1132 = .ok (.iaload, 1) := by decide +kernel
theorem dL_law_1133 : decode cL_law 1133 = .ok (.aload_n 0, 1) := by decide +kernel
theorem dL_law_1134 : decode cL_law 1134 = .ok (.iload_n 3, 1) := by decide +kernel
theorem dL_law_1135 : decode cL_law 1135 = .ok (.iconst 2, 1) := by decide +kernel
theorem dL_law_1136 : decode cL_law 1136 = .ok (.iadd, 1) := by decide +kernel
theorem dL_law_1137 : decode cL_law 1137 = .ok (.iaload, 1) := by decide +kernel
theorem dL_law_1138 : decode cL_law 1138 = .ok (.aload_n 0, 1) := by decide +kernel
theorem dL_law_1139 : decode cL_law 1139 = .ok (.iload_n 3, 1) := by decide +kernel
theorem dL_law_1140 : decode cL_law 1140 = .ok (.iconst 3, 1) := by decide +kernel
theorem dL_law_1141 : decode cL_law 1141 = .ok (.iadd, 1) := by decide +kernel
theorem dL_law_1142 : decode cL_law 1142 = .ok (.iaload, 1) := by decide +kernel
theorem dL_law_1143 : decode cL_law 1143 = .ok (.invokevirtual 161, 3) := by decide +kernel
theorem dL_law_1146 : decode cL_law 1146 = .ok (.aload_n 2, 1) := by decide +kernel
theorem dL_law_1147 : decode cL_law 1147 = .ok (.aload_n 0, 1) := by decide +kernel
theorem dL_law_1148 : decode cL_law 1148 = .ok (.iload_n 3, 1) := by decide +kernel
theorem dL_law_1149 : decode cL_law 1149 = .ok (.iconst 1, 1) := by decide +kernel
theorem dL_law_1150 : decode cL_law 1150 = .ok (.iadd, 1) := by decide +kernel
theorem dL_law_1151 : decode cL_law 1151 = .ok (.iaload, 1) := by decide +kernel
theorem dL_law_1152 : decode cL_law 1152 = .ok (.aload_n 0, 1) := by decide +kernel
theorem dL_law_1153 : decode cL_law 1153 = .ok (.iload_n 3, 1) := by decide +kernel
theorem dL_law_1154 : decode cL_law 1154 = .ok (.iconst 2, 1) := by decide +kernel
theorem dL_law_1155 : decode cL_law 1155 = .ok (.iadd, 1) := by decide +kernel
theorem dL_law_1156 : decode cL_law 1156 = .ok (.iaload, 1) := by decide +kernel
theorem dL_law_1157 : decode cL_law 1157 = .ok (.aload_n 0, 1) := by decide +kernel
theorem dL_law_1158 : decode cL_law 1158 = .ok (.iload_n 3, 1) := by decide +kernel
theorem dL_law_1159 : decode cL_law 1159 = .ok (.iconst 3, 1) := by decide +kernel
theorem dL_law_1160 : decode cL_law 1160 = .ok (.iadd, 1) := by decide +kernel
theorem dL_law_1161 : decode cL_law 1161 = .ok (.iaload, 1) := by decide +kernel
theorem dL_law_1162 : decode cL_law 1162 = .ok (.invokevirtual 164, 3) := by decide +kernel
theorem dL_law_1165 : decode cL_law 1165 = .ok (.if_icmp .eq 175, 3) := by decide +kernel
theorem dL_law_1170 : decode cL_law 1170 = .ok (.aload_n 1, 1) := by decide +kernel
theorem dL_law_1171 : decode cL_law 1171 = .ok (.aload_n 0, 1) := by decide +kernel
theorem dL_law_1172 : decode cL_law 1172 = .ok (.iload_n 3, 1) := by decide +kernel
theorem dL_law_1173 : decode cL_law 1173 = .ok (.iconst 1, 1) := by decide +kernel
theorem dL_law_1174 : decode cL_law 1174 = .ok (.iadd, 1) := by decide +kernel
theorem dL_law_1175 : decode cL_law 1175 = .ok (.iaload, 1) := by decide +kernel
theorem dL_law_1176 : decode cL_law 1176 = .ok (.aload_n 0, 1) := by decide +kernel
theorem dL_law_1177 : decode cL_law 1177 = .ok (.iload_n 3, 1) := by decide +kernel
theorem dL_law_1178 : decode cL_law 1178 = .ok (.iconst 2, 1) := by decide +kernel
theorem dL_law_1179 : decode cL_law 1179 = .ok (.iadd, 1) := by decide +kernel
theorem dL_law_1180 : decode cL_law 1180 = .ok (.iaload, 1) := by decide +kernel
theorem dL_law_1181 : decode cL_law 1181 = .ok (.aload_n 0, 1) := by decide +kernel
theorem dL_law_1182 : decode cL_law 1182 = .ok (.iload_n 3, 1) := by decide +kernel
theorem dL_law_1183 : decode cL_law 1183 = .ok (.iconst 3, 1) := by decide +kernel
theorem dL_law_1184 : decode cL_law 1184 = .ok (.iadd, 1) := by decide +kernel
theorem dL_law_1185 : decode cL_law 1185 = .ok (.iaload, 1) := by decide +kernel
theorem dL_law_1186 : decode cL_law 1186 = .ok (.i2l, 1) := by decide +kernel
theorem dL_law_1187 : decode cL_law 1187 = .ok (.bipush 32, 2) := by decide +kernel
theorem dL_law_1189 : decode cL_law 1189 = .ok (.lshl, 1) := by decide +kernel
theorem dL_law_1190 : decode cL_law 1190 = .ok (.aload_n 0, 1) := by decide +kernel
theorem dL_law_1191 : decode cL_law 1191 = .ok (.iload_n 3, 1) := by decide +kernel
theorem dL_law_1192 : decode cL_law 1192 = .ok (.iconst 4, 1) := by decide +kernel
theorem dL_law_1193 : decode cL_law 1193 = .ok (.iadd, 1) := by decide +kernel
theorem dL_law_1194 : decode cL_law 1194 = .ok (.iaload, 1) := by decide +kernel
theorem dL_law_1195 : decode cL_law 1195 = .ok (.i2l, 1) := by decide +kernel
theorem dL_law_1196 : decode cL_law 1196 = .ok (.ldc2_w 165, 3) := by decide +kernel
theorem dL_law_1199 : decode cL_law 1199 = .ok (.land, 1) := by decide +kernel
theorem dL_law_1200 : decode cL_law 1200 = .ok (.lor, 1) := by decide +kernel
theorem dL_law_1201 : decode cL_law 1201 = .ok (.invokevirtual 167, 3) := by decide +kernel
theorem dL_law_1204 : decode cL_law 1204 = .ok (.aload_n 2, 1) := by decide +kernel
theorem dL_law_1205 : decode cL_law 1205 = .ok (.aload_n 0, 1) := by decide +kernel
theorem dL_law_1206 : decode cL_law 1206 = .ok (.iload_n 3, 1) := by decide +kernel
theorem dL_law_1207 : decode cL_law 1207 = .ok (.iconst 1, 1) := by decide +kernel
theorem dL_law_1208 : decode cL_law 1208 = .ok (.iadd, 1) := by decide +kernel
theorem dL_law_1209 : decode cL_law 1209 = .ok (.iaload, 1) := by decide +kernel
theorem dL_law_1210 : decode cL_law 1210 = .ok (.aload_n 0, 1) := by decide +kernel
theorem dL_law_1211 : decode cL_law 1211 = .ok (.iload_n 3, 1) := by decide +kernel
theorem dL_law_1212 : decode cL_law 1212 = .ok (.iconst 2, 1) := by decide +kernel
theorem dL_law_1213 : decode cL_law 1213 = .ok (.iadd, 1) := by decide +kernel
theorem dL_law_1214 : decode cL_law 1214 = .ok (.iaload, 1) := by decide +kernel
theorem dL_law_1215 : decode cL_law 1215 = .ok (.aload_n 0, 1) := by decide +kernel
theorem dL_law_1216 : decode cL_law 1216 = .ok (.iload_n 3, 1) := by decide +kernel
theorem dL_law_1217 : decode cL_law 1217 = .ok (.iconst 3, 1) := by decide +kernel
theorem dL_law_1218 : decode cL_law 1218 = .ok (.iadd, 1) := by decide +kernel
theorem dL_law_1219 : decode cL_law 1219 = .ok (.iaload, 1) := by decide +kernel
theorem dL_law_1220 : decode cL_law 1220 = .ok (.i2l, 1) := by decide +kernel
theorem dL_law_1221 : decode cL_law 1221 = .ok (.bipush 32, 2) := by decide +kernel
theorem dL_law_1223 : decode cL_law 1223 = .ok (.lshl, 1) := by decide +kernel
theorem dL_law_1224 : decode cL_law 1224 = .ok (.aload_n 0, 1) := by decide +kernel
theorem dL_law_1225 : decode cL_law 1225 = .ok (.iload_n 3, 1) := by decide +kernel
theorem dL_law_1226 : decode cL_law 1226 = .ok (.iconst 4, 1) := by decide +kernel
theorem dL_law_1227 : decode cL_law 1227 = .ok (.iadd, 1) := by decide +kernel
theorem dL_law_1228 : decode cL_law 1228 = .ok (.iaload, 1) := by decide +kernel
theorem dL_law_1229 : decode cL_law 1229 = .ok (.i2l, 1) := by decide +kernel
theorem dL_law_1230 : decode cL_law 1230 = .ok (.ldc2_w 165, 3) := by decide +kernel
theorem dL_law_1233 : decode cL_law 1233 = .ok (.land, 1) := by decide +kernel
theorem dL_law_1234 : decode cL_law 1234 = .ok (.lor, 1) := by decide +kernel
theorem dL_law_1235 : decode cL_law 1235 = .ok (.invokevirtual 171, 3) := by decide +kernel
theorem dL_law_1238 : decode cL_law 1238 = .ok (.if_icmp .eq 102, 3) := by decide +kernel
theorem dL_law_1243 : decode cL_law 1243 = .ok (.aload_n 1, 1) := by decide +kernel
theorem dL_law_1244 : decode cL_law 1244 = .ok (.aload_n 0, 1) := by decide +kernel
theorem dL_law_1245 : decode cL_law 1245 = .ok (.iload_n 3, 1) := by decide +kernel
theorem dL_law_1246 : decode cL_law 1246 = .ok (.iconst 1, 1) := by decide +kernel
theorem dL_law_1247 : decode cL_law 1247 = .ok (.iadd, 1) := by decide +kernel
theorem dL_law_1248 : decode cL_law 1248 = .ok (.iaload, 1) := by decide +kernel
theorem dL_law_1249 : decode cL_law 1249 = .ok (.aload_n 0, 1) := by decide +kernel
theorem dL_law_1250 : decode cL_law 1250 = .ok (.iload_n 3, 1) := by decide +kernel
theorem dL_law_1251 : decode cL_law 1251 = .ok (.iconst 2, 1) := by decide +kernel
theorem dL_law_1252 : decode cL_law 1252 = .ok (.iadd, 1) := by decide +kernel
theorem dL_law_1253 : decode cL_law 1253 = .ok (.iaload, 1) := by decide +kernel
theorem dL_law_1254 : decode cL_law 1254 = .ok (.invokevirtual 172, 3) := by decide +kernel
theorem dL_law_1257 : decode cL_law 1257 = .ok (.aload_n 2, 1) := by decide +kernel
theorem dL_law_1258 : decode cL_law 1258 = .ok (.aload_n 0, 1) := by decide +kernel
theorem dL_law_1259 : decode cL_law 1259 = .ok (.iload_n 3, 1) := by decide +kernel
theorem dL_law_1260 : decode cL_law 1260 = .ok (.iconst 1, 1) := by decide +kernel
theorem dL_law_1261 : decode cL_law 1261 = .ok (.iadd, 1) := by decide +kernel
theorem dL_law_1262 : decode cL_law 1262 = .ok (.iaload, 1) := by decide +kernel
theorem dL_law_1263 : decode cL_law 1263 = .ok (.aload_n 0, 1) := by decide +kernel
theorem dL_law_1264 : decode cL_law 1264 = .ok (.iload_n 3, 1) := by decide +kernel
theorem dL_law_1265 : decode cL_law 1265 = .ok (.iconst 2, 1) := by decide +kernel
theorem dL_law_1266 : decode cL_law 1266 = .ok (.iadd, 1) := by decide +kernel
theorem dL_law_1267 : decode cL_law 1267 = .ok (.iaload, 1) := by decide +kernel
theorem dL_law_1268 : decode cL_law 1268 = .ok (.invokevirtual 175, 3) := by decide +kernel
theorem dL_law_1271 : decode cL_law 1271 = .ok (.lcmp, 1) := by decide +kernel
theorem dL_law_1272 : decode cL_law 1272 = .ok (.ifCond .eq 68, 3) := by decide +kernel
theorem dL_law_876 : decode cL_law 876 = .ok (.aload_n 1, 1) := by decide +kernel
theorem dL_law_877 : decode cL_law 877 = .ok (.aload_n 0, 1) := by decide +kernel
theorem dL_law_878 : decode cL_law 878 = .ok (.iload_n 3, 1) := by decide +kernel
theorem dL_law_879 : decode cL_law 879 = .ok (.iconst 1, 1) := by decide +kernel
theorem dL_law_880 : decode cL_law 880 = .ok (.iadd, 1) := by decide +kernel
theorem dL_law_881 : decode cL_law 881 = .ok (.iaload, 1) := by decide +kernel
theorem dL_law_882 : decode cL_law 882 = .ok (.invokevirtual 120, 3) := by decide +kernel
theorem dL_law_885 : decode cL_law 885 = .ok (.aload_n 2, 1) := by decide +kernel
theorem dL_law_886 : decode cL_law 886 = .ok (.aload_n 0, 1) := by decide +kernel
theorem dL_law_887 : decode cL_law 887 = .ok (.iload_n 3, 1) := by decide +kernel
theorem dL_law_888 : decode cL_law 888 = .ok (.iconst 1, 1) := by decide +kernel
theorem dL_law_889 : decode cL_law 889 = .ok (.iadd, 1) := by decide +kernel
theorem dL_law_890 : decode cL_law 890 = .ok (.iaload, 1) := by decide +kernel
theorem dL_law_891 : decode cL_law 891 = .ok (.invokevirtual 124, 3) := by decide +kernel
theorem dL_law_894 : decode cL_law 894 = .ok (.lcmp, 1) := by decide +kernel
theorem dL_law_895 : decode cL_law 895 = .ok (.ifCond .eq 445, 3) := by decide +kernel
theorem dL_law_900 : decode cL_law 900 = .ok (.aload_n 1, 1) := by decide +kernel
theorem dL_law_901 : decode cL_law 901 = .ok (.aload_n 0, 1) := by decide +kernel
theorem dL_law_902 : decode cL_law 902 = .ok (.iload_n 3, 1) := by decide +kernel
theorem dL_law_903 : decode cL_law 903 = .ok (.iconst 1, 1) := by decide +kernel
theorem dL_law_904 : decode cL_law 904 = .ok (.iadd, 1) := by decide +kernel
theorem dL_law_905 : decode cL_law 905 = .ok (.iaload, 1) := by decide +kernel
theorem dL_law_906 : decode cL_law 906 = .ok (.aload_n 0, 1) := by decide +kernel
theorem dL_law_907 : decode cL_law 907 = .ok (.iload_n 3, 1) := by decide +kernel
theorem dL_law_908 : decode cL_law 908 = .ok (.iconst 2, 1) := by decide +kernel
theorem dL_law_909 : decode cL_law 909 = .ok (.iadd, 1) := by decide +kernel
theorem dL_law_910 : decode cL_law 910 = .ok (.iaload, 1) := by decide +kernel
theorem dL_law_911 : decode cL_law 911 = .ok (.invokevirtual 125, 3) := by decide +kernel
theorem dL_law_914 : decode cL_law 914 = .ok (.aload_n 2, 1) := by decide +kernel
theorem dL_law_915 : decode cL_law 915 = .ok (.aload_n 0, 1) := by decide +kernel
theorem dL_law_916 : decode cL_law 916 = .ok (.iload_n 3, 1) := by decide +kernel
theorem dL_law_917 : decode cL_law 917 = .ok (.iconst 1, 1) := by decide +kernel
theorem dL_law_918 : decode cL_law 918 = .ok (.iadd, 1) := by decide +kernel
theorem dL_law_919 : decode cL_law 919 = .ok (.iaload, 1) := by decide +kernel
theorem dL_law_920 : decode cL_law 920 = .ok (.aload_n 0, 1) := by decide +kernel
theorem dL_law_921 : decode cL_law 921 = .ok (.iload_n 3, 1) := by decide +kernel
theorem dL_law_922 : decode cL_law 922 = .ok (.iconst 2, 1) := by decide +kernel
theorem dL_law_923 : decode cL_law 923 = .ok (.iadd, 1) := by decide +kernel
theorem dL_law_924 : decode cL_law 924 = .ok (.iaload, 1) := by decide +kernel
theorem dL_law_925 : decode cL_law 925 = .ok (.invokevirtual 128, 3) := by decide +kernel
theorem dL_law_928 : decode cL_law 928 = .ok (.if_icmp .eq 412, 3) := by decide +kernel
theorem dL_law_933 : decode cL_law 933 = .ok (.aload_n 1, 1) := by decide +kernel
theorem dL_law_934 : decode cL_law 934 = .ok (.invokevirtual 129, 3) := by decide +kernel
theorem dL_law_937 : decode cL_law 937 = .ok (.aload_n 2, 1) := by decide +kernel
theorem dL_law_938 : decode cL_law 938 = .ok (.invokevirtual 132, 3) := by decide +kernel
theorem dL_law_941 : decode cL_law 941 = .ok (.if_icmp .eq 399, 3) := by decide +kernel
theorem dL_law_946 : decode cL_law 946 = .ok (.aload_n 1, 1) := by decide +kernel
theorem dL_law_947 : decode cL_law 947 = .ok (.aload_n 0, 1) := by decide +kernel
theorem dL_law_948 : decode cL_law 948 = .ok (.iload_n 3, 1) := by decide +kernel
theorem dL_law_949 : decode cL_law 949 = .ok (.iconst 1, 1) := by decide +kernel
theorem dL_law_950 : decode cL_law 950 = .ok (.iadd, 1) := by decide +kernel
theorem dL_law_951 : decode cL_law 951 = .ok (.iaload, 1) := by decide +kernel
theorem dL_law_952 : decode cL_law 952 = .ok (.aload_n 0, 1) := by decide +kernel
theorem dL_law_953 : decode cL_law 953 = .ok (.iload_n 3, 1) := by decide +kernel
theorem dL_law_954 : decode cL_law 954 = .ok (.iconst 2, 1) := by decide +kernel
theorem dL_law_955 : decode cL_law 955 = .ok (.iadd, 1) := by decide +kernel
theorem dL_law_956 : decode cL_law 956 = .ok (.iaload, 1) := by decide +kernel
theorem dL_law_957 : decode cL_law 957 = .ok (.invokevirtual 133, 3) := by decide +kernel
theorem dL_law_960 : decode cL_law 960 = .ok (.aload_n 2, 1) := by decide +kernel
theorem dL_law_961 : decode cL_law 961 = .ok (.aload_n 0, 1) := by decide +kernel
theorem dL_law_962 : decode cL_law 962 = .ok (.iload_n 3, 1) := by decide +kernel
theorem dL_law_963 : decode cL_law 963 = .ok (.iconst 1, 1) := by decide +kernel
theorem dL_law_964 : decode cL_law 964 = .ok (.iadd, 1) := by decide +kernel
theorem dL_law_965 : decode cL_law 965 = .ok (.iaload, 1) := by decide +kernel
theorem dL_law_966 : decode cL_law 966 = .ok (.aload_n 0, 1) := by decide +kernel
theorem dL_law_967 : decode cL_law 967 = .ok (.iload_n 3, 1) := by decide +kernel
theorem dL_law_968 : decode cL_law 968 = .ok (.iconst 2, 1) := by decide +kernel
theorem dL_law_969 : decode cL_law 969 = .ok (.iadd, 1) := by decide +kernel
theorem dL_law_970 : decode cL_law 970 = .ok (.iaload, 1) := by decide +kernel
theorem dL_law_971 : decode cL_law 971 = .ok (.invokevirtual 136, 3) := by decide +kernel
theorem dL_law_974 : decode cL_law 974 = .ok (.if_icmp .eq 366, 3) := by decide +kernel
theorem dL_law_979 : decode cL_law 979 = .ok (.aload_n 1, 1) := by decide +kernel
theorem dL_law_980 : decode cL_law 980 = .ok (.invokevirtual 137, 3) := by decide +kernel
theorem dL_law_983 : decode cL_law 983 = .ok (.aload_n 2, 1) := by decide +kernel
theorem dL_law_984 : decode cL_law 984 = .ok (.invokevirtual 140, 3) := by decide +kernel
theorem dL_law_987 : decode cL_law 987 = .ok (.if_icmp .eq 353, 3) := by decide +kernel
theorem dL_law_992 : decode cL_law 992 = .ok (.aload_n 1, 1) := by decide +kernel
theorem dL_law_993 : decode cL_law 993 = .ok (.invokevirtual 141, 3) := by decide +kernel
theorem dL_law_996 : decode cL_law 996 = .ok (.aload_n 2, 1) := by decide +kernel
theorem dL_law_997 : decode cL_law 997 = .ok (.invokevirtual 144, 3) := by decide +kernel
set_option maxHeartbeats 8000000 in
set_option maxRecDepth 100000 in
theorem zl_case_25 {p : Program} {e : Env} {s : State} {m : MethodId} {below : List Frame} {meth : Method} {c : Code} (l : Launch) {b : Nat} {xs : Nat → Int32} (C0 : lw_At p s m meth c b 6 xs) (D : va_G) (y : Nat → ClassId) (a0 : Nat) (a1 : Nat) (w2 : Value) (w3 : Value) (w4 : Value) (a5 : Nat) (w6 : Value) (w7 : Value) (a8 : Nat) (w9 : Value) (w10 : Value) (w11 : Value) (w12 : Value) (w13 : Value) (w14 : Value) (w15 : Value) (w16 : Value) (w17 : Value) (w18 : Value) (a19 : Nat) (w20 : Value) (w21 : Value) (w22 : Value) (w23 : Value) (w24 : Value) (w25 : Value) (w26 : Value) (w27 : Value) (w28 : Value) (w29 : Value) (w30 : Value) (w31 : Value) (w32 : Value) (w33 : Value) (w34 : Value) (w35 : Value) (w36 : Value) (w37 : Value) (a38 : Nat) (a39 : Nat) (a40 : Nat) (w41 : Value) (w42 : Value) (w43 : Value) (w44 : Value) (w45 : Value) (w46 : Value) (w47 : Value) (w48 : Value) (w49 : Value) (w50 : Value) (w51 : Value) (w52 : Value) (w53 : Value) (w54 : Value) (w55 : Value) (w56 : Value) (w57 : Value) (w58 : Value) (w59 : Value) (w60 : Value) (w61 : Value) (w62 : Value) (w63 : Value) (w64 : Value) (w65 : Value) (w66 : Value) (w67 : Value) (w68 : Value) (w69 : Value) (w70 : Value) (w71 : Value) (w72 : Value) (w73 : Value) (w74 : Value) (w75 : Value) (w76 : Value) (w77 : Value) (w78 : Value) (w79 : Value) (a80 : Nat) (a81 : Nat) (w82 : Value) (w83 : Value) (w84 : Value) (w85 : Value) (w86 : Value) (w87 : Value) (w88 : Value) (a89 : Nat) (w90 : Value) (w91 : Value) (w92 : Value) (w93 : Value) (w94 : Value) (w95 : Value) (w96 : Value) (w97 : Value) (w98 : Value) (hK : zK D y s) (hE : zE y (fun q : Nat => s.heap.size ≤ q) s s.heap) {H : Heap} {locs : List Loc} {ls : Array Slot} (hS : va_S (fun q : Nat => s.heap.size ≤ q) s.heap H locs) (hW : zPD D (fun q : Nat => s.heap.size ≤ q) [(a0, .inr (8, [w2, w3, w4, .ref a5, w6, w7, .ref a8, w9, w10])), (a1, .inr (9, [.int 0, .int 0, w11, .int 20, w12, .int 0, .int 0, w13, w14, w15, w16, w17, w18, .ref a19, w20, .int (-1), w21, w22, w23, w24, w25, w26, w27, w28, w29, w30, w31, w32, w33, w34, w35, w36, .int 0, w37, .ref a38, .int 0, .ref a39, .int 0, .ref a40, w41, w42, w43, w44, w45, w46, w47, w48, w49, w50, w51, w52, w53, w54, w55, w56, w57, w58, w59, w60, w61, w62, w63, w64, w65, w66, w67, w68, w69, w70, w71, w72, w73, w74, w75, w76, w77])), (a5, .inr (6, [w78, .int 0, .int 20, .int 0, .int 0, w79, .int 0, .int 0, .ref a80, .ref a81, w82, w83])), (a8, .inr (1, [.ref a5, .int 0, .int 0, w84, w85, w86, w87, w88, .ref a89])), (a19, .inl (y 2, 7, .inl (fun _ => 0))), (a38, .inl (y 0, 7, .inl (fun _ => 0))), (a39, .inl (y 0, 7, .inl (fun _ => 0))), (a40, .inl (y 0, 7, .inl (fun _ => 0))), (a80, .inr (2, [w90, .int 15, w91, w92, w93, w94, w95, w96])), (a81, .inr (5, [.int 0, w97, w98])), (a89, .inl (y 2, 4, .inl (fun _ => 0)))] H) (hl : lv_has ls 4 [(3, .int 0), (2, .ref a1), (1, .ref a0), (0, .ref b)]) : W p l e room_1 s m #[Value.ref b] below meth c H locs 1000 20000 (lw_Z below #[Value.ref b] s) (F0 m 876 ls []) := by
  obtain ⟨hx, hb, hr, hml, hown, hts, hX, hbl, hlocks, hgv⟩ := id C0
  have ht : ∀ w ∈ zT, w.before #[Value.ref b] s = true := fun w h => hts w (zgin w h).1
  have hown : s.vm.findClass RL = some m.cls := hown
  have hA : ∀ q : Nat, s.heap.size ≤ q → (fun q : Nat => s.heap.size ≤ q) q := fun _ h => h
  have hbA : ¬ (fun q : Nat => s.heap.size ≤ q) b := Nat.not_le.mpr hbl
  refine lv_aload_n hx hb dL_law_876 rfl (lv_at hl 2 rfl) ?_
  refine lv_aload_n hx hb dL_law_877 rfl (lv_at hl 3 rfl) ?_
  refine lv_iload_n hx hb dL_law_878 rfl (lv_at hl 0 rfl) ?_
  refine lv_iconst (v := 1) hx hb dL_law_879 (by decide) ?_
  refine lv_iadd hx hb dL_law_880 ?_
  refine ztop (w := .int 1) (congrArg Value.int (by decide)) ?_
  refine va_sld hx hb hX hbl hbA hS (by unfold vp_in; decide) dL_law_881 ?_
  refine ztop (w := .int (xs 1)) rfl ?_
  refine zgo_l (wr := [(a1, .inr (9, [.int 0, .int 0, w11, .int 20, w12, .int 0, .int 0, w13, w14, w15, w16, w17, w18, .ref a19, w20, .int (-1), w21, w22, w23, w24, w25, w26, w27, w28, w29, w30, w31, w32, w33, w34, w35, w36, .int 0, w37, .ref a38, .int 0, .ref a39, .int 0, .ref a40, w41, w42, w43, w44, w45, w46, w47, w48, w49, w50, w51, w52, w53, w54, w55, w56, w57, w58, w59, w60, w61, w62, w63, w64, w65, w66, w67, w68, w69, w70, w71, w72, w73, w74, w75, w76, w77])), (a19, .inl (y 2, 7, .inl (fun _ => 0))), (a38, .inl (y 0, 7, .inl (fun _ => 0))), (a39, .inl (y 0, 7, .inl (fun _ => 0))), (a40, .inl (y 0, 7, .inl (fun _ => 0)))]) (zrunV (As := [.int (xs 1)]) (rest := []) ⟨hx, hb, hml, hown, ht⟩ (zc_X9_mean_0 l D y a0 (xs 1) w2 w3 w4 a5 w6 w7 a8 w9 w10 w78 w79 a80 a81 w82 w83 w84 w85 w86 w87 w88 a89 w90 w91 w92 w93 w94 w95 w96 w97 w98) (cwV 1 ht (zgV zm_1053 zm_1054 zm_1055 zm_2 zm_1056) rfl rfl rfl (by decide +kernel) ⟨(Nat.le_of_ble_eq_true rfl), (Nat.le_of_ble_eq_true rfl)⟩) hK hE hS hA hW [0, 2, 3, 8, 9, 10] (by decide) rfl 0 rfl rfl rfl rfl hl.1 rfl (Nat.le_of_ble_eq_true rfl) dL_law_882 (Nat.le_of_ble_eq_true rfl) (Nat.le_of_ble_eq_true rfl)) hS hA hW [0, 2, 3, 8, 9, 10] [1, 4, 5, 6, 7] rfl rfl (by decide) (by decide) (fun r1_ u H locs hw hW hS => ?_)
  have hW : zPD D _ [(a1, .inr (9, [.int 0, .int 0, w11, .int 20, w12, .int 0, .int 0, w13, w14, w15, w16, w17, w18, .ref a19, w20, .int (-1), w21, w22, w23, w24, w25, w26, w27, w28, w29, w30, w31, w32, w33, w34, w35, w36, .int 0, w37, .ref a38, .int 0, .ref a39, .int 0, .ref a40, w41, w42, w43, w44, w45, w46, w47, w48, w49, w50, w51, w52, w53, w54, w55, w56, w57, w58, w59, w60, w61, w62, w63, w64, w65, w66, w67, w68, w69, w70, w71, w72, w73, w74, w75, w76, w77])), (a19, .inl (y 2, 7, .inl (fun _ => 0))), (a38, .inl (y 0, 7, .inl (fun _ => 0))), (a39, .inl (y 0, 7, .inl (fun _ => 0))), (a40, .inl (y 0, 7, .inl (fun _ => 0)))] H := hW
  have hw : r1_ = (if (xs 1) < 0 then (-9223372036854775808) else (if 1 < (xs 1) then (-9223372036854775808) else (if (xs 1) = 0 then 0 else 1))) := hw
  by_cases c2_ : (xs 1) < 0
  · have b3_ : (-2147483648) ≤ Int32.toInt (xs 1) ∧ Int32.toInt (xs 1) ≤ (-1) := (by have u0 := zbnd (xs 1); have u1 := (zi_lt _ _).mp c2_; have u2 : (0 : Int32).toInt = 0 := (by decide); omega)
    rw [if_pos c2_] at hw
    subst hw
    refine lv_aload_n hx hb dL_law_885 rfl (lv_at hl 1 rfl) ?_
    refine lv_aload_n hx hb dL_law_886 rfl (lv_at hl 3 rfl) ?_
    refine lv_iload_n hx hb dL_law_887 rfl (lv_at hl 0 rfl) ?_
    refine lv_iconst (v := 1) hx hb dL_law_888 (by decide) ?_
    refine lv_iadd hx hb dL_law_889 ?_
    refine ztop (w := .int 1) (congrArg Value.int (by decide)) ?_
    refine va_sld hx hb hX hbl hbA hS (by unfold vp_in; decide) dL_law_890 ?_
    refine ztop (w := .int (xs 1)) rfl ?_
    refine zgo_l (wr := []) (zrunV (As := [.int (xs 1)]) (rest := [.long (-9223372036854775808)]) ⟨hx, hb, hml, hown, ht⟩ (zc_X10_mean_0 l D y a1 (xs 1) w11 w12 w13 w14 w15 w16 w17 w18 a19 w20 w21 w22 w23 w24 w25 w26 w27 w28 w29 w30 w31 w32 w33 w34 w35 w36 w37 a38 a39 a40 w41 w42 w43 w44 w45 w46 w47 w48 w49 w50 w51 w52 w53 w54 w55 w56 w57 w58 w59 w60 w61 w62 w63 w64 w65 w66 w67 w68 w69 w70 w71 w72 w73 w74 w75 w76 w77) (cwV 1 ht (zgV zm_1057 zm_1058 zm_1059 zm_5 zm_1060) rfl rfl rfl (by decide +kernel) ⟨(Nat.le_of_ble_eq_true rfl), (Nat.le_of_ble_eq_true rfl)⟩) hK hE hS hA hW [0, 1, 2, 3, 4] (by decide) rfl 0 rfl rfl rfl rfl hl.1 rfl (Nat.le_of_ble_eq_true rfl) dL_law_891 (Nat.le_of_ble_eq_true rfl) (Nat.le_of_ble_eq_true rfl)) hS hA hW [0, 1, 2, 3, 4] [] rfl rfl (by decide) (by decide) (fun r4_ u H locs hw hW hS => ?_)
    have hW : zPD D _ [] H := hW
    have hw : r4_ = (if (xs 1) < 0 then (-9223372036854775808) else (if 1 < (xs 1) then (-9223372036854775808) else (if (xs 1) = 0 then 0 else 1))) := hw
    rw [if_pos c2_] at hw
    subst hw
    refine W.lcmp hx hb dL_law_894 ?_
    refine ztop (w := .int 0) (congrArg Value.int (by decide)) ?_
    refine lv_if_eq (tgt := 1340) hx hb dL_law_895 (by decide) (fun c5_ => ?_) (fun c5_ => absurd (by decide) c5_)
    exact zl_end l C0 hS (lv_sub hl [0, 3] rfl)
  · have b6_ : 0 ≤ Int32.toInt (xs 1) ∧ Int32.toInt (xs 1) ≤ 2147483647 := (by have u0 := zbnd (xs 1); have u1 := (not_congr (zi_lt _ _)).mp c2_; have u2 : (0 : Int32).toInt = 0 := (by decide); omega)
    rw [if_neg c2_] at hw
    by_cases c7_ : 1 < (xs 1)
    · have b8_ : 2 ≤ Int32.toInt (xs 1) ∧ Int32.toInt (xs 1) ≤ 2147483647 := (by have u0 := b6_; have u1 := (zi_lt _ _).mp c7_; have u2 : (1 : Int32).toInt = 1 := (by decide); omega)
      rw [if_pos c7_] at hw
      subst hw
      refine lv_aload_n hx hb dL_law_885 rfl (lv_at hl 1 rfl) ?_
      refine lv_aload_n hx hb dL_law_886 rfl (lv_at hl 3 rfl) ?_
      refine lv_iload_n hx hb dL_law_887 rfl (lv_at hl 0 rfl) ?_
      refine lv_iconst (v := 1) hx hb dL_law_888 (by decide) ?_
      refine lv_iadd hx hb dL_law_889 ?_
      refine ztop (w := .int 1) (congrArg Value.int (by decide)) ?_
      refine va_sld hx hb hX hbl hbA hS (by unfold vp_in; decide) dL_law_890 ?_
      refine ztop (w := .int (xs 1)) rfl ?_
      refine zgo_l (wr := []) (zrunV (As := [.int (xs 1)]) (rest := [.long (-9223372036854775808)]) ⟨hx, hb, hml, hown, ht⟩ (zc_X10_mean_0 l D y a1 (xs 1) w11 w12 w13 w14 w15 w16 w17 w18 a19 w20 w21 w22 w23 w24 w25 w26 w27 w28 w29 w30 w31 w32 w33 w34 w35 w36 w37 a38 a39 a40 w41 w42 w43 w44 w45 w46 w47 w48 w49 w50 w51 w52 w53 w54 w55 w56 w57 w58 w59 w60 w61 w62 w63 w64 w65 w66 w67 w68 w69 w70 w71 w72 w73 w74 w75 w76 w77) (cwV 1 ht (zgV zm_1057 zm_1058 zm_1059 zm_5 zm_1060) rfl rfl rfl (by decide +kernel) ⟨(Nat.le_of_ble_eq_true rfl), (Nat.le_of_ble_eq_true rfl)⟩) hK hE hS hA hW [0, 1, 2, 3, 4] (by decide) rfl 0 rfl rfl rfl rfl hl.1 rfl (Nat.le_of_ble_eq_true rfl) dL_law_891 (Nat.le_of_ble_eq_true rfl) (Nat.le_of_ble_eq_true rfl)) hS hA hW [0, 1, 2, 3, 4] [] rfl rfl (by decide) (by decide) (fun r9_ u H locs hw hW hS => ?_)
      have hW : zPD D _ [] H := hW
      have hw : r9_ = (if (xs 1) < 0 then (-9223372036854775808) else (if 1 < (xs 1) then (-9223372036854775808) else (if (xs 1) = 0 then 0 else 1))) := hw
      rw [if_neg c2_] at hw
      rw [if_pos c7_] at hw
      subst hw
      refine W.lcmp hx hb dL_law_894 ?_
      refine ztop (w := .int 0) (congrArg Value.int (by decide)) ?_
      refine lv_if_eq (tgt := 1340) hx hb dL_law_895 (by decide) (fun c10_ => ?_) (fun c10_ => absurd (by decide) c10_)
      exact zl_end l C0 hS (lv_sub hl [0, 3] rfl)
    · have b11_ : 0 ≤ Int32.toInt (xs 1) ∧ Int32.toInt (xs 1) ≤ 1 := (by have u0 := b6_; have u1 := (not_congr (zi_lt _ _)).mp c7_; have u2 : (1 : Int32).toInt = 1 := (by decide); omega)
      rw [if_neg c7_] at hw
      by_cases c12_ : (xs 1) = 0
      · have b13_ : 0 ≤ Int32.toInt (xs 1) ∧ Int32.toInt (xs 1) ≤ 0 := (by have u0 := b11_; have u1 := (zi_eq _ _).mp c12_; have u2 : (0 : Int32).toInt = 0 := (by decide); omega)
        rw [if_pos c12_] at hw
        subst hw
        refine lv_aload_n hx hb dL_law_885 rfl (lv_at hl 1 rfl) ?_
        refine lv_aload_n hx hb dL_law_886 rfl (lv_at hl 3 rfl) ?_
        refine lv_iload_n hx hb dL_law_887 rfl (lv_at hl 0 rfl) ?_
        refine lv_iconst (v := 1) hx hb dL_law_888 (by decide) ?_
        refine lv_iadd hx hb dL_law_889 ?_
        refine ztop (w := .int 1) (congrArg Value.int (by decide)) ?_
        refine va_sld hx hb hX hbl hbA hS (by unfold vp_in; decide) dL_law_890 ?_
        refine ztop (w := .int (xs 1)) rfl ?_
        refine zgo_l (wr := []) (zrunV (As := [.int (xs 1)]) (rest := [.long 0]) ⟨hx, hb, hml, hown, ht⟩ (zc_X10_mean_0 l D y a1 (xs 1) w11 w12 w13 w14 w15 w16 w17 w18 a19 w20 w21 w22 w23 w24 w25 w26 w27 w28 w29 w30 w31 w32 w33 w34 w35 w36 w37 a38 a39 a40 w41 w42 w43 w44 w45 w46 w47 w48 w49 w50 w51 w52 w53 w54 w55 w56 w57 w58 w59 w60 w61 w62 w63 w64 w65 w66 w67 w68 w69 w70 w71 w72 w73 w74 w75 w76 w77) (cwV 1 ht (zgV zm_1057 zm_1058 zm_1059 zm_5 zm_1060) rfl rfl rfl (by decide +kernel) ⟨(Nat.le_of_ble_eq_true rfl), (Nat.le_of_ble_eq_true rfl)⟩) hK hE hS hA hW [0, 1, 2, 3, 4] (by decide) rfl 0 rfl rfl rfl rfl hl.1 rfl (Nat.le_of_ble_eq_true rfl) dL_law_891 (Nat.le_of_ble_eq_true rfl) (Nat.le_of_ble_eq_true rfl)) hS hA hW [0, 1, 2, 3, 4] [] rfl rfl (by decide) (by decide) (fun r14_ u H locs hw hW hS => ?_)
        have hW : zPD D _ [] H := hW
        have hw : r14_ = (if (xs 1) < 0 then (-9223372036854775808) else (if 1 < (xs 1) then (-9223372036854775808) else (if (xs 1) = 0 then 0 else 1))) := hw
        rw [if_neg c2_] at hw
        rw [if_neg c7_] at hw
        rw [if_pos c12_] at hw
        subst hw
        refine W.lcmp hx hb dL_law_894 ?_
        refine ztop (w := .int 0) (congrArg Value.int (by decide)) ?_
        refine lv_if_eq (tgt := 1340) hx hb dL_law_895 (by decide) (fun c15_ => ?_) (fun c15_ => absurd (by decide) c15_)
        exact zl_end l C0 hS (lv_sub hl [0, 3] rfl)
      · have b16_ : 1 ≤ Int32.toInt (xs 1) ∧ Int32.toInt (xs 1) ≤ 1 := (by have u0 := b11_; have u1 := (not_congr (zi_eq _ _)).mp c12_; have u2 : (0 : Int32).toInt = 0 := (by decide); omega)
        rw [if_neg c12_] at hw
        subst hw
        refine lv_aload_n hx hb dL_law_885 rfl (lv_at hl 1 rfl) ?_
        refine lv_aload_n hx hb dL_law_886 rfl (lv_at hl 3 rfl) ?_
        refine lv_iload_n hx hb dL_law_887 rfl (lv_at hl 0 rfl) ?_
        refine lv_iconst (v := 1) hx hb dL_law_888 (by decide) ?_
        refine lv_iadd hx hb dL_law_889 ?_
        refine ztop (w := .int 1) (congrArg Value.int (by decide)) ?_
        refine va_sld hx hb hX hbl hbA hS (by unfold vp_in; decide) dL_law_890 ?_
        refine ztop (w := .int (xs 1)) rfl ?_
        refine zgo_l (wr := []) (zrunV (As := [.int (xs 1)]) (rest := [.long 1]) ⟨hx, hb, hml, hown, ht⟩ (zc_X10_mean_0 l D y a1 (xs 1) w11 w12 w13 w14 w15 w16 w17 w18 a19 w20 w21 w22 w23 w24 w25 w26 w27 w28 w29 w30 w31 w32 w33 w34 w35 w36 w37 a38 a39 a40 w41 w42 w43 w44 w45 w46 w47 w48 w49 w50 w51 w52 w53 w54 w55 w56 w57 w58 w59 w60 w61 w62 w63 w64 w65 w66 w67 w68 w69 w70 w71 w72 w73 w74 w75 w76 w77) (cwV 1 ht (zgV zm_1057 zm_1058 zm_1059 zm_5 zm_1060) rfl rfl rfl (by decide +kernel) ⟨(Nat.le_of_ble_eq_true rfl), (Nat.le_of_ble_eq_true rfl)⟩) hK hE hS hA hW [0, 1, 2, 3, 4] (by decide) rfl 0 rfl rfl rfl rfl hl.1 rfl (Nat.le_of_ble_eq_true rfl) dL_law_891 (Nat.le_of_ble_eq_true rfl) (Nat.le_of_ble_eq_true rfl)) hS hA hW [0, 1, 2, 3, 4] [] rfl rfl (by decide) (by decide) (fun r17_ u H locs hw hW hS => ?_)
        have hW : zPD D _ [] H := hW
        have hw : r17_ = (if (xs 1) < 0 then (-9223372036854775808) else (if 1 < (xs 1) then (-9223372036854775808) else (if (xs 1) = 0 then 0 else 1))) := hw
        rw [if_neg c2_] at hw
        rw [if_neg c7_] at hw
        rw [if_neg c12_] at hw
        subst hw
        refine W.lcmp hx hb dL_law_894 ?_
        refine ztop (w := .int 0) (congrArg Value.int (by decide)) ?_
        refine lv_if_eq (tgt := 1340) hx hb dL_law_895 (by decide) (fun c18_ => ?_) (fun c18_ => absurd (by decide) c18_)
        exact zl_end l C0 hS (lv_sub hl [0, 3] rfl)
set_option maxHeartbeats 8000000 in
set_option maxRecDepth 100000 in
theorem zl_case_26 {p : Program} {e : Env} {s : State} {m : MethodId} {below : List Frame} {meth : Method} {c : Code} (l : Launch) {b : Nat} {xs : Nat → Int32} (C0 : lw_At p s m meth c b 6 xs) (D : va_G) (y : Nat → ClassId) (a0 : Nat) (a1 : Nat) (w2 : Value) (w3 : Value) (w4 : Value) (a5 : Nat) (w6 : Value) (w7 : Value) (w8 : Value) (w9 : Value) (w10 : Value) (w11 : Value) (w12 : Value) (w13 : Value) (w14 : Value) (w15 : Value) (w16 : Value) (w17 : Value) (w18 : Value) (w19 : Value) (w20 : Value) (w21 : Value) (w22 : Value) (w23 : Value) (w24 : Value) (w25 : Value) (w26 : Value) (w27 : Value) (w28 : Value) (w29 : Value) (w30 : Value) (w31 : Value) (w32 : Value) (w33 : Value) (w34 : Value) (w35 : Value) (w36 : Value) (w37 : Value) (w38 : Value) (w39 : Value) (w40 : Value) (w41 : Value) (w42 : Value) (w43 : Value) (w44 : Value) (w45 : Value) (w46 : Value) (w47 : Value) (w48 : Value) (w49 : Value) (w50 : Value) (w51 : Value) (w52 : Value) (w53 : Value) (w54 : Value) (w55 : Value) (w56 : Value) (w57 : Value) (w58 : Value) (w59 : Value) (w60 : Value) (w61 : Value) (w62 : Value) (w63 : Value) (w64 : Value) (w65 : Value) (w66 : Value) (w67 : Value) (w68 : Value) (w69 : Value) (w70 : Value) (w71 : Value) (w72 : Value) (w73 : Value) (w74 : Value) (w75 : Value) (w76 : Value) (w77 : Value) (w78 : Value) (w79 : Value) (w80 : Value) (w81 : Value) (w82 : Value) (w83 : Value) (w84 : Value) (w85 : Value) (w86 : Value) (w87 : Value) (w88 : Value) (w89 : Value) (w90 : Value) (w91 : Value) (w92 : Value) (w93 : Value) (w94 : Value) (a95 : Nat) (w96 : Value) (w97 : Value) (hK : zK D y s) (hE : zE y (fun q : Nat => s.heap.size ≤ q) s s.heap) {H : Heap} {locs : List Loc} {ls : Array Slot} (hS : va_S (fun q : Nat => s.heap.size ≤ q) s.heap H locs) (hW : zPD D (fun q : Nat => s.heap.size ≤ q) [(a0, .inr (8, [w2, w3, w4, .ref a5, w6, w7, w8, w9, w10])), (a1, .inr (9, [.int 0, w11, w12, w13, w14, w15, w16, w17, w18, w19, w20, w21, w22, w23, w24, w25, w26, w27, w28, w29, w30, w31, w32, w33, w34, w35, w36, w37, w38, w39, w40, w41, w42, w43, w44, w45, w46, w47, w48, w49, w50, w51, w52, .int 0, w53, w54, w55, w56, w57, w58, w59, w60, w61, w62, w63, w64, w65, w66, w67, w68, w69, w70, w71, w72, w73, w74, w75, w76, w77, w78, w79, w80, w81, w82, w83, w84])), (a5, .inr (6, [w85, .int 0, w86, w87, w88, w89, w90, w91, w92, w93, w94, .ref a95])), (a95, .inr (5, [.int 0, w96, w97]))] H) (hl : lv_has ls 4 [(3, .int 0), (2, .ref a1), (1, .ref a0), (0, .ref b)]) : W p l e room_1 s m #[Value.ref b] below meth c H locs 1000 20000 (lw_Z below #[Value.ref b] s) (F0 m 900 ls []) := by
  obtain ⟨hx, hb, hr, hml, hown, hts, hX, hbl, hlocks, hgv⟩ := id C0
  have ht : ∀ w ∈ zT, w.before #[Value.ref b] s = true := fun w h => hts w (zgin w h).1
  have hown : s.vm.findClass RL = some m.cls := hown
  have hA : ∀ q : Nat, s.heap.size ≤ q → (fun q : Nat => s.heap.size ≤ q) q := fun _ h => h
  have hbA : ¬ (fun q : Nat => s.heap.size ≤ q) b := Nat.not_le.mpr hbl
  refine lv_aload_n hx hb dL_law_900 rfl (lv_at hl 2 rfl) ?_
  refine lv_aload_n hx hb dL_law_901 rfl (lv_at hl 3 rfl) ?_
  refine lv_iload_n hx hb dL_law_902 rfl (lv_at hl 0 rfl) ?_
  refine lv_iconst (v := 1) hx hb dL_law_903 (by decide) ?_
  refine lv_iadd hx hb dL_law_904 ?_
  refine ztop (w := .int 1) (congrArg Value.int (by decide)) ?_
  refine va_sld hx hb hX hbl hbA hS (by unfold vp_in; decide) dL_law_905 ?_
  refine ztop (w := .int (xs 1)) rfl ?_
  refine lv_aload_n hx hb dL_law_906 rfl (lv_at hl 3 rfl) ?_
  refine lv_iload_n hx hb dL_law_907 rfl (lv_at hl 0 rfl) ?_
  refine lv_iconst (v := 2) hx hb dL_law_908 (by decide) ?_
  refine lv_iadd hx hb dL_law_909 ?_
  refine ztop (w := .int 2) (congrArg Value.int (by decide)) ?_
  refine va_sld hx hb hX hbl hbA hS (by unfold vp_in; decide) dL_law_910 ?_
  refine ztop (w := .int (xs 2)) rfl ?_
  refine zgo_i (wr := [(a1, .inr (9, [.int 0, w11, w12, w13, w14, w15, w16, w17, w18, w19, w20, w21, w22, w23, w24, w25, w26, w27, w28, w29, w30, w31, w32, w33, w34, w35, w36, w37, w38, w39, w40, w41, w42, w43, w44, w45, w46, w47, w48, w49, w50, w51, w52, .int 0, w53, w54, w55, w56, w57, w58, w59, w60, w61, w62, w63, w64, w65, w66, w67, w68, w69, w70, w71, w72, w73, w74, w75, w76, w77, w78, w79, w80, w81, w82, w83, w84]))]) (zrunV (As := [.int (xs 1), .int (xs 2)]) (rest := []) ⟨hx, hb, hml, hown, ht⟩ (zc_X9_book_0 l D y a0 (xs 1) (xs 2) w2 w3 w4 a5 w6 w7 w8 w9 w10 w85 w86 w87 w88 w89 w90 w91 w92 w93 w94 a95 w96 w97) (cwV 2 ht (zgV zm_1061 zm_1062 zm_1063 zm_2 zm_1064) rfl rfl rfl (by decide +kernel) ⟨(Nat.le_of_ble_eq_true rfl), (Nat.le_of_ble_eq_true rfl)⟩) hK hE hS hA hW [0, 2, 3] (by decide) rfl 0 rfl rfl rfl rfl hl.1 rfl (Nat.le_of_ble_eq_true rfl) dL_law_911 (Nat.le_of_ble_eq_true rfl) (Nat.le_of_ble_eq_true rfl)) hS hA hW [0, 2, 3] [1] rfl rfl (by decide) (by decide) (fun r1_ u H locs hw hW hS => ?_)
  have hW : zPD D _ [(a1, .inr (9, [.int 0, w11, w12, w13, w14, w15, w16, w17, w18, w19, w20, w21, w22, w23, w24, w25, w26, w27, w28, w29, w30, w31, w32, w33, w34, w35, w36, w37, w38, w39, w40, w41, w42, w43, w44, w45, w46, w47, w48, w49, w50, w51, w52, .int 0, w53, w54, w55, w56, w57, w58, w59, w60, w61, w62, w63, w64, w65, w66, w67, w68, w69, w70, w71, w72, w73, w74, w75, w76, w77, w78, w79, w80, w81, w82, w83, w84]))] H := hW
  have hw : r1_ = (if (xs 1) = (-1) then 0 else (-1)) := hw
  by_cases c2_ : (xs 1) = (-1)
  · have b3_ : (-1) ≤ Int32.toInt (xs 1) ∧ Int32.toInt (xs 1) ≤ (-1) := (by have u0 := zbnd (xs 1); have u1 := (zi_eq _ _).mp c2_; have u2 : ((-1) : Int32).toInt = -1 := (by decide); omega)
    rw [if_pos c2_] at hw
    subst hw
    refine lv_aload_n hx hb dL_law_914 rfl (lv_at hl 1 rfl) ?_
    refine lv_aload_n hx hb dL_law_915 rfl (lv_at hl 3 rfl) ?_
    refine lv_iload_n hx hb dL_law_916 rfl (lv_at hl 0 rfl) ?_
    refine lv_iconst (v := 1) hx hb dL_law_917 (by decide) ?_
    refine lv_iadd hx hb dL_law_918 ?_
    refine ztop (w := .int 1) (congrArg Value.int (by decide)) ?_
    refine va_sld hx hb hX hbl hbA hS (by unfold vp_in; decide) dL_law_919 ?_
    refine ztop (w := .int (xs 1)) rfl ?_
    refine lv_aload_n hx hb dL_law_920 rfl (lv_at hl 3 rfl) ?_
    refine lv_iload_n hx hb dL_law_921 rfl (lv_at hl 0 rfl) ?_
    refine lv_iconst (v := 2) hx hb dL_law_922 (by decide) ?_
    refine lv_iadd hx hb dL_law_923 ?_
    refine ztop (w := .int 2) (congrArg Value.int (by decide)) ?_
    refine va_sld hx hb hX hbl hbA hS (by unfold vp_in; decide) dL_law_924 ?_
    refine ztop (w := .int (xs 2)) rfl ?_
    refine zgo_i (wr := []) (zrunV (As := [.int (xs 1), .int (xs 2)]) (rest := [.int 0]) ⟨hx, hb, hml, hown, ht⟩ (zc_X10_book_0 l D y a1 (xs 1) (xs 2) w11 w12 w13 w14 w15 w16 w17 w18 w19 w20 w21 w22 w23 w24 w25 w26 w27 w28 w29 w30 w31 w32 w33 w34 w35 w36 w37 w38 w39 w40 w41 w42 w43 w44 w45 w46 w47 w48 w49 w50 w51 w52 w53 w54 w55 w56 w57 w58 w59 w60 w61 w62 w63 w64 w65 w66 w67 w68 w69 w70 w71 w72 w73 w74 w75 w76 w77 w78 w79 w80 w81 w82 w83 w84) (cwV 2 ht (zgV zm_1066 zm_1067 zm_1068 zm_5 zm_1069) rfl rfl rfl (by decide +kernel) ⟨(Nat.le_of_ble_eq_true rfl), (Nat.le_of_ble_eq_true rfl)⟩) hK hE hS hA hW [0] (by decide) rfl 0 rfl rfl rfl rfl hl.1 rfl (Nat.le_of_ble_eq_true rfl) dL_law_925 (Nat.le_of_ble_eq_true rfl) (Nat.le_of_ble_eq_true rfl)) hS hA hW [0] [] rfl rfl (by decide) (by decide) (fun r4_ u H locs hw hW hS => ?_)
    have hW : zPD D _ [] H := hW
    have hw : r4_ = (if (xs 1) = (-1) then 0 else (-1)) := hw
    rw [if_pos c2_] at hw
    subst hw
    refine lv_icmp_eq (tgt := 1340) hx hb dL_law_928 (by decide) (fun c5_ => ?_) (fun c5_ => absurd (by decide) c5_)
    exact zl_end l C0 hS (lv_sub hl [0, 3] rfl)
  · have b6_ : (-2147483648) ≤ Int32.toInt (xs 1) ∧ Int32.toInt (xs 1) ≤ 2147483647 := (by have u0 := zbnd (xs 1); have u1 := (not_congr (zi_eq _ _)).mp c2_; have u2 : ((-1) : Int32).toInt = -1 := (by decide); omega)
    rw [if_neg c2_] at hw
    subst hw
    refine lv_aload_n hx hb dL_law_914 rfl (lv_at hl 1 rfl) ?_
    refine lv_aload_n hx hb dL_law_915 rfl (lv_at hl 3 rfl) ?_
    refine lv_iload_n hx hb dL_law_916 rfl (lv_at hl 0 rfl) ?_
    refine lv_iconst (v := 1) hx hb dL_law_917 (by decide) ?_
    refine lv_iadd hx hb dL_law_918 ?_
    refine ztop (w := .int 1) (congrArg Value.int (by decide)) ?_
    refine va_sld hx hb hX hbl hbA hS (by unfold vp_in; decide) dL_law_919 ?_
    refine ztop (w := .int (xs 1)) rfl ?_
    refine lv_aload_n hx hb dL_law_920 rfl (lv_at hl 3 rfl) ?_
    refine lv_iload_n hx hb dL_law_921 rfl (lv_at hl 0 rfl) ?_
    refine lv_iconst (v := 2) hx hb dL_law_922 (by decide) ?_
    refine lv_iadd hx hb dL_law_923 ?_
    refine ztop (w := .int 2) (congrArg Value.int (by decide)) ?_
    refine va_sld hx hb hX hbl hbA hS (by unfold vp_in; decide) dL_law_924 ?_
    refine ztop (w := .int (xs 2)) rfl ?_
    refine zgo_i (wr := []) (zrunV (As := [.int (xs 1), .int (xs 2)]) (rest := [.int (-1)]) ⟨hx, hb, hml, hown, ht⟩ (zc_X10_book_0 l D y a1 (xs 1) (xs 2) w11 w12 w13 w14 w15 w16 w17 w18 w19 w20 w21 w22 w23 w24 w25 w26 w27 w28 w29 w30 w31 w32 w33 w34 w35 w36 w37 w38 w39 w40 w41 w42 w43 w44 w45 w46 w47 w48 w49 w50 w51 w52 w53 w54 w55 w56 w57 w58 w59 w60 w61 w62 w63 w64 w65 w66 w67 w68 w69 w70 w71 w72 w73 w74 w75 w76 w77 w78 w79 w80 w81 w82 w83 w84) (cwV 2 ht (zgV zm_1066 zm_1067 zm_1068 zm_5 zm_1069) rfl rfl rfl (by decide +kernel) ⟨(Nat.le_of_ble_eq_true rfl), (Nat.le_of_ble_eq_true rfl)⟩) hK hE hS hA hW [0] (by decide) rfl 0 rfl rfl rfl rfl hl.1 rfl (Nat.le_of_ble_eq_true rfl) dL_law_925 (Nat.le_of_ble_eq_true rfl) (Nat.le_of_ble_eq_true rfl)) hS hA hW [0] [] rfl rfl (by decide) (by decide) (fun r7_ u H locs hw hW hS => ?_)
    have hW : zPD D _ [] H := hW
    have hw : r7_ = (if (xs 1) = (-1) then 0 else (-1)) := hw
    rw [if_neg c2_] at hw
    subst hw
    refine lv_icmp_eq (tgt := 1340) hx hb dL_law_928 (by decide) (fun c8_ => ?_) (fun c8_ => absurd (by decide) c8_)
    exact zl_end l C0 hS (lv_sub hl [0, 3] rfl)
set_option maxHeartbeats 8000000 in
set_option maxRecDepth 100000 in
theorem zl_case_27 {p : Program} {e : Env} {s : State} {m : MethodId} {below : List Frame} {meth : Method} {c : Code} (l : Launch) {b : Nat} {xs : Nat → Int32} (C0 : lw_At p s m meth c b 6 xs) (D : va_G) (y : Nat → ClassId) (a0 : Nat) (a1 : Nat) (w2 : Value) (w3 : Value) (w4 : Value) (a5 : Nat) (w6 : Value) (w7 : Value) (a8 : Nat) (w9 : Value) (w10 : Value) (w11 : Value) (w12 : Value) (w13 : Value) (w14 : Value) (w15 : Value) (w16 : Value) (w17 : Value) (w18 : Value) (w19 : Value) (w20 : Value) (a21 : Nat) (w22 : Value) (w23 : Value) (w24 : Value) (w25 : Value) (w26 : Value) (w27 : Value) (w28 : Value) (w29 : Value) (w30 : Value) (w31 : Value) (w32 : Value) (w33 : Value) (w34 : Value) (w35 : Value) (w36 : Value) (w37 : Value) (w38 : Value) (w39 : Value) (w40 : Value) (w41 : Value) (a42 : Nat) (a43 : Nat) (a44 : Nat) (w45 : Value) (w46 : Value) (w47 : Value) (w48 : Value) (w49 : Value) (w50 : Value) (w51 : Value) (w52 : Value) (w53 : Value) (w54 : Value) (w55 : Value) (w56 : Value) (w57 : Value) (w58 : Value) (w59 : Value) (w60 : Value) (w61 : Value) (w62 : Value) (w63 : Value) (w64 : Value) (w65 : Value) (w66 : Value) (w67 : Value) (w68 : Value) (w69 : Value) (w70 : Value) (w71 : Value) (w72 : Value) (w73 : Value) (w74 : Value) (w75 : Value) (w76 : Value) (w77 : Value) (w78 : Value) (w79 : Value) (w80 : Value) (w81 : Value) (w82 : Value) (w83 : Value) (a84 : Nat) (w85 : Value) (a86 : Nat) (w87 : Value) (w88 : Value) (w89 : Value) (w90 : Value) (w91 : Value) (a92 : Nat) (w93 : Value) (w94 : Value) (w95 : Value) (w96 : Value) (hK : zK D y s) (hE : zE y (fun q : Nat => s.heap.size ≤ q) s s.heap) {H : Heap} {locs : List Loc} {ls : Array Slot} (hS : va_S (fun q : Nat => s.heap.size ≤ q) s.heap H locs) (hW : zPD D (fun q : Nat => s.heap.size ≤ q) [(a0, .inr (8, [w2, w3, w4, .ref a5, w6, w7, .ref a8, w9, w10])), (a1, .inr (9, [w11, .int 0, w12, w13, w14, .int 0, .int 0, w15, w16, w17, w18, w19, w20, .ref a21, w22, w23, w24, w25, w26, w27, w28, w29, w30, w31, w32, w33, w34, w35, w36, w37, w38, w39, w40, w41, .ref a42, .int 0, .ref a43, .int 0, .ref a44, w45, w46, w47, w48, .int 0, w49, w50, w51, w52, w53, w54, w55, w56, w57, w58, w59, w60, w61, w62, w63, w64, w65, w66, w67, w68, w69, w70, w71, w72, w73, w74, w75, w76, w77, w78, w79, w80])), (a5, .inr (6, [w81, .int 0, .int 20, .int 0, .int 0, w82, .int 0, .int 0, w83, .ref a84, w85, .ref a86])), (a8, .inr (1, [.ref a5, .int 0, .int 0, w87, w88, w89, w90, w91, .ref a92])), (a21, .inl (y 2, 7, .inl (fun _ => 0))), (a42, .inl (y 0, 7, .inl (fun _ => 0))), (a43, .inl (y 0, 7, .inl (fun _ => 0))), (a44, .inl (y 0, 7, .inl (fun _ => 0))), (a84, .inr (5, [.int 0, w93, w94])), (a86, .inr (5, [.int 0, w95, w96])), (a92, .inl (y 2, 4, .inl (fun _ => 0)))] H) (hl : lv_has ls 4 [(3, .int 0), (2, .ref a1), (1, .ref a0), (0, .ref b)]) : W p l e room_1 s m #[Value.ref b] below meth c H locs 1000 20000 (lw_Z below #[Value.ref b] s) (F0 m 933 ls []) := by
  obtain ⟨hx, hb, hr, hml, hown, hts, hX, hbl, hlocks, hgv⟩ := id C0
  have ht : ∀ w ∈ zT, w.before #[Value.ref b] s = true := fun w h => hts w (zgin w h).1
  have hown : s.vm.findClass RL = some m.cls := hown
  have hA : ∀ q : Nat, s.heap.size ≤ q → (fun q : Nat => s.heap.size ≤ q) q := fun _ h => h
  have hbA : ¬ (fun q : Nat => s.heap.size ≤ q) b := Nat.not_le.mpr hbl
  refine lv_aload_n hx hb dL_law_933 rfl (lv_at hl 2 rfl) ?_
  refine zgo_i (wr := [(a1, .inr (9, [w11, .int 0, w12, w13, w14, .int 0, .int 0, w15, w16, w17, w18, w19, w20, .ref a21, w22, w23, w24, w25, w26, w27, w28, w29, w30, w31, w32, w33, w34, w35, w36, w37, w38, w39, w40, w41, .ref a42, .int 0, .ref a43, .int 0, .ref a44, w45, w46, w47, w48, .int 0, w49, w50, w51, w52, w53, w54, w55, w56, w57, w58, w59, w60, w61, w62, w63, w64, w65, w66, w67, w68, w69, w70, w71, w72, w73, w74, w75, w76, w77, w78, w79, w80])), (a21, .inl (y 2, 7, .inl (fun _ => 0))), (a42, .inl (y 0, 7, .inl (fun _ => 0))), (a43, .inl (y 0, 7, .inl (fun _ => 0))), (a44, .inl (y 0, 7, .inl (fun _ => 0)))]) (zrunV (As := []) (rest := []) ⟨hx, hb, hml, hown, ht⟩ (zc_X9_looked_0 l D y a0 w2 w3 w4 a5 w6 w7 a8 w9 w10 w81 w82 w83 a84 w85 a86 w87 w88 w89 w90 w91 a92 w93 w94 w95 w96) (cwV 0 ht (zgV zm_1070 zm_1071 zm_1072 zm_2 zm_1073) rfl rfl rfl (by decide +kernel) ⟨(Nat.le_of_ble_eq_true rfl), (Nat.le_of_ble_eq_true rfl)⟩) hK hE hS hA hW [0, 2, 3, 8, 9, 10] (by decide) rfl 0 rfl rfl rfl rfl hl.1 rfl (Nat.le_of_ble_eq_true rfl) dL_law_934 (Nat.le_of_ble_eq_true rfl) (Nat.le_of_ble_eq_true rfl)) hS hA hW [0, 2, 3, 8, 9, 10] [1, 4, 5, 6, 7] rfl rfl (by decide) (by decide) (fun r1_ u H locs hw hW hS => ?_)
  have hW : zPD D _ [(a1, .inr (9, [w11, .int 0, w12, w13, w14, .int 0, .int 0, w15, w16, w17, w18, w19, w20, .ref a21, w22, w23, w24, w25, w26, w27, w28, w29, w30, w31, w32, w33, w34, w35, w36, w37, w38, w39, w40, w41, .ref a42, .int 0, .ref a43, .int 0, .ref a44, w45, w46, w47, w48, .int 0, w49, w50, w51, w52, w53, w54, w55, w56, w57, w58, w59, w60, w61, w62, w63, w64, w65, w66, w67, w68, w69, w70, w71, w72, w73, w74, w75, w76, w77, w78, w79, w80])), (a21, .inl (y 2, 7, .inl (fun _ => 0))), (a42, .inl (y 0, 7, .inl (fun _ => 0))), (a43, .inl (y 0, 7, .inl (fun _ => 0))), (a44, .inl (y 0, 7, .inl (fun _ => 0)))] H := hW
  have hw : r1_ = (-5) := hw
  subst hw
  refine lv_aload_n hx hb dL_law_937 rfl (lv_at hl 1 rfl) ?_
  refine zgo_i (wr := []) (zrunV (As := []) (rest := [.int (-5)]) ⟨hx, hb, hml, hown, ht⟩ (zc_X10_looked_0 l D y a1 w11 w12 w13 w14 w15 w16 w17 w18 w19 w20 a21 w22 w23 w24 w25 w26 w27 w28 w29 w30 w31 w32 w33 w34 w35 w36 w37 w38 w39 w40 w41 a42 a43 a44 w45 w46 w47 w48 w49 w50 w51 w52 w53 w54 w55 w56 w57 w58 w59 w60 w61 w62 w63 w64 w65 w66 w67 w68 w69 w70 w71 w72 w73 w74 w75 w76 w77 w78 w79 w80) (cwV 0 ht (zgV zm_1075 zm_1076 zm_1077 zm_5 zm_1078) rfl rfl rfl (by decide +kernel) ⟨(Nat.le_of_ble_eq_true rfl), (Nat.le_of_ble_eq_true rfl)⟩) hK hE hS hA hW [0, 1, 2, 3, 4] (by decide) rfl 0 rfl rfl rfl rfl hl.1 rfl (Nat.le_of_ble_eq_true rfl) dL_law_938 (Nat.le_of_ble_eq_true rfl) (Nat.le_of_ble_eq_true rfl)) hS hA hW [0, 1, 2, 3, 4] [] rfl rfl (by decide) (by decide) (fun r2_ u H locs hw hW hS => ?_)
  have hW : zPD D _ [] H := hW
  have hw : r2_ = (-5) := hw
  subst hw
  refine lv_icmp_eq (tgt := 1340) hx hb dL_law_941 (by decide) (fun c3_ => ?_) (fun c3_ => absurd (by decide) c3_)
  exact zl_end l C0 hS (lv_sub hl [0, 3] rfl)
set_option maxHeartbeats 8000000 in
set_option maxRecDepth 100000 in
theorem zl_case_28 {p : Program} {e : Env} {s : State} {m : MethodId} {below : List Frame} {meth : Method} {c : Code} (l : Launch) {b : Nat} {xs : Nat → Int32} (C0 : lw_At p s m meth c b 6 xs) (D : va_G) (y : Nat → ClassId) (a0 : Nat) (a1 : Nat) (w2 : Value) (w3 : Value) (w4 : Value) (a5 : Nat) (w6 : Value) (w7 : Value) (w8 : Value) (w9 : Value) (a10 : Nat) (w11 : Value) (w12 : Value) (w13 : Value) (w14 : Value) (w15 : Value) (w16 : Value) (w17 : Value) (w18 : Value) (w19 : Value) (w20 : Value) (w21 : Value) (w22 : Value) (w23 : Value) (w24 : Value) (w25 : Value) (w26 : Value) (w27 : Value) (w28 : Value) (w29 : Value) (w30 : Value) (w31 : Value) (w32 : Value) (w33 : Value) (w34 : Value) (w35 : Value) (w36 : Value) (w37 : Value) (w38 : Value) (w39 : Value) (w40 : Value) (w41 : Value) (w42 : Value) (w43 : Value) (w44 : Value) (w45 : Value) (w46 : Value) (w47 : Value) (w48 : Value) (w49 : Value) (w50 : Value) (w51 : Value) (w52 : Value) (w53 : Value) (w54 : Value) (w55 : Value) (w56 : Value) (w57 : Value) (w58 : Value) (w59 : Value) (w60 : Value) (w61 : Value) (w62 : Value) (w63 : Value) (w64 : Value) (w65 : Value) (w66 : Value) (w67 : Value) (w68 : Value) (w69 : Value) (w70 : Value) (w71 : Value) (w72 : Value) (w73 : Value) (w74 : Value) (w75 : Value) (w76 : Value) (w77 : Value) (w78 : Value) (w79 : Value) (w80 : Value) (w81 : Value) (a82 : Nat) (w83 : Value) (w84 : Value) (w85 : Value) (w86 : Value) (w87 : Value) (w88 : Value) (w89 : Value) (w90 : Value) (w91 : Value) (w92 : Value) (w93 : Value) (w94 : Value) (w95 : Value) (w96 : Value) (a97 : Nat) (a98 : Nat) (a99 : Nat) (a100 : Nat) (a101 : Nat) (a102 : Nat) (w103 : Value) (w104 : Value) (w105 : Value) (w106 : Value) (w107 : Value) (w108 : Value) (w109 : Value) (w110 : Value) (w111 : Value) (w112 : Value) (w113 : Value) (w114 : Value) (hK : zK D y s) (hE : zE y (fun q : Nat => s.heap.size ≤ q) s s.heap) {H : Heap} {locs : List Loc} {ls : Array Slot} (hS : va_S (fun q : Nat => s.heap.size ≤ q) s.heap H locs) (hW : zPD D (fun q : Nat => s.heap.size ≤ q) [(a0, .inr (8, [w2, w3, w4, .ref a5, w6, w7, w8, w9, .ref a10])), (a1, .inr (9, [.int 0, w11, w12, w13, w14, w15, w16, w17, w18, w19, w20, w21, w22, w23, w24, w25, w26, w27, w28, w29, w30, w31, w32, w33, w34, w35, w36, w37, w38, w39, w40, w41, w42, w43, w44, w45, w46, w47, w48, w49, w50, w51, w52, w53, w54, w55, w56, w57, w58, w59, w60, w61, w62, w63, w64, w65, w66, w67, w68, w69, w70, w71, w72, w73, w74, w75, w76, w77, w78, w79, w80, w81, .ref a82, w83, w84, w85])), (a5, .inr (6, [w86, .int 0, w87, w88, w89, w90, w91, w92, w93, w94, w95, w96])), (a10, .inl (y 5, 6, .inr (.inr (.inr (.inr (va_up (va_up (va_up (va_up (va_up (va_up (fun _ => none) 0 (some a97)) 1 (some a98)) 2 (some a99)) 3 (some a100)) 4 (some a101)) 5 (some a102))))))), (a82, .inl (y 0, 6, .inl (upd (upd (upd (upd (upd (upd (fun _ => 0) 0 (-1)) 1 (-1)) 2 (-1)) 3 (-1)) 4 (-1)) 5 (-1)))), (a97, .inr (7, [.int (-1), w103, w104])), (a98, .inr (7, [.int (-1), w105, w106])), (a99, .inr (7, [.int (-1), w107, w108])), (a100, .inr (7, [.int (-1), w109, w110])), (a101, .inr (7, [.int (-1), w111, w112])), (a102, .inr (7, [.int (-1), w113, w114]))] H) (hl : lv_has ls 4 [(3, .int 0), (2, .ref a1), (1, .ref a0), (0, .ref b)]) : W p l e room_1 s m #[Value.ref b] below meth c H locs 1000 20000 (lw_Z below #[Value.ref b] s) (F0 m 946 ls []) := by
  obtain ⟨hx, hb, hr, hml, hown, hts, hX, hbl, hlocks, hgv⟩ := id C0
  have ht : ∀ w ∈ zT, w.before #[Value.ref b] s = true := fun w h => hts w (zgin w h).1
  have hown : s.vm.findClass RL = some m.cls := hown
  have hA : ∀ q : Nat, s.heap.size ≤ q → (fun q : Nat => s.heap.size ≤ q) q := fun _ h => h
  have hbA : ¬ (fun q : Nat => s.heap.size ≤ q) b := Nat.not_le.mpr hbl
  refine lv_aload_n hx hb dL_law_946 rfl (lv_at hl 2 rfl) ?_
  refine lv_aload_n hx hb dL_law_947 rfl (lv_at hl 3 rfl) ?_
  refine lv_iload_n hx hb dL_law_948 rfl (lv_at hl 0 rfl) ?_
  refine lv_iconst (v := 1) hx hb dL_law_949 (by decide) ?_
  refine lv_iadd hx hb dL_law_950 ?_
  refine ztop (w := .int 1) (congrArg Value.int (by decide)) ?_
  refine va_sld hx hb hX hbl hbA hS (by unfold vp_in; decide) dL_law_951 ?_
  refine ztop (w := .int (xs 1)) rfl ?_
  refine lv_aload_n hx hb dL_law_952 rfl (lv_at hl 3 rfl) ?_
  refine lv_iload_n hx hb dL_law_953 rfl (lv_at hl 0 rfl) ?_
  refine lv_iconst (v := 2) hx hb dL_law_954 (by decide) ?_
  refine lv_iadd hx hb dL_law_955 ?_
  refine ztop (w := .int 2) (congrArg Value.int (by decide)) ?_
  refine va_sld hx hb hX hbl hbA hS (by unfold vp_in; decide) dL_law_956 ?_
  refine ztop (w := .int (xs 2)) rfl ?_
  refine zgo_i (wr := [(a1, .inr (9, [.int 0, w11, w12, w13, w14, w15, w16, w17, w18, w19, w20, w21, w22, w23, w24, w25, w26, w27, w28, w29, w30, w31, w32, w33, w34, w35, w36, w37, w38, w39, w40, w41, w42, w43, w44, w45, w46, w47, w48, w49, w50, w51, w52, w53, w54, w55, w56, w57, w58, w59, w60, w61, w62, w63, w64, w65, w66, w67, w68, w69, w70, w71, w72, w73, w74, w75, w76, w77, w78, w79, w80, w81, .ref a82, w83, w84, w85])), (a82, .inl (y 0, 6, .inl (upd (upd (upd (upd (upd (upd (fun _ => 0) 0 (-1)) 1 (-1)) 2 (-1)) 3 (-1)) 4 (-1)) 5 (-1))))]) (zrunV (As := [.int (xs 1), .int (xs 2)]) (rest := []) ⟨hx, hb, hml, hown, ht⟩ (zc_X9_judge_0 l D y a0 (xs 1) (xs 2) w2 w3 w4 a5 w6 w7 w8 w9 a10 w86 w87 w88 w89 w90 w91 w92 w93 w94 w95 w96 a97 a98 a99 a100 a101 a102 w103 w104 w105 w106 w107 w108 w109 w110 w111 w112 w113 w114) (cwV 2 ht (zgV zm_1079 zm_1080 zm_1081 zm_2 zm_1082) rfl rfl rfl (by decide +kernel) ⟨(Nat.le_of_ble_eq_true rfl), (Nat.le_of_ble_eq_true rfl)⟩) hK hE hS hA hW [0, 2, 3, 5, 6, 7, 8, 9, 10] (by decide) rfl 0 rfl rfl rfl rfl hl.1 rfl (Nat.le_of_ble_eq_true rfl) dL_law_957 (Nat.le_of_ble_eq_true rfl) (Nat.le_of_ble_eq_true rfl)) hS hA hW [0, 2, 3, 5, 6, 7, 8, 9, 10] [1, 4] rfl rfl (by decide) (by decide) (fun r1_ u H locs hw hW hS => ?_)
  have hW : zPD D _ [(a1, .inr (9, [.int 0, w11, w12, w13, w14, w15, w16, w17, w18, w19, w20, w21, w22, w23, w24, w25, w26, w27, w28, w29, w30, w31, w32, w33, w34, w35, w36, w37, w38, w39, w40, w41, w42, w43, w44, w45, w46, w47, w48, w49, w50, w51, w52, w53, w54, w55, w56, w57, w58, w59, w60, w61, w62, w63, w64, w65, w66, w67, w68, w69, w70, w71, w72, w73, w74, w75, w76, w77, w78, w79, w80, w81, .ref a82, w83, w84, w85])), (a82, .inl (y 0, 6, .inl (upd (upd (upd (upd (upd (upd (fun _ => 0) 0 (-1)) 1 (-1)) 2 (-1)) 3 (-1)) 4 (-1)) 5 (-1))))] H := hW
  have hw : r1_ = (if (xs 1) < 0 then (-1) else (if 5 < (xs 1) then (-1) else (-5))) := hw
  by_cases c2_ : (xs 1) < 0
  · have b3_ : (-2147483648) ≤ Int32.toInt (xs 1) ∧ Int32.toInt (xs 1) ≤ (-1) := (by have u0 := zbnd (xs 1); have u1 := (zi_lt _ _).mp c2_; have u2 : (0 : Int32).toInt = 0 := (by decide); omega)
    rw [if_pos c2_] at hw
    subst hw
    refine lv_aload_n hx hb dL_law_960 rfl (lv_at hl 1 rfl) ?_
    refine lv_aload_n hx hb dL_law_961 rfl (lv_at hl 3 rfl) ?_
    refine lv_iload_n hx hb dL_law_962 rfl (lv_at hl 0 rfl) ?_
    refine lv_iconst (v := 1) hx hb dL_law_963 (by decide) ?_
    refine lv_iadd hx hb dL_law_964 ?_
    refine ztop (w := .int 1) (congrArg Value.int (by decide)) ?_
    refine va_sld hx hb hX hbl hbA hS (by unfold vp_in; decide) dL_law_965 ?_
    refine ztop (w := .int (xs 1)) rfl ?_
    refine lv_aload_n hx hb dL_law_966 rfl (lv_at hl 3 rfl) ?_
    refine lv_iload_n hx hb dL_law_967 rfl (lv_at hl 0 rfl) ?_
    refine lv_iconst (v := 2) hx hb dL_law_968 (by decide) ?_
    refine lv_iadd hx hb dL_law_969 ?_
    refine ztop (w := .int 2) (congrArg Value.int (by decide)) ?_
    refine va_sld hx hb hX hbl hbA hS (by unfold vp_in; decide) dL_law_970 ?_
    refine ztop (w := .int (xs 2)) rfl ?_
    refine zgo_i (wr := []) (zrunV (As := [.int (xs 1), .int (xs 2)]) (rest := [.int (-1)]) ⟨hx, hb, hml, hown, ht⟩ (zc_X10_judge_0 l D y a1 (xs 1) (xs 2) w11 w12 w13 w14 w15 w16 w17 w18 w19 w20 w21 w22 w23 w24 w25 w26 w27 w28 w29 w30 w31 w32 w33 w34 w35 w36 w37 w38 w39 w40 w41 w42 w43 w44 w45 w46 w47 w48 w49 w50 w51 w52 w53 w54 w55 w56 w57 w58 w59 w60 w61 w62 w63 w64 w65 w66 w67 w68 w69 w70 w71 w72 w73 w74 w75 w76 w77 w78 w79 w80 w81 a82 w83 w84 w85) (cwV 2 ht (zgV zm_1093 zm_1094 zm_1095 zm_5 zm_1096) rfl rfl rfl (by decide +kernel) ⟨(Nat.le_of_ble_eq_true rfl), (Nat.le_of_ble_eq_true rfl)⟩) hK hE hS hA hW [0, 1] (by decide) rfl 0 rfl rfl rfl rfl hl.1 rfl (Nat.le_of_ble_eq_true rfl) dL_law_971 (Nat.le_of_ble_eq_true rfl) (Nat.le_of_ble_eq_true rfl)) hS hA hW [0, 1] [] rfl rfl (by decide) (by decide) (fun r4_ u H locs hw hW hS => ?_)
    have hW : zPD D _ [] H := hW
    have hw : r4_ = (if (xs 1) < 0 then (-1) else (if 5 < (xs 1) then (-1) else (-5))) := hw
    rw [if_pos c2_] at hw
    subst hw
    refine lv_icmp_eq (tgt := 1340) hx hb dL_law_974 (by decide) (fun c5_ => ?_) (fun c5_ => absurd (by decide) c5_)
    exact zl_end l C0 hS (lv_sub hl [0, 3] rfl)
  · have b6_ : 0 ≤ Int32.toInt (xs 1) ∧ Int32.toInt (xs 1) ≤ 2147483647 := (by have u0 := zbnd (xs 1); have u1 := (not_congr (zi_lt _ _)).mp c2_; have u2 : (0 : Int32).toInt = 0 := (by decide); omega)
    rw [if_neg c2_] at hw
    by_cases c7_ : 5 < (xs 1)
    · have b8_ : 6 ≤ Int32.toInt (xs 1) ∧ Int32.toInt (xs 1) ≤ 2147483647 := (by have u0 := b6_; have u1 := (zi_lt _ _).mp c7_; have u2 : (5 : Int32).toInt = 5 := (by decide); omega)
      rw [if_pos c7_] at hw
      subst hw
      refine lv_aload_n hx hb dL_law_960 rfl (lv_at hl 1 rfl) ?_
      refine lv_aload_n hx hb dL_law_961 rfl (lv_at hl 3 rfl) ?_
      refine lv_iload_n hx hb dL_law_962 rfl (lv_at hl 0 rfl) ?_
      refine lv_iconst (v := 1) hx hb dL_law_963 (by decide) ?_
      refine lv_iadd hx hb dL_law_964 ?_
      refine ztop (w := .int 1) (congrArg Value.int (by decide)) ?_
      refine va_sld hx hb hX hbl hbA hS (by unfold vp_in; decide) dL_law_965 ?_
      refine ztop (w := .int (xs 1)) rfl ?_
      refine lv_aload_n hx hb dL_law_966 rfl (lv_at hl 3 rfl) ?_
      refine lv_iload_n hx hb dL_law_967 rfl (lv_at hl 0 rfl) ?_
      refine lv_iconst (v := 2) hx hb dL_law_968 (by decide) ?_
      refine lv_iadd hx hb dL_law_969 ?_
      refine ztop (w := .int 2) (congrArg Value.int (by decide)) ?_
      refine va_sld hx hb hX hbl hbA hS (by unfold vp_in; decide) dL_law_970 ?_
      refine ztop (w := .int (xs 2)) rfl ?_
      refine zgo_i (wr := []) (zrunV (As := [.int (xs 1), .int (xs 2)]) (rest := [.int (-1)]) ⟨hx, hb, hml, hown, ht⟩ (zc_X10_judge_0 l D y a1 (xs 1) (xs 2) w11 w12 w13 w14 w15 w16 w17 w18 w19 w20 w21 w22 w23 w24 w25 w26 w27 w28 w29 w30 w31 w32 w33 w34 w35 w36 w37 w38 w39 w40 w41 w42 w43 w44 w45 w46 w47 w48 w49 w50 w51 w52 w53 w54 w55 w56 w57 w58 w59 w60 w61 w62 w63 w64 w65 w66 w67 w68 w69 w70 w71 w72 w73 w74 w75 w76 w77 w78 w79 w80 w81 a82 w83 w84 w85) (cwV 2 ht (zgV zm_1093 zm_1094 zm_1095 zm_5 zm_1096) rfl rfl rfl (by decide +kernel) ⟨(Nat.le_of_ble_eq_true rfl), (Nat.le_of_ble_eq_true rfl)⟩) hK hE hS hA hW [0, 1] (by decide) rfl 0 rfl rfl rfl rfl hl.1 rfl (Nat.le_of_ble_eq_true rfl) dL_law_971 (Nat.le_of_ble_eq_true rfl) (Nat.le_of_ble_eq_true rfl)) hS hA hW [0, 1] [] rfl rfl (by decide) (by decide) (fun r9_ u H locs hw hW hS => ?_)
      have hW : zPD D _ [] H := hW
      have hw : r9_ = (if (xs 1) < 0 then (-1) else (if 5 < (xs 1) then (-1) else (-5))) := hw
      rw [if_neg c2_] at hw
      rw [if_pos c7_] at hw
      subst hw
      refine lv_icmp_eq (tgt := 1340) hx hb dL_law_974 (by decide) (fun c10_ => ?_) (fun c10_ => absurd (by decide) c10_)
      exact zl_end l C0 hS (lv_sub hl [0, 3] rfl)
    · have b11_ : 0 ≤ Int32.toInt (xs 1) ∧ Int32.toInt (xs 1) ≤ 5 := (by have u0 := b6_; have u1 := (not_congr (zi_lt _ _)).mp c7_; have u2 : (5 : Int32).toInt = 5 := (by decide); omega)
      rw [if_neg c7_] at hw
      subst hw
      refine lv_aload_n hx hb dL_law_960 rfl (lv_at hl 1 rfl) ?_
      refine lv_aload_n hx hb dL_law_961 rfl (lv_at hl 3 rfl) ?_
      refine lv_iload_n hx hb dL_law_962 rfl (lv_at hl 0 rfl) ?_
      refine lv_iconst (v := 1) hx hb dL_law_963 (by decide) ?_
      refine lv_iadd hx hb dL_law_964 ?_
      refine ztop (w := .int 1) (congrArg Value.int (by decide)) ?_
      refine va_sld hx hb hX hbl hbA hS (by unfold vp_in; decide) dL_law_965 ?_
      refine ztop (w := .int (xs 1)) rfl ?_
      refine lv_aload_n hx hb dL_law_966 rfl (lv_at hl 3 rfl) ?_
      refine lv_iload_n hx hb dL_law_967 rfl (lv_at hl 0 rfl) ?_
      refine lv_iconst (v := 2) hx hb dL_law_968 (by decide) ?_
      refine lv_iadd hx hb dL_law_969 ?_
      refine ztop (w := .int 2) (congrArg Value.int (by decide)) ?_
      refine va_sld hx hb hX hbl hbA hS (by unfold vp_in; decide) dL_law_970 ?_
      refine ztop (w := .int (xs 2)) rfl ?_
      refine zgo_i (wr := []) (zrunV (As := [.int (xs 1), .int (xs 2)]) (rest := [.int (-5)]) ⟨hx, hb, hml, hown, ht⟩ (zc_X10_judge_0 l D y a1 (xs 1) (xs 2) w11 w12 w13 w14 w15 w16 w17 w18 w19 w20 w21 w22 w23 w24 w25 w26 w27 w28 w29 w30 w31 w32 w33 w34 w35 w36 w37 w38 w39 w40 w41 w42 w43 w44 w45 w46 w47 w48 w49 w50 w51 w52 w53 w54 w55 w56 w57 w58 w59 w60 w61 w62 w63 w64 w65 w66 w67 w68 w69 w70 w71 w72 w73 w74 w75 w76 w77 w78 w79 w80 w81 a82 w83 w84 w85) (cwV 2 ht (zgV zm_1093 zm_1094 zm_1095 zm_5 zm_1096) rfl rfl rfl (by decide +kernel) ⟨(Nat.le_of_ble_eq_true rfl), (Nat.le_of_ble_eq_true rfl)⟩) hK hE hS hA hW [0, 1] (by decide) rfl 0 rfl rfl rfl rfl hl.1 rfl (Nat.le_of_ble_eq_true rfl) dL_law_971 (Nat.le_of_ble_eq_true rfl) (Nat.le_of_ble_eq_true rfl)) hS hA hW [0, 1] [] rfl rfl (by decide) (by decide) (fun r12_ u H locs hw hW hS => ?_)
      have hW : zPD D _ [] H := hW
      have hw : r12_ = (if (xs 1) < 0 then (-1) else (if 5 < (xs 1) then (-1) else (-5))) := hw
      rw [if_neg c2_] at hw
      rw [if_neg c7_] at hw
      subst hw
      refine lv_icmp_eq (tgt := 1340) hx hb dL_law_974 (by decide) (fun c13_ => ?_) (fun c13_ => absurd (by decide) c13_)
      exact zl_end l C0 hS (lv_sub hl [0, 3] rfl)
set_option maxHeartbeats 8000000 in
set_option maxRecDepth 100000 in
theorem zl_case_29 {p : Program} {e : Env} {s : State} {m : MethodId} {below : List Frame} {meth : Method} {c : Code} (l : Launch) {b : Nat} {xs : Nat → Int32} (C0 : lw_At p s m meth c b 6 xs) (D : va_G) (y : Nat → ClassId) (a0 : Nat) (a1 : Nat) (w2 : Value) (w3 : Value) (w4 : Value) (a5 : Nat) (a6 : Nat) (w7 : Value) (w8 : Value) (w9 : Value) (a10 : Nat) (a11 : Nat) (a12 : Nat) (a13 : Nat) (a14 : Nat) (a15 : Nat) (a16 : Nat) (w17 : Value) (w18 : Value) (w19 : Value) (w20 : Value) (w21 : Value) (w22 : Value) (w23 : Value) (w24 : Value) (w25 : Value) (w26 : Value) (w27 : Value) (w28 : Value) (w29 : Value) (w30 : Value) (w31 : Value) (w32 : Value) (w33 : Value) (w34 : Value) (w35 : Value) (w36 : Value) (w37 : Value) (w38 : Value) (a39 : Nat) (w40 : Value) (a41 : Nat) (a42 : Nat) (a43 : Nat) (a44 : Nat) (a45 : Nat) (a46 : Nat) (a47 : Nat) (a48 : Nat) (a49 : Nat) (a50 : Nat) (a51 : Nat) (a52 : Nat) (a53 : Nat) (a54 : Nat) (a55 : Nat) (a56 : Nat) (w57 : Value) (w58 : Value) (w59 : Value) (w60 : Value) (w61 : Value) (w62 : Value) (w63 : Value) (a64 : Nat) (a65 : Nat) (a66 : Nat) (a67 : Nat) (w68 : Value) (a69 : Nat) (a70 : Nat) (a71 : Nat) (a72 : Nat) (w73 : Value) (w74 : Value) (w75 : Value) (w76 : Value) (w77 : Value) (w78 : Value) (w79 : Value) (w80 : Value) (w81 : Value) (w82 : Value) (w83 : Value) (w84 : Value) (hK : zK D y s) (hE : zE y (fun q : Nat => s.heap.size ≤ q) s s.heap) {H : Heap} {locs : List Loc} {ls : Array Slot} (hS : va_S (fun q : Nat => s.heap.size ≤ q) s.heap H locs) (hW : zPD D (fun q : Nat => s.heap.size ≤ q) [(a0, .inr (8, [w2, w3, w4, .ref a5, .ref a6, .int 0, w7, w8, w9])), (a1, .inr (9, [.int 0, .int 0, .int 0, .int 20, .int 0, .int 0, .int 0, .ref a10, .ref a11, .ref a12, .ref a13, .ref a14, .ref a15, .ref a16, w17, .int (-1), w18, w19, w20, w21, w22, w23, w24, w25, w26, w27, w28, w29, w30, w31, w32, w33, w34, w35, w36, w37, w38, .int 0, .ref a39, w40, .int 0, .ref a41, .ref a42, .int 0, .ref a43, .ref a44, .int 0, .int (-1), .int 0, .int 0, .int 0, .int 20, .int 0, .int 0, .int 0, .int 0, .int 0, .int 0, .ref a45, .ref a46, .ref a47, .ref a48, .ref a49, .ref a50, .ref a51, .ref a52, .ref a53, .ref a54, .ref a55, .ref a56, w57, w58, w59, w60, w61, w62])), (a5, .inr (6, [w63, .int 0, .int 20, .int 0, .int 0, .int 0, .int 0, .int 0, .ref a64, .ref a65, .ref a66, .ref a67])), (a6, .inr (6, [w68, .int 0, .int 20, .int 0, .int 0, .int 0, .int 0, .int 0, .ref a69, .ref a70, .ref a71, .ref a72])), (a10, .inl (y 0, 7, .inl (fun _ => 0))), (a11, .inl (y 0, 7, .inl (fun _ => 0))), (a12, .inl (y 0, 7, .inl (fun _ => 0))), (a13, .inl (y 0, 7, .inl (fun _ => 0))), (a14, .inl (y 0, 7, .inl (fun _ => 0))), (a15, .inl (y 0, 28, .inl (fun _ => 0))), (a16, .inl (y 2, 7, .inl (fun _ => 0))), (a39, .inl (y 0, 7, .inl (fun _ => 0))), (a41, .inl (y 0, 6, .inl (fun _ => 0))), (a42, .inl (y 0, 6, .inl (fun _ => 0))), (a43, .inl (y 0, 8, .inl (fun _ => 0))), (a44, .inl (y 0, 8, .inl (fun _ => 0))), (a45, .inl (y 0, 7, .inl (fun _ => 0))), (a46, .inl (y 0, 7, .inl (fun _ => 0))), (a47, .inl (y 0, 7, .inl (fun _ => 0))), (a48, .inl (y 0, 7, .inl (fun _ => 0))), (a49, .inl (y 0, 7, .inl (fun _ => 0))), (a50, .inl (y 0, 28, .inl (fun _ => 0))), (a51, .inl (y 0, 7, .inl (fun _ => 0))), (a52, .inl (y 0, 6, .inl (fun _ => 0))), (a53, .inl (y 0, 6, .inl (fun _ => 0))), (a54, .inl (y 0, 8, .inl (fun _ => 0))), (a55, .inl (y 0, 8, .inl (fun _ => 0))), (a56, .inl (y 2, 7, .inl (fun _ => 0))), (a65, .inr (5, [.int 0, w73, w74])), (a66, .inr (5, [.int 0, w75, w76])), (a67, .inr (5, [.int 0, w77, w78])), (a70, .inr (5, [.int 0, w79, w80])), (a71, .inr (5, [.int 0, w81, w82])), (a72, .inr (5, [.int 0, w83, w84]))] H) (hl : lv_has ls 4 [(3, .int 0), (2, .ref a1), (1, .ref a0), (0, .ref b)]) : W p l e room_1 s m #[Value.ref b] below meth c H locs 1000 20000 (lw_Z below #[Value.ref b] s) (F0 m 979 ls []) := by
  obtain ⟨hx, hb, hr, hml, hown, hts, hX, hbl, hlocks, hgv⟩ := id C0
  have ht : ∀ w ∈ zT, w.before #[Value.ref b] s = true := fun w h => hts w (zgin w h).1
  have hown : s.vm.findClass RL = some m.cls := hown
  have hA : ∀ q : Nat, s.heap.size ≤ q → (fun q : Nat => s.heap.size ≤ q) q := fun _ h => h
  have hbA : ¬ (fun q : Nat => s.heap.size ≤ q) b := Nat.not_le.mpr hbl
  refine lv_aload_n hx hb dL_law_979 rfl (lv_at hl 2 rfl) ?_
  refine zgo_i (wr := [(a1, .inr (9, [.int 0, .int 0, .int 0, .int 20, .int 0, .int 0, .int 0, .ref a10, .ref a11, .ref a12, .ref a13, .ref a14, .ref a15, .ref a16, w17, .int (-1), w18, w19, w20, w21, w22, w23, w24, w25, w26, w27, w28, w29, w30, w31, w32, w33, w34, w35, w36, w37, w38, .int 0, .ref a39, w40, .int 0, .ref a41, .ref a42, .int 0, .ref a43, .ref a44, .int 0, .int (-1), .int 0, .int 0, .int 0, .int 20, .int 0, .int 0, .int 0, .int 0, .int 0, .int 0, .ref a45, .ref a46, .ref a47, .ref a48, .ref a49, .ref a50, .ref a51, .ref a52, .ref a53, .ref a54, .ref a55, .ref a56, w57, w58, w59, w60, w61, w62])), (a10, .inl (y 0, 7, .inl (fun _ => 0))), (a11, .inl (y 0, 7, .inl (fun _ => 0))), (a12, .inl (y 0, 7, .inl (fun _ => 0))), (a13, .inl (y 0, 7, .inl (fun _ => 0))), (a14, .inl (y 0, 7, .inl (fun _ => 0))), (a15, .inl (y 0, 28, .inl (fun _ => 0))), (a16, .inl (y 2, 7, .inl (fun _ => 0))), (a39, .inl (y 0, 7, .inl (fun _ => 0))), (a41, .inl (y 0, 6, .inl (fun _ => 0))), (a42, .inl (y 0, 6, .inl (fun _ => 0))), (a43, .inl (y 0, 8, .inl (fun _ => 0))), (a44, .inl (y 0, 8, .inl (fun _ => 0))), (a45, .inl (y 0, 7, .inl (fun _ => 0))), (a46, .inl (y 0, 7, .inl (fun _ => 0))), (a47, .inl (y 0, 7, .inl (fun _ => 0))), (a48, .inl (y 0, 7, .inl (fun _ => 0))), (a49, .inl (y 0, 7, .inl (fun _ => 0))), (a50, .inl (y 0, 28, .inl (fun _ => 0))), (a51, .inl (y 0, 7, .inl (fun _ => 0))), (a52, .inl (y 0, 6, .inl (fun _ => 0))), (a53, .inl (y 0, 6, .inl (fun _ => 0))), (a54, .inl (y 0, 8, .inl (fun _ => 0))), (a55, .inl (y 0, 8, .inl (fun _ => 0))), (a56, .inl (y 2, 7, .inl (fun _ => 0)))]) (zrunV (As := []) (rest := []) ⟨hx, hb, hml, hown, ht⟩ (zc_X9_image_0 l D y a0 w2 w3 w4 a5 a6 w7 w8 w9 w63 a64 a65 a66 a67 w68 a69 a70 a71 a72 w73 w74 w75 w76 w77 w78 w79 w80 w81 w82 w83 w84) (cwV 0 ht (zgV zm_1101 zm_1102 zm_1103 zm_2 zm_1104) rfl rfl rfl (by decide +kernel) ⟨(Nat.le_of_ble_eq_true rfl), (Nat.le_of_ble_eq_true rfl)⟩) hK hE hS hA hW [0, 2, 3, 28, 29, 30, 31, 32, 33] (by decide) rfl 0 rfl rfl rfl rfl hl.1 rfl (Nat.le_of_ble_eq_true rfl) dL_law_980 (Nat.le_of_ble_eq_true rfl) (Nat.le_of_ble_eq_true rfl)) hS hA hW [0, 2, 3, 28, 29, 30, 31, 32, 33] [1, 4, 5, 6, 7, 8, 9, 10, 11, 12, 13, 14, 15, 16, 17, 18, 19, 20, 21, 22, 23, 24, 25, 26, 27] rfl rfl (by decide) (by decide) (fun r1_ u H locs hw hW hS => ?_)
  have hW : zPD D _ [(a1, .inr (9, [.int 0, .int 0, .int 0, .int 20, .int 0, .int 0, .int 0, .ref a10, .ref a11, .ref a12, .ref a13, .ref a14, .ref a15, .ref a16, w17, .int (-1), w18, w19, w20, w21, w22, w23, w24, w25, w26, w27, w28, w29, w30, w31, w32, w33, w34, w35, w36, w37, w38, .int 0, .ref a39, w40, .int 0, .ref a41, .ref a42, .int 0, .ref a43, .ref a44, .int 0, .int (-1), .int 0, .int 0, .int 0, .int 20, .int 0, .int 0, .int 0, .int 0, .int 0, .int 0, .ref a45, .ref a46, .ref a47, .ref a48, .ref a49, .ref a50, .ref a51, .ref a52, .ref a53, .ref a54, .ref a55, .ref a56, w57, w58, w59, w60, w61, w62])), (a10, .inl (y 0, 7, .inl (fun _ => 0))), (a11, .inl (y 0, 7, .inl (fun _ => 0))), (a12, .inl (y 0, 7, .inl (fun _ => 0))), (a13, .inl (y 0, 7, .inl (fun _ => 0))), (a14, .inl (y 0, 7, .inl (fun _ => 0))), (a15, .inl (y 0, 28, .inl (fun _ => 0))), (a16, .inl (y 2, 7, .inl (fun _ => 0))), (a39, .inl (y 0, 7, .inl (fun _ => 0))), (a41, .inl (y 0, 6, .inl (fun _ => 0))), (a42, .inl (y 0, 6, .inl (fun _ => 0))), (a43, .inl (y 0, 8, .inl (fun _ => 0))), (a44, .inl (y 0, 8, .inl (fun _ => 0))), (a45, .inl (y 0, 7, .inl (fun _ => 0))), (a46, .inl (y 0, 7, .inl (fun _ => 0))), (a47, .inl (y 0, 7, .inl (fun _ => 0))), (a48, .inl (y 0, 7, .inl (fun _ => 0))), (a49, .inl (y 0, 7, .inl (fun _ => 0))), (a50, .inl (y 0, 28, .inl (fun _ => 0))), (a51, .inl (y 0, 7, .inl (fun _ => 0))), (a52, .inl (y 0, 6, .inl (fun _ => 0))), (a53, .inl (y 0, 6, .inl (fun _ => 0))), (a54, .inl (y 0, 8, .inl (fun _ => 0))), (a55, .inl (y 0, 8, .inl (fun _ => 0))), (a56, .inl (y 2, 7, .inl (fun _ => 0)))] H := hW
  have hw : r1_ = 0 := hw
  subst hw
  refine lv_aload_n hx hb dL_law_983 rfl (lv_at hl 1 rfl) ?_
  refine zgo_i (wr := []) (zrunV (As := []) (rest := [.int 0]) ⟨hx, hb, hml, hown, ht⟩ (zc_X10_image_0 l D y a1 a10 a11 a12 a13 a14 a15 a16 w17 w18 w19 w20 w21 w22 w23 w24 w25 w26 w27 w28 w29 w30 w31 w32 w33 w34 w35 w36 w37 w38 a39 w40 a41 a42 a43 a44 a45 a46 a47 a48 a49 a50 a51 a52 a53 a54 a55 a56 w57 w58 w59 w60 w61 w62) (cwV 0 ht (zgV zm_1119 zm_1120 zm_1121 zm_5 zm_1122) rfl rfl rfl (by decide +kernel) ⟨(Nat.le_of_ble_eq_true rfl), (Nat.le_of_ble_eq_true rfl)⟩) hK hE hS hA hW [0, 1, 2, 3, 4, 5, 6, 7, 8, 9, 10, 11, 12, 13, 14, 15, 16, 17, 18, 19, 20, 21, 22, 23, 24] (by decide) rfl 0 rfl rfl rfl rfl hl.1 rfl (Nat.le_of_ble_eq_true rfl) dL_law_984 (Nat.le_of_ble_eq_true rfl) (Nat.le_of_ble_eq_true rfl)) hS hA hW [0, 1, 2, 3, 4, 5, 6, 7, 8, 9, 10, 11, 12, 13, 14, 15, 16, 17, 18, 19, 20, 21, 22, 23, 24] [] rfl rfl (by decide) (by decide) (fun r2_ u H locs hw hW hS => ?_)
  have hW : zPD D _ [] H := hW
  have hw : r2_ = 0 := hw
  subst hw
  refine lv_icmp_eq (tgt := 1340) hx hb dL_law_987 (by decide) (fun c3_ => ?_) (fun c3_ => absurd (by decide) c3_)
  exact zl_end l C0 hS (lv_sub hl [0, 3] rfl)
set_option maxHeartbeats 8000000 in
set_option maxRecDepth 100000 in
theorem zl_case_30 {p : Program} {e : Env} {s : State} {m : MethodId} {below : List Frame} {meth : Method} {c : Code} (l : Launch) {b : Nat} {xs : Nat → Int32} (C0 : lw_At p s m meth c b 6 xs) (D : va_G) (y : Nat → ClassId) (a0 : Nat) (a1 : Nat) (w2 : Value) (w3 : Value) (w4 : Value) (w5 : Value) (w6 : Value) (w7 : Value) (w8 : Value) (w9 : Value) (w10 : Value) (w11 : Value) (w12 : Value) (w13 : Value) (w14 : Value) (w15 : Value) (w16 : Value) (w17 : Value) (w18 : Value) (w19 : Value) (w20 : Value) (w21 : Value) (w22 : Value) (w23 : Value) (w24 : Value) (w25 : Value) (w26 : Value) (w27 : Value) (w28 : Value) (w29 : Value) (w30 : Value) (w31 : Value) (w32 : Value) (w33 : Value) (w34 : Value) (w35 : Value) (w36 : Value) (w37 : Value) (w38 : Value) (w39 : Value) (w40 : Value) (w41 : Value) (w42 : Value) (w43 : Value) (w44 : Value) (w45 : Value) (w46 : Value) (w47 : Value) (w48 : Value) (w49 : Value) (w50 : Value) (w51 : Value) (w52 : Value) (w53 : Value) (w54 : Value) (w55 : Value) (w56 : Value) (w57 : Value) (w58 : Value) (w59 : Value) (w60 : Value) (w61 : Value) (w62 : Value) (w63 : Value) (w64 : Value) (w65 : Value) (w66 : Value) (w67 : Value) (w68 : Value) (w69 : Value) (w70 : Value) (w71 : Value) (w72 : Value) (w73 : Value) (w74 : Value) (w75 : Value) (w76 : Value) (w77 : Value) (w78 : Value) (w79 : Value) (w80 : Value) (w81 : Value) (w82 : Value) (w83 : Value) (w84 : Value) (hK : zK D y s) (hE : zE y (fun q : Nat => s.heap.size ≤ q) s s.heap) {H : Heap} {locs : List Loc} {ls : Array Slot} (hS : va_S (fun q : Nat => s.heap.size ≤ q) s.heap H locs) (hW : zPD D (fun q : Nat => s.heap.size ≤ q) [(a0, .inr (8, [w2, w3, w4, w5, w6, .int 0, w7, w8, w9])), (a1, .inr (9, [w10, w11, w12, w13, w14, w15, w16, w17, w18, w19, w20, w21, w22, w23, w24, w25, w26, w27, w28, w29, w30, w31, w32, w33, w34, w35, w36, w37, w38, w39, w40, w41, w42, w43, w44, w45, w46, w47, w48, w49, w50, w51, w52, w53, w54, w55, .int 0, w56, w57, w58, w59, w60, w61, w62, w63, w64, w65, w66, w67, w68, w69, w70, w71, w72, w73, w74, w75, w76, w77, w78, w79, w80, w81, w82, w83, w84]))] H) (hl : lv_has ls 4 [(3, .int 0), (2, .ref a1), (1, .ref a0), (0, .ref b)]) : W p l e room_1 s m #[Value.ref b] below meth c H locs 1000 20000 (lw_Z below #[Value.ref b] s) (F0 m 992 ls []) := by
  obtain ⟨hx, hb, hr, hml, hown, hts, hX, hbl, hlocks, hgv⟩ := id C0
  have ht : ∀ w ∈ zT, w.before #[Value.ref b] s = true := fun w h => hts w (zgin w h).1
  have hown : s.vm.findClass RL = some m.cls := hown
  have hA : ∀ q : Nat, s.heap.size ≤ q → (fun q : Nat => s.heap.size ≤ q) q := fun _ h => h
  have hbA : ¬ (fun q : Nat => s.heap.size ≤ q) b := Nat.not_le.mpr hbl
  refine lv_aload_n hx hb dL_law_992 rfl (lv_at hl 2 rfl) ?_
  refine zgo_i (wr := [(a1, .inr (9, [w10, w11, w12, w13, w14, w15, w16, w17, w18, w19, w20, w21, w22, w23, w24, w25, w26, w27, w28, w29, w30, w31, w32, w33, w34, w35, w36, w37, w38, w39, w40, w41, w42, w43, w44, w45, w46, w47, w48, w49, w50, w51, w52, w53, w54, w55, .int 0, w56, w57, w58, w59, w60, w61, w62, w63, w64, w65, w66, w67, w68, w69, w70, w71, w72, w73, w74, w75, w76, w77, w78, w79, w80, w81, w82, w83, w84]))]) (zrunV (As := []) (rest := []) ⟨hx, hb, hml, hown, ht⟩ (zc_X9_undo_0 l D y a0 w2 w3 w4 w5 w6 w7 w8 w9) (cwV 0 ht (zgV zm_1123 zm_1124 zm_1125 zm_2 zm_1126) rfl rfl rfl (by decide +kernel) ⟨(Nat.le_of_ble_eq_true rfl), (Nat.le_of_ble_eq_true rfl)⟩) hK hE hS hA hW [0] (by decide) rfl 0 rfl rfl rfl rfl hl.1 rfl (Nat.le_of_ble_eq_true rfl) dL_law_993 (Nat.le_of_ble_eq_true rfl) (Nat.le_of_ble_eq_true rfl)) hS hA hW [0] [1] rfl rfl (by decide) (by decide) (fun r1_ u H locs hw hW hS => ?_)
  have hW : zPD D _ [(a1, .inr (9, [w10, w11, w12, w13, w14, w15, w16, w17, w18, w19, w20, w21, w22, w23, w24, w25, w26, w27, w28, w29, w30, w31, w32, w33, w34, w35, w36, w37, w38, w39, w40, w41, w42, w43, w44, w45, w46, w47, w48, w49, w50, w51, w52, w53, w54, w55, .int 0, w56, w57, w58, w59, w60, w61, w62, w63, w64, w65, w66, w67, w68, w69, w70, w71, w72, w73, w74, w75, w76, w77, w78, w79, w80, w81, w82, w83, w84]))] H := hW
  have hw : r1_ = (-3) := hw
  subst hw
  refine lv_aload_n hx hb dL_law_996 rfl (lv_at hl 1 rfl) ?_
  refine zgo_i (wr := []) (zrunV (As := []) (rest := [.int (-3)]) ⟨hx, hb, hml, hown, ht⟩ (zc_X10_undo_0 l D y a1 w10 w11 w12 w13 w14 w15 w16 w17 w18 w19 w20 w21 w22 w23 w24 w25 w26 w27 w28 w29 w30 w31 w32 w33 w34 w35 w36 w37 w38 w39 w40 w41 w42 w43 w44 w45 w46 w47 w48 w49 w50 w51 w52 w53 w54 w55 w56 w57 w58 w59 w60 w61 w62 w63 w64 w65 w66 w67 w68 w69 w70 w71 w72 w73 w74 w75 w76 w77 w78 w79 w80 w81 w82 w83 w84) (cwV 0 ht (zgV zm_1127 zm_1128 zm_1129 zm_5 zm_1130) rfl rfl rfl (by decide +kernel) ⟨(Nat.le_of_ble_eq_true rfl), (Nat.le_of_ble_eq_true rfl)⟩) hK hE hS hA hW [0] (by decide) rfl 0 rfl rfl rfl rfl hl.1 rfl (Nat.le_of_ble_eq_true rfl) dL_law_997 (Nat.le_of_ble_eq_true rfl) (Nat.le_of_ble_eq_true rfl)) hS hA hW [0] [] rfl rfl (by decide) (by decide) (fun r2_ u H locs hw hW hS => ?_)
  have hW : zPD D _ [] H := hW
  have hw : r2_ = (-3) := hw
  subst hw
  refine lv_icmp_eq (tgt := 1340) hx hb dL_law_1000 (by decide) (fun c3_ => ?_) (fun c3_ => absurd (by decide) c3_)
  exact zl_end l C0 hS (lv_sub hl [0, 3] rfl)
set_option maxHeartbeats 8000000 in
set_option maxRecDepth 100000 in
theorem zl_case_31 {p : Program} {e : Env} {s : State} {m : MethodId} {below : List Frame} {meth : Method} {c : Code} (l : Launch) {b : Nat} {xs : Nat → Int32} (C0 : lw_At p s m meth c b 6 xs) (D : va_G) (y : Nat → ClassId) (a0 : Nat) (a1 : Nat) (w2 : Value) (w3 : Value) (w4 : Value) (a5 : Nat) (w6 : Value) (w7 : Value) (w8 : Value) (a9 : Nat) (w10 : Value) (w11 : Value) (w12 : Value) (w13 : Value) (w14 : Value) (w15 : Value) (w16 : Value) (w17 : Value) (w18 : Value) (w19 : Value) (w20 : Value) (w21 : Value) (w22 : Value) (w23 : Value) (w24 : Value) (w25 : Value) (w26 : Value) (w27 : Value) (w28 : Value) (w29 : Value) (w30 : Value) (w31 : Value) (w32 : Value) (w33 : Value) (w34 : Value) (w35 : Value) (w36 : Value) (w37 : Value) (w38 : Value) (w39 : Value) (w40 : Value) (w41 : Value) (w42 : Value) (w43 : Value) (w44 : Value) (w45 : Value) (w46 : Value) (w47 : Value) (w48 : Value) (w49 : Value) (w50 : Value) (w51 : Value) (w52 : Value) (w53 : Value) (w54 : Value) (w55 : Value) (w56 : Value) (w57 : Value) (w58 : Value) (w59 : Value) (w60 : Value) (w61 : Value) (w62 : Value) (w63 : Value) (w64 : Value) (w65 : Value) (w66 : Value) (w67 : Value) (w68 : Value) (w69 : Value) (w70 : Value) (w71 : Value) (w72 : Value) (w73 : Value) (w74 : Value) (w75 : Value) (w76 : Value) (w77 : Value) (w78 : Value) (w79 : Value) (w80 : Value) (w81 : Value) (w82 : Value) (w83 : Value) (w84 : Value) (w85 : Value) (w86 : Value) (w87 : Value) (w88 : Value) (w89 : Value) (w90 : Value) (w91 : Value) (w92 : Value) (w93 : Value) (w94 : Value) (w95 : Value) (w96 : Value) (w97 : Value) (w98 : Value) (w99 : Value) (hK : zK D y s) (hE : zE y (fun q : Nat => s.heap.size ≤ q) s s.heap) {H : Heap} {locs : List Loc} {ls : Array Slot} (hS : va_S (fun q : Nat => s.heap.size ≤ q) s.heap H locs) (hW : zPD D (fun q : Nat => s.heap.size ≤ q) [(a0, .inr (8, [w2, w3, w4, .ref a5, w6, w7, w8, .ref a9, w10])), (a1, .inr (9, [.int 0, w11, w12, w13, w14, w15, w16, w17, w18, w19, w20, w21, w22, w23, w24, w25, w26, w27, w28, w29, w30, w31, w32, w33, w34, w35, w36, w37, w38, w39, w40, w41, w42, w43, w44, w45, w46, w47, w48, w49, w50, w51, w52, w53, w54, w55, w56, w57, w58, w59, w60, w61, w62, w63, w64, w65, w66, w67, w68, w69, w70, w71, w72, w73, w74, w75, w76, w77, w78, w79, .int 0, w80, w81, w82, w83, w84])), (a5, .inr (6, [w85, .int 0, w86, w87, w88, w89, w90, w91, w92, w93, w94, w95])), (a9, .inr (0, [w96, .int 0, w97, w98, w99]))] H) (hl : lv_has ls 4 [(3, .int 0), (2, .ref a1), (1, .ref a0), (0, .ref b)]) : W p l e room_1 s m #[Value.ref b] below meth c H locs 1000 20000 (lw_Z below #[Value.ref b] s) (F0 m 1005 ls []) := by
  obtain ⟨hx, hb, hr, hml, hown, hts, hX, hbl, hlocks, hgv⟩ := id C0
  have ht : ∀ w ∈ zT, w.before #[Value.ref b] s = true := fun w h => hts w (zgin w h).1
  have hown : s.vm.findClass RL = some m.cls := hown
  have hA : ∀ q : Nat, s.heap.size ≤ q → (fun q : Nat => s.heap.size ≤ q) q := fun _ h => h
  have hbA : ¬ (fun q : Nat => s.heap.size ≤ q) b := Nat.not_le.mpr hbl
  refine lv_aload_n hx hb dL_law_1005 rfl (lv_at hl 2 rfl) ?_
  refine lv_aload_n hx hb dL_law_1006 rfl (lv_at hl 3 rfl) ?_
  refine lv_iload_n hx hb dL_law_1007 rfl (lv_at hl 0 rfl) ?_
  refine lv_iconst (v := 1) hx hb dL_law_1008 (by decide) ?_
  refine lv_iadd hx hb dL_law_1009 ?_
  refine ztop (w := .int 1) (congrArg Value.int (by decide)) ?_
  refine va_sld hx hb hX hbl hbA hS (by unfold vp_in; decide) dL_law_1010 ?_
  refine ztop (w := .int (xs 1)) rfl ?_
  refine lv_aload_n hx hb dL_law_1011 rfl (lv_at hl 3 rfl) ?_
  refine lv_iload_n hx hb dL_law_1012 rfl (lv_at hl 0 rfl) ?_
  refine lv_iconst (v := 2) hx hb dL_law_1013 (by decide) ?_
  refine lv_iadd hx hb dL_law_1014 ?_
  refine ztop (w := .int 2) (congrArg Value.int (by decide)) ?_
  refine va_sld hx hb hX hbl hbA hS (by unfold vp_in; decide) dL_law_1015 ?_
  refine ztop (w := .int (xs 2)) rfl ?_
  refine lv_aload_n hx hb dL_law_1016 rfl (lv_at hl 3 rfl) ?_
  refine lv_iload_n hx hb dL_law_1017 rfl (lv_at hl 0 rfl) ?_
  refine lv_iconst (v := 3) hx hb dL_law_1018 (by decide) ?_
  refine lv_iadd hx hb dL_law_1019 ?_
  refine ztop (w := .int 3) (congrArg Value.int (by decide)) ?_
  refine va_sld hx hb hX hbl hbA hS (by unfold vp_in; decide) dL_law_1020 ?_
  refine ztop (w := .int (xs 3)) rfl ?_
  refine zgo_i (wr := [(a1, .inr (9, [.int 0, w11, w12, w13, w14, w15, w16, w17, w18, w19, w20, w21, w22, w23, w24, w25, w26, w27, w28, w29, w30, w31, w32, w33, w34, w35, w36, w37, w38, w39, w40, w41, w42, w43, w44, w45, w46, w47, w48, w49, w50, w51, w52, w53, w54, w55, w56, w57, w58, w59, w60, w61, w62, w63, w64, w65, w66, w67, w68, w69, w70, w71, w72, w73, w74, w75, w76, w77, w78, w79, .int 0, w80, w81, w82, w83, w84]))]) (zrunV (As := [.int (xs 1), .int (xs 2), .int (xs 3)]) (rest := []) ⟨hx, hb, hml, hown, ht⟩ (zc_X9_act_0 l D y a0 (xs 1) (xs 2) (xs 3) w2 w3 w4 a5 w6 w7 w8 a9 w10 w85 w86 w87 w88 w89 w90 w91 w92 w93 w94 w95 w96 w97 w98 w99) (cwV 3 ht (zgV zm_1131 zm_1132 zm_1133 zm_2 zm_1134) rfl rfl rfl (by decide +kernel) ⟨(Nat.le_of_ble_eq_true rfl), (Nat.le_of_ble_eq_true rfl)⟩) hK hE hS hA hW [0, 2, 3] (by decide) rfl 0 rfl rfl rfl rfl hl.1 rfl (Nat.le_of_ble_eq_true rfl) dL_law_1021 (Nat.le_of_ble_eq_true rfl) (Nat.le_of_ble_eq_true rfl)) hS hA hW [0, 2, 3] [1] rfl rfl (by decide) (by decide) (fun r1_ u H locs hw hW hS => ?_)
  have hW : zPD D _ [(a1, .inr (9, [.int 0, w11, w12, w13, w14, w15, w16, w17, w18, w19, w20, w21, w22, w23, w24, w25, w26, w27, w28, w29, w30, w31, w32, w33, w34, w35, w36, w37, w38, w39, w40, w41, w42, w43, w44, w45, w46, w47, w48, w49, w50, w51, w52, w53, w54, w55, w56, w57, w58, w59, w60, w61, w62, w63, w64, w65, w66, w67, w68, w69, w70, w71, w72, w73, w74, w75, w76, w77, w78, w79, .int 0, w80, w81, w82, w83, w84]))] H := hW
  have hw : r1_ = 0 := hw
  subst hw
  refine lv_aload_n hx hb dL_law_1024 rfl (lv_at hl 1 rfl) ?_
  refine lv_aload_n hx hb dL_law_1025 rfl (lv_at hl 3 rfl) ?_
  refine lv_iload_n hx hb dL_law_1026 rfl (lv_at hl 0 rfl) ?_
  refine lv_iconst (v := 1) hx hb dL_law_1027 (by decide) ?_
  refine lv_iadd hx hb dL_law_1028 ?_
  refine ztop (w := .int 1) (congrArg Value.int (by decide)) ?_
  refine va_sld hx hb hX hbl hbA hS (by unfold vp_in; decide) dL_law_1029 ?_
  refine ztop (w := .int (xs 1)) rfl ?_
  refine lv_aload_n hx hb dL_law_1030 rfl (lv_at hl 3 rfl) ?_
  refine lv_iload_n hx hb dL_law_1031 rfl (lv_at hl 0 rfl) ?_
  refine lv_iconst (v := 2) hx hb dL_law_1032 (by decide) ?_
  refine lv_iadd hx hb dL_law_1033 ?_
  refine ztop (w := .int 2) (congrArg Value.int (by decide)) ?_
  refine va_sld hx hb hX hbl hbA hS (by unfold vp_in; decide) dL_law_1034 ?_
  refine ztop (w := .int (xs 2)) rfl ?_
  refine lv_aload_n hx hb dL_law_1035 rfl (lv_at hl 3 rfl) ?_
  refine lv_iload_n hx hb dL_law_1036 rfl (lv_at hl 0 rfl) ?_
  refine lv_iconst (v := 3) hx hb dL_law_1037 (by decide) ?_
  refine lv_iadd hx hb dL_law_1038 ?_
  refine ztop (w := .int 3) (congrArg Value.int (by decide)) ?_
  refine va_sld hx hb hX hbl hbA hS (by unfold vp_in; decide) dL_law_1039 ?_
  refine ztop (w := .int (xs 3)) rfl ?_
  refine zgo_i (wr := []) (zrunV (As := [.int (xs 1), .int (xs 2), .int (xs 3)]) (rest := [.int 0]) ⟨hx, hb, hml, hown, ht⟩ (zc_X10_act_0 l D y a1 (xs 1) (xs 2) (xs 3) w11 w12 w13 w14 w15 w16 w17 w18 w19 w20 w21 w22 w23 w24 w25 w26 w27 w28 w29 w30 w31 w32 w33 w34 w35 w36 w37 w38 w39 w40 w41 w42 w43 w44 w45 w46 w47 w48 w49 w50 w51 w52 w53 w54 w55 w56 w57 w58 w59 w60 w61 w62 w63 w64 w65 w66 w67 w68 w69 w70 w71 w72 w73 w74 w75 w76 w77 w78 w79 w80 w81 w82 w83 w84) (cwV 3 ht (zgV zm_1158 zm_1159 zm_1160 zm_5 zm_1161) rfl rfl rfl (by decide +kernel) ⟨(Nat.le_of_ble_eq_true rfl), (Nat.le_of_ble_eq_true rfl)⟩) hK hE hS hA hW [0] (by decide) rfl 0 rfl rfl rfl rfl hl.1 rfl (Nat.le_of_ble_eq_true rfl) dL_law_1040 (Nat.le_of_ble_eq_true rfl) (Nat.le_of_ble_eq_true rfl)) hS hA hW [0] [] rfl rfl (by decide) (by decide) (fun r2_ u H locs hw hW hS => ?_)
  have hW : zPD D _ [] H := hW
  have hw : r2_ = 0 := hw
  subst hw
  refine lv_icmp_eq (tgt := 1340) hx hb dL_law_1043 (by decide) (fun c3_ => ?_) (fun c3_ => absurd (by decide) c3_)
  exact zl_end l C0 hS (lv_sub hl [0, 3] rfl)
set_option maxHeartbeats 8000000 in
set_option maxRecDepth 100000 in
theorem zl_case_32 {p : Program} {e : Env} {s : State} {m : MethodId} {below : List Frame} {meth : Method} {c : Code} (l : Launch) {b : Nat} {xs : Nat → Int32} (C0 : lw_At p s m meth c b 6 xs) (D : va_G) (y : Nat → ClassId) (a0 : Nat) (a1 : Nat) (w2 : Value) (w3 : Value) (w4 : Value) (w5 : Value) (w6 : Value) (w7 : Value) (w8 : Value) (a9 : Nat) (w10 : Value) (w11 : Value) (w12 : Value) (w13 : Value) (w14 : Value) (w15 : Value) (w16 : Value) (w17 : Value) (w18 : Value) (w19 : Value) (w20 : Value) (w21 : Value) (w22 : Value) (w23 : Value) (w24 : Value) (w25 : Value) (w26 : Value) (w27 : Value) (w28 : Value) (w29 : Value) (w30 : Value) (w31 : Value) (w32 : Value) (w33 : Value) (w34 : Value) (w35 : Value) (w36 : Value) (w37 : Value) (w38 : Value) (w39 : Value) (w40 : Value) (w41 : Value) (w42 : Value) (w43 : Value) (w44 : Value) (w45 : Value) (w46 : Value) (w47 : Value) (w48 : Value) (w49 : Value) (w50 : Value) (w51 : Value) (w52 : Value) (w53 : Value) (w54 : Value) (w55 : Value) (w56 : Value) (w57 : Value) (w58 : Value) (w59 : Value) (w60 : Value) (w61 : Value) (w62 : Value) (w63 : Value) (w64 : Value) (w65 : Value) (w66 : Value) (w67 : Value) (w68 : Value) (w69 : Value) (w70 : Value) (w71 : Value) (w72 : Value) (w73 : Value) (w74 : Value) (w75 : Value) (w76 : Value) (w77 : Value) (w78 : Value) (w79 : Value) (w80 : Value) (w81 : Value) (w82 : Value) (w83 : Value) (w84 : Value) (w85 : Value) (w86 : Value) (w87 : Value) (w88 : Value) (w89 : Value) (hK : zK D y s) (hE : zE y (fun q : Nat => s.heap.size ≤ q) s s.heap) {H : Heap} {locs : List Loc} {ls : Array Slot} (hS : va_S (fun q : Nat => s.heap.size ≤ q) s.heap H locs) (hW : zPD D (fun q : Nat => s.heap.size ≤ q) [(a0, .inr (8, [w2, w3, w4, w5, w6, w7, w8, .ref a9, w10])), (a1, .inr (9, [w11, w12, w13, w14, w15, w16, w17, w18, w19, w20, w21, w22, w23, w24, w25, w26, w27, w28, w29, w30, w31, w32, w33, w34, w35, w36, w37, w38, w39, w40, w41, w42, w43, w44, w45, w46, w47, w48, w49, w50, w51, w52, w53, w54, w55, w56, w57, w58, w59, w60, w61, w62, w63, w64, w65, w66, w67, w68, w69, w70, w71, w72, w73, w74, w75, w76, w77, w78, w79, w80, .int 0, w81, w82, w83, w84, w85])), (a9, .inr (0, [w86, .int 0, w87, w88, w89]))] H) (hl : lv_has ls 4 [(3, .int 0), (2, .ref a1), (1, .ref a0), (0, .ref b)]) : W p l e room_1 s m #[Value.ref b] below meth c H locs 1000 20000 (lw_Z below #[Value.ref b] s) (F0 m 1048 ls []) := by
  obtain ⟨hx, hb, hr, hml, hown, hts, hX, hbl, hlocks, hgv⟩ := id C0
  have ht : ∀ w ∈ zT, w.before #[Value.ref b] s = true := fun w h => hts w (zgin w h).1
  have hown : s.vm.findClass RL = some m.cls := hown
  have hA : ∀ q : Nat, s.heap.size ≤ q → (fun q : Nat => s.heap.size ≤ q) q := fun _ h => h
  have hbA : ¬ (fun q : Nat => s.heap.size ≤ q) b := Nat.not_le.mpr hbl
  refine lv_aload_n hx hb dL_law_1048 rfl (lv_at hl 2 rfl) ?_
  refine lv_aload_n hx hb dL_law_1049 rfl (lv_at hl 3 rfl) ?_
  refine lv_iload_n hx hb dL_law_1050 rfl (lv_at hl 0 rfl) ?_
  refine lv_iconst (v := 1) hx hb dL_law_1051 (by decide) ?_
  refine lv_iadd hx hb dL_law_1052 ?_
  refine ztop (w := .int 1) (congrArg Value.int (by decide)) ?_
  refine va_sld hx hb hX hbl hbA hS (by unfold vp_in; decide) dL_law_1053 ?_
  refine ztop (w := .int (xs 1)) rfl ?_
  refine zgo_i (wr := [(a1, .inr (9, [w11, w12, w13, w14, w15, w16, w17, w18, w19, w20, w21, w22, w23, w24, w25, w26, w27, w28, w29, w30, w31, w32, w33, w34, w35, w36, w37, w38, w39, w40, w41, w42, w43, w44, w45, w46, w47, w48, w49, w50, w51, w52, w53, w54, w55, w56, w57, w58, w59, w60, w61, w62, w63, w64, w65, w66, w67, w68, w69, w70, w71, w72, w73, w74, w75, w76, w77, w78, w79, w80, .int 0, w81, w82, w83, w84, w85]))]) (zrunV (As := [.int (xs 1)]) (rest := []) ⟨hx, hb, hml, hown, ht⟩ (zc_X9_trace_0 l D y a0 (xs 1) w2 w3 w4 w5 w6 w7 w8 a9 w10 w86 w87 w88 w89) (cwV 1 ht (zgV zm_1194 zm_1195 zm_1196 zm_2 zm_1197) rfl rfl rfl (by decide +kernel) ⟨(Nat.le_of_ble_eq_true rfl), (Nat.le_of_ble_eq_true rfl)⟩) hK hE hS hA hW [0, 2] (by decide) rfl 0 rfl rfl rfl rfl hl.1 rfl (Nat.le_of_ble_eq_true rfl) dL_law_1054 (Nat.le_of_ble_eq_true rfl) (Nat.le_of_ble_eq_true rfl)) hS hA hW [0, 2] [1] rfl rfl (by decide) (by decide) (fun r1_ u H locs hw hW hS => ?_)
  have hW : zPD D _ [(a1, .inr (9, [w11, w12, w13, w14, w15, w16, w17, w18, w19, w20, w21, w22, w23, w24, w25, w26, w27, w28, w29, w30, w31, w32, w33, w34, w35, w36, w37, w38, w39, w40, w41, w42, w43, w44, w45, w46, w47, w48, w49, w50, w51, w52, w53, w54, w55, w56, w57, w58, w59, w60, w61, w62, w63, w64, w65, w66, w67, w68, w69, w70, w71, w72, w73, w74, w75, w76, w77, w78, w79, w80, .int 0, w81, w82, w83, w84, w85]))] H := hW
  have hw : r1_ = (-1) := hw
  subst hw
  refine lv_aload_n hx hb dL_law_1057 rfl (lv_at hl 1 rfl) ?_
  refine lv_aload_n hx hb dL_law_1058 rfl (lv_at hl 3 rfl) ?_
  refine lv_iload_n hx hb dL_law_1059 rfl (lv_at hl 0 rfl) ?_
  refine lv_iconst (v := 1) hx hb dL_law_1060 (by decide) ?_
  refine lv_iadd hx hb dL_law_1061 ?_
  refine ztop (w := .int 1) (congrArg Value.int (by decide)) ?_
  refine va_sld hx hb hX hbl hbA hS (by unfold vp_in; decide) dL_law_1062 ?_
  refine ztop (w := .int (xs 1)) rfl ?_
  refine zgo_i (wr := []) (zrunV (As := [.int (xs 1)]) (rest := [.int (-1)]) ⟨hx, hb, hml, hown, ht⟩ (zc_X10_trace_0 l D y a1 (xs 1) w11 w12 w13 w14 w15 w16 w17 w18 w19 w20 w21 w22 w23 w24 w25 w26 w27 w28 w29 w30 w31 w32 w33 w34 w35 w36 w37 w38 w39 w40 w41 w42 w43 w44 w45 w46 w47 w48 w49 w50 w51 w52 w53 w54 w55 w56 w57 w58 w59 w60 w61 w62 w63 w64 w65 w66 w67 w68 w69 w70 w71 w72 w73 w74 w75 w76 w77 w78 w79 w80 w81 w82 w83 w84 w85) (cwV 1 ht (zgV zm_1199 zm_1200 zm_1201 zm_5 zm_1202) rfl rfl rfl (by decide +kernel) ⟨(Nat.le_of_ble_eq_true rfl), (Nat.le_of_ble_eq_true rfl)⟩) hK hE hS hA hW [0] (by decide) rfl 0 rfl rfl rfl rfl hl.1 rfl (Nat.le_of_ble_eq_true rfl) dL_law_1063 (Nat.le_of_ble_eq_true rfl) (Nat.le_of_ble_eq_true rfl)) hS hA hW [0] [] rfl rfl (by decide) (by decide) (fun r2_ u H locs hw hW hS => ?_)
  have hW : zPD D _ [] H := hW
  have hw : r2_ = (-1) := hw
  subst hw
  refine lv_icmp_eq (tgt := 1340) hx hb dL_law_1066 (by decide) (fun c3_ => ?_) (fun c3_ => absurd (by decide) c3_)
  exact zl_end l C0 hS (lv_sub hl [0, 3] rfl)
set_option maxHeartbeats 8000000 in
set_option maxRecDepth 100000 in
theorem zl_case_33 {p : Program} {e : Env} {s : State} {m : MethodId} {below : List Frame} {meth : Method} {c : Code} (l : Launch) {b : Nat} {xs : Nat → Int32} (C0 : lw_At p s m meth c b 6 xs) (D : va_G) (y : Nat → ClassId) (a0 : Nat) (a1 : Nat) (w2 : Value) (w3 : Value) (w4 : Value) (a5 : Nat) (w6 : Value) (w7 : Value) (w8 : Value) (w9 : Value) (w10 : Value) (w11 : Value) (w12 : Value) (w13 : Value) (w14 : Value) (w15 : Value) (w16 : Value) (w17 : Value) (w18 : Value) (w19 : Value) (w20 : Value) (w21 : Value) (w22 : Value) (w23 : Value) (w24 : Value) (w25 : Value) (w26 : Value) (w27 : Value) (w28 : Value) (w29 : Value) (w30 : Value) (w31 : Value) (w32 : Value) (w33 : Value) (w34 : Value) (w35 : Value) (w36 : Value) (w37 : Value) (w38 : Value) (w39 : Value) (w40 : Value) (w41 : Value) (w42 : Value) (w43 : Value) (w44 : Value) (w45 : Value) (w46 : Value) (w47 : Value) (w48 : Value) (w49 : Value) (w50 : Value) (w51 : Value) (w52 : Value) (w53 : Value) (w54 : Value) (w55 : Value) (w56 : Value) (w57 : Value) (w58 : Value) (w59 : Value) (w60 : Value) (w61 : Value) (w62 : Value) (w63 : Value) (w64 : Value) (w65 : Value) (w66 : Value) (w67 : Value) (w68 : Value) (w69 : Value) (w70 : Value) (w71 : Value) (w72 : Value) (w73 : Value) (w74 : Value) (w75 : Value) (w76 : Value) (w77 : Value) (w78 : Value) (w79 : Value) (w80 : Value) (w81 : Value) (w82 : Value) (w83 : Value) (w84 : Value) (w85 : Value) (w86 : Value) (w87 : Value) (w88 : Value) (w89 : Value) (w90 : Value) (w91 : Value) (w92 : Value) (w93 : Value) (w94 : Value) (w95 : Value) (w96 : Value) (hK : zK D y s) (hE : zE y (fun q : Nat => s.heap.size ≤ q) s s.heap) {H : Heap} {locs : List Loc} {ls : Array Slot} (hS : va_S (fun q : Nat => s.heap.size ≤ q) s.heap H locs) (hW : zPD D (fun q : Nat => s.heap.size ≤ q) [(a0, .inr (8, [w2, w3, w4, .ref a5, w6, w7, w8, w9, w10])), (a1, .inr (9, [.int 0, w11, w12, w13, w14, w15, w16, w17, w18, w19, w20, w21, w22, w23, w24, w25, w26, w27, w28, w29, w30, w31, w32, w33, w34, w35, w36, w37, w38, w39, w40, w41, w42, w43, w44, w45, w46, w47, w48, w49, w50, w51, w52, w53, w54, w55, w56, w57, w58, w59, w60, w61, w62, w63, w64, w65, w66, w67, w68, w69, w70, w71, w72, w73, w74, w75, w76, w77, w78, w79, w80, w81, w82, w83, w84, w85])), (a5, .inr (6, [w86, .int 0, w87, w88, w89, w90, w91, w92, w93, w94, w95, w96]))] H) (hl : lv_has ls 4 [(3, .int 0), (2, .ref a1), (1, .ref a0), (0, .ref b)]) : W p l e room_1 s m #[Value.ref b] below meth c H locs 1000 20000 (lw_Z below #[Value.ref b] s) (F0 m 1071 ls []) := by
  obtain ⟨hx, hb, hr, hml, hown, hts, hX, hbl, hlocks, hgv⟩ := id C0
  have ht : ∀ w ∈ zT, w.before #[Value.ref b] s = true := fun w h => hts w (zgin w h).1
  have hown : s.vm.findClass RL = some m.cls := hown
  have hA : ∀ q : Nat, s.heap.size ≤ q → (fun q : Nat => s.heap.size ≤ q) q := fun _ h => h
  have hbA : ¬ (fun q : Nat => s.heap.size ≤ q) b := Nat.not_le.mpr hbl
  refine lv_aload_n hx hb dL_law_1071 rfl (lv_at hl 2 rfl) ?_
  refine lv_aload_n hx hb dL_law_1072 rfl (lv_at hl 3 rfl) ?_
  refine lv_iload_n hx hb dL_law_1073 rfl (lv_at hl 0 rfl) ?_
  refine lv_iconst (v := 1) hx hb dL_law_1074 (by decide) ?_
  refine lv_iadd hx hb dL_law_1075 ?_
  refine ztop (w := .int 1) (congrArg Value.int (by decide)) ?_
  refine va_sld hx hb hX hbl hbA hS (by unfold vp_in; decide) dL_law_1076 ?_
  refine ztop (w := .int (xs 1)) rfl ?_
  refine lv_aload_n hx hb dL_law_1077 rfl (lv_at hl 3 rfl) ?_
  refine lv_iload_n hx hb dL_law_1078 rfl (lv_at hl 0 rfl) ?_
  refine lv_iconst (v := 2) hx hb dL_law_1079 (by decide) ?_
  refine lv_iadd hx hb dL_law_1080 ?_
  refine ztop (w := .int 2) (congrArg Value.int (by decide)) ?_
  refine va_sld hx hb hX hbl hbA hS (by unfold vp_in; decide) dL_law_1081 ?_
  refine ztop (w := .int (xs 2)) rfl ?_
  refine zgo_i (wr := [(a1, .inr (9, [.int 0, w11, w12, w13, w14, w15, w16, w17, w18, w19, w20, w21, w22, w23, w24, w25, w26, w27, w28, w29, w30, w31, w32, w33, w34, w35, w36, w37, w38, w39, w40, w41, w42, w43, w44, w45, w46, w47, w48, w49, w50, w51, w52, w53, w54, w55, w56, w57, w58, w59, w60, w61, w62, w63, w64, w65, w66, w67, w68, w69, w70, w71, w72, w73, w74, w75, w76, w77, w78, w79, w80, w81, w82, w83, w84, w85]))]) (zrunV (As := [.int (xs 1), .int (xs 2)]) (rest := []) ⟨hx, hb, hml, hown, ht⟩ (zc_X9_taken_0 l D y a0 (xs 1) (xs 2) w2 w3 w4 a5 w6 w7 w8 w9 w10 w86 w87 w88 w89 w90 w91 w92 w93 w94 w95 w96) (cwV 2 ht (zgV zm_1203 zm_1204 zm_1205 zm_2 zm_1206) rfl rfl rfl (by decide +kernel) ⟨(Nat.le_of_ble_eq_true rfl), (Nat.le_of_ble_eq_true rfl)⟩) hK hE hS hA hW [0, 2] (by decide) rfl 0 rfl rfl rfl rfl hl.1 rfl (Nat.le_of_ble_eq_true rfl) dL_law_1082 (Nat.le_of_ble_eq_true rfl) (Nat.le_of_ble_eq_true rfl)) hS hA hW [0, 2] [1] rfl rfl (by decide) (by decide) (fun r1_ u H locs hw hW hS => ?_)
  have hW : zPD D _ [(a1, .inr (9, [.int 0, w11, w12, w13, w14, w15, w16, w17, w18, w19, w20, w21, w22, w23, w24, w25, w26, w27, w28, w29, w30, w31, w32, w33, w34, w35, w36, w37, w38, w39, w40, w41, w42, w43, w44, w45, w46, w47, w48, w49, w50, w51, w52, w53, w54, w55, w56, w57, w58, w59, w60, w61, w62, w63, w64, w65, w66, w67, w68, w69, w70, w71, w72, w73, w74, w75, w76, w77, w78, w79, w80, w81, w82, w83, w84, w85]))] H := hW
  have hw : r1_ = (if (xs 2) < 0 then (-2) else (if 6 < (xs 2) then (-2) else (-11))) := hw
  by_cases c2_ : (xs 2) < 0
  · have b3_ : (-2147483648) ≤ Int32.toInt (xs 2) ∧ Int32.toInt (xs 2) ≤ (-1) := (by have u0 := zbnd (xs 2); have u1 := (zi_lt _ _).mp c2_; have u2 : (0 : Int32).toInt = 0 := (by decide); omega)
    rw [if_pos c2_] at hw
    subst hw
    refine lv_aload_n hx hb dL_law_1085 rfl (lv_at hl 1 rfl) ?_
    refine lv_aload_n hx hb dL_law_1086 rfl (lv_at hl 3 rfl) ?_
    refine lv_iload_n hx hb dL_law_1087 rfl (lv_at hl 0 rfl) ?_
    refine lv_iconst (v := 1) hx hb dL_law_1088 (by decide) ?_
    refine lv_iadd hx hb dL_law_1089 ?_
    refine ztop (w := .int 1) (congrArg Value.int (by decide)) ?_
    refine va_sld hx hb hX hbl hbA hS (by unfold vp_in; decide) dL_law_1090 ?_
    refine ztop (w := .int (xs 1)) rfl ?_
    refine lv_aload_n hx hb dL_law_1091 rfl (lv_at hl 3 rfl) ?_
    refine lv_iload_n hx hb dL_law_1092 rfl (lv_at hl 0 rfl) ?_
    refine lv_iconst (v := 2) hx hb dL_law_1093 (by decide) ?_
    refine lv_iadd hx hb dL_law_1094 ?_
    refine ztop (w := .int 2) (congrArg Value.int (by decide)) ?_
    refine va_sld hx hb hX hbl hbA hS (by unfold vp_in; decide) dL_law_1095 ?_
    refine ztop (w := .int (xs 2)) rfl ?_
    refine zgo_i (wr := []) (zrunV (As := [.int (xs 1), .int (xs 2)]) (rest := [.int (-2)]) ⟨hx, hb, hml, hown, ht⟩ (zc_X10_taken_0 l D y a1 (xs 1) (xs 2) w11 w12 w13 w14 w15 w16 w17 w18 w19 w20 w21 w22 w23 w24 w25 w26 w27 w28 w29 w30 w31 w32 w33 w34 w35 w36 w37 w38 w39 w40 w41 w42 w43 w44 w45 w46 w47 w48 w49 w50 w51 w52 w53 w54 w55 w56 w57 w58 w59 w60 w61 w62 w63 w64 w65 w66 w67 w68 w69 w70 w71 w72 w73 w74 w75 w76 w77 w78 w79 w80 w81 w82 w83 w84 w85) (cwV 2 ht (zgV zm_1211 zm_1212 zm_1213 zm_5 zm_1214) rfl rfl rfl (by decide +kernel) ⟨(Nat.le_of_ble_eq_true rfl), (Nat.le_of_ble_eq_true rfl)⟩) hK hE hS hA hW [0] (by decide) rfl 0 rfl rfl rfl rfl hl.1 rfl (Nat.le_of_ble_eq_true rfl) dL_law_1096 (Nat.le_of_ble_eq_true rfl) (Nat.le_of_ble_eq_true rfl)) hS hA hW [0] [] rfl rfl (by decide) (by decide) (fun r4_ u H locs hw hW hS => ?_)
    have hW : zPD D _ [] H := hW
    have hw : r4_ = (if (xs 2) < 0 then (-2) else (if 6 < (xs 2) then (-2) else (-11))) := hw
    rw [if_pos c2_] at hw
    subst hw
    refine lv_icmp_eq (tgt := 1340) hx hb dL_law_1099 (by decide) (fun c5_ => ?_) (fun c5_ => absurd (by decide) c5_)
    exact zl_end l C0 hS (lv_sub hl [0, 3] rfl)
  · have b6_ : 0 ≤ Int32.toInt (xs 2) ∧ Int32.toInt (xs 2) ≤ 2147483647 := (by have u0 := zbnd (xs 2); have u1 := (not_congr (zi_lt _ _)).mp c2_; have u2 : (0 : Int32).toInt = 0 := (by decide); omega)
    rw [if_neg c2_] at hw
    by_cases c7_ : 6 < (xs 2)
    · have b8_ : 7 ≤ Int32.toInt (xs 2) ∧ Int32.toInt (xs 2) ≤ 2147483647 := (by have u0 := b6_; have u1 := (zi_lt _ _).mp c7_; have u2 : (6 : Int32).toInt = 6 := (by decide); omega)
      rw [if_pos c7_] at hw
      subst hw
      refine lv_aload_n hx hb dL_law_1085 rfl (lv_at hl 1 rfl) ?_
      refine lv_aload_n hx hb dL_law_1086 rfl (lv_at hl 3 rfl) ?_
      refine lv_iload_n hx hb dL_law_1087 rfl (lv_at hl 0 rfl) ?_
      refine lv_iconst (v := 1) hx hb dL_law_1088 (by decide) ?_
      refine lv_iadd hx hb dL_law_1089 ?_
      refine ztop (w := .int 1) (congrArg Value.int (by decide)) ?_
      refine va_sld hx hb hX hbl hbA hS (by unfold vp_in; decide) dL_law_1090 ?_
      refine ztop (w := .int (xs 1)) rfl ?_
      refine lv_aload_n hx hb dL_law_1091 rfl (lv_at hl 3 rfl) ?_
      refine lv_iload_n hx hb dL_law_1092 rfl (lv_at hl 0 rfl) ?_
      refine lv_iconst (v := 2) hx hb dL_law_1093 (by decide) ?_
      refine lv_iadd hx hb dL_law_1094 ?_
      refine ztop (w := .int 2) (congrArg Value.int (by decide)) ?_
      refine va_sld hx hb hX hbl hbA hS (by unfold vp_in; decide) dL_law_1095 ?_
      refine ztop (w := .int (xs 2)) rfl ?_
      refine zgo_i (wr := []) (zrunV (As := [.int (xs 1), .int (xs 2)]) (rest := [.int (-2)]) ⟨hx, hb, hml, hown, ht⟩ (zc_X10_taken_0 l D y a1 (xs 1) (xs 2) w11 w12 w13 w14 w15 w16 w17 w18 w19 w20 w21 w22 w23 w24 w25 w26 w27 w28 w29 w30 w31 w32 w33 w34 w35 w36 w37 w38 w39 w40 w41 w42 w43 w44 w45 w46 w47 w48 w49 w50 w51 w52 w53 w54 w55 w56 w57 w58 w59 w60 w61 w62 w63 w64 w65 w66 w67 w68 w69 w70 w71 w72 w73 w74 w75 w76 w77 w78 w79 w80 w81 w82 w83 w84 w85) (cwV 2 ht (zgV zm_1211 zm_1212 zm_1213 zm_5 zm_1214) rfl rfl rfl (by decide +kernel) ⟨(Nat.le_of_ble_eq_true rfl), (Nat.le_of_ble_eq_true rfl)⟩) hK hE hS hA hW [0] (by decide) rfl 0 rfl rfl rfl rfl hl.1 rfl (Nat.le_of_ble_eq_true rfl) dL_law_1096 (Nat.le_of_ble_eq_true rfl) (Nat.le_of_ble_eq_true rfl)) hS hA hW [0] [] rfl rfl (by decide) (by decide) (fun r9_ u H locs hw hW hS => ?_)
      have hW : zPD D _ [] H := hW
      have hw : r9_ = (if (xs 2) < 0 then (-2) else (if 6 < (xs 2) then (-2) else (-11))) := hw
      rw [if_neg c2_] at hw
      rw [if_pos c7_] at hw
      subst hw
      refine lv_icmp_eq (tgt := 1340) hx hb dL_law_1099 (by decide) (fun c10_ => ?_) (fun c10_ => absurd (by decide) c10_)
      exact zl_end l C0 hS (lv_sub hl [0, 3] rfl)
    · have b11_ : 0 ≤ Int32.toInt (xs 2) ∧ Int32.toInt (xs 2) ≤ 6 := (by have u0 := b6_; have u1 := (not_congr (zi_lt _ _)).mp c7_; have u2 : (6 : Int32).toInt = 6 := (by decide); omega)
      rw [if_neg c7_] at hw
      subst hw
      refine lv_aload_n hx hb dL_law_1085 rfl (lv_at hl 1 rfl) ?_
      refine lv_aload_n hx hb dL_law_1086 rfl (lv_at hl 3 rfl) ?_
      refine lv_iload_n hx hb dL_law_1087 rfl (lv_at hl 0 rfl) ?_
      refine lv_iconst (v := 1) hx hb dL_law_1088 (by decide) ?_
      refine lv_iadd hx hb dL_law_1089 ?_
      refine ztop (w := .int 1) (congrArg Value.int (by decide)) ?_
      refine va_sld hx hb hX hbl hbA hS (by unfold vp_in; decide) dL_law_1090 ?_
      refine ztop (w := .int (xs 1)) rfl ?_
      refine lv_aload_n hx hb dL_law_1091 rfl (lv_at hl 3 rfl) ?_
      refine lv_iload_n hx hb dL_law_1092 rfl (lv_at hl 0 rfl) ?_
      refine lv_iconst (v := 2) hx hb dL_law_1093 (by decide) ?_
      refine lv_iadd hx hb dL_law_1094 ?_
      refine ztop (w := .int 2) (congrArg Value.int (by decide)) ?_
      refine va_sld hx hb hX hbl hbA hS (by unfold vp_in; decide) dL_law_1095 ?_
      refine ztop (w := .int (xs 2)) rfl ?_
      refine zgo_i (wr := []) (zrunV (As := [.int (xs 1), .int (xs 2)]) (rest := [.int (-11)]) ⟨hx, hb, hml, hown, ht⟩ (zc_X10_taken_0 l D y a1 (xs 1) (xs 2) w11 w12 w13 w14 w15 w16 w17 w18 w19 w20 w21 w22 w23 w24 w25 w26 w27 w28 w29 w30 w31 w32 w33 w34 w35 w36 w37 w38 w39 w40 w41 w42 w43 w44 w45 w46 w47 w48 w49 w50 w51 w52 w53 w54 w55 w56 w57 w58 w59 w60 w61 w62 w63 w64 w65 w66 w67 w68 w69 w70 w71 w72 w73 w74 w75 w76 w77 w78 w79 w80 w81 w82 w83 w84 w85) (cwV 2 ht (zgV zm_1211 zm_1212 zm_1213 zm_5 zm_1214) rfl rfl rfl (by decide +kernel) ⟨(Nat.le_of_ble_eq_true rfl), (Nat.le_of_ble_eq_true rfl)⟩) hK hE hS hA hW [0] (by decide) rfl 0 rfl rfl rfl rfl hl.1 rfl (Nat.le_of_ble_eq_true rfl) dL_law_1096 (Nat.le_of_ble_eq_true rfl) (Nat.le_of_ble_eq_true rfl)) hS hA hW [0] [] rfl rfl (by decide) (by decide) (fun r12_ u H locs hw hW hS => ?_)
      have hW : zPD D _ [] H := hW
      have hw : r12_ = (if (xs 2) < 0 then (-2) else (if 6 < (xs 2) then (-2) else (-11))) := hw
      rw [if_neg c2_] at hw
      rw [if_neg c7_] at hw
      subst hw
      refine lv_icmp_eq (tgt := 1340) hx hb dL_law_1099 (by decide) (fun c13_ => ?_) (fun c13_ => absurd (by decide) c13_)
      exact zl_end l C0 hS (lv_sub hl [0, 3] rfl)
set_option maxHeartbeats 8000000 in
set_option maxRecDepth 100000 in
theorem zl_case_34 {p : Program} {e : Env} {s : State} {m : MethodId} {below : List Frame} {meth : Method} {c : Code} (l : Launch) {b : Nat} {xs : Nat → Int32} (C0 : lw_At p s m meth c b 6 xs) (D : va_G) (y : Nat → ClassId) (a0 : Nat) (a1 : Nat) (w2 : Value) (a3 : Nat) (a4 : Nat) (w5 : Value) (w6 : Value) (w7 : Value) (a8 : Nat) (w9 : Value) (w10 : Value) (w11 : Value) (w12 : Value) (w13 : Value) (w14 : Value) (w15 : Value) (w16 : Value) (w17 : Value) (w18 : Value) (w19 : Value) (w20 : Value) (w21 : Value) (w22 : Value) (w23 : Value) (w24 : Value) (w25 : Value) (w26 : Value) (w27 : Value) (w28 : Value) (w29 : Value) (w30 : Value) (w31 : Value) (w32 : Value) (w33 : Value) (w34 : Value) (w35 : Value) (w36 : Value) (w37 : Value) (w38 : Value) (w39 : Value) (w40 : Value) (w41 : Value) (w42 : Value) (w43 : Value) (w44 : Value) (w45 : Value) (w46 : Value) (w47 : Value) (w48 : Value) (w49 : Value) (w50 : Value) (w51 : Value) (w52 : Value) (w53 : Value) (w54 : Value) (w55 : Value) (w56 : Value) (w57 : Value) (w58 : Value) (w59 : Value) (w60 : Value) (w61 : Value) (w62 : Value) (w63 : Value) (w64 : Value) (w65 : Value) (w66 : Value) (w67 : Value) (w68 : Value) (w69 : Value) (w70 : Value) (w71 : Value) (w72 : Value) (w73 : Value) (w74 : Value) (w75 : Value) (w76 : Value) (w77 : Value) (w78 : Value) (w79 : Value) (w80 : Value) (w81 : Value) (w82 : Value) (w83 : Value) (w84 : Value) (w85 : Value) (w86 : Value) (w87 : Value) (w88 : Value) (w89 : Value) (w90 : Value) (a91 : Nat) (a92 : Nat) (a93 : Nat) (w94 : Value) (w95 : Value) (w96 : Value) (w97 : Value) (w98 : Value) (w99 : Value) (w100 : Value) (w101 : Value) (w102 : Value) (w103 : Value) (hK : zK D y s) (hE : zE y (fun q : Nat => s.heap.size ≤ q) s s.heap) {H : Heap} {locs : List Loc} {ls : Array Slot} (hS : va_S (fun q : Nat => s.heap.size ≤ q) s.heap H locs) (hW : zPD D (fun q : Nat => s.heap.size ≤ q) [(a0, .inr (8, [w2, .int 0, .ref a3, .ref a4, w5, w6, w7, .ref a8, w9])), (a1, .inr (9, [.int 0, w10, w11, w12, w13, w14, w15, w16, w17, w18, w19, w20, w21, w22, .int 0, w23, .int 0, w24, w25, w26, w27, w28, w29, w30, w31, w32, w33, w34, w35, w36, w37, w38, w39, w40, w41, w42, w43, .int 0, w44, w45, .int 0, w46, w47, .int 0, w48, w49, w50, w51, w52, w53, w54, w55, w56, w57, w58, w59, w60, w61, w62, w63, w64, w65, w66, w67, w68, w69, w70, w71, w72, w73, .int 0, w74, w75, w76, w77, w78])), (a3, .inr (4, [w79, .int 0, w80, w81, w82])), (a4, .inr (6, [w83, .int 0, w84, w85, w86, w87, w88, w89, w90, .ref a91, .ref a92, .ref a93])), (a8, .inr (0, [w94, .int 0, w95, w96, w97])), (a91, .inr (5, [.int 0, w98, w99])), (a92, .inr (5, [.int 0, w100, w101])), (a93, .inr (5, [.int 0, w102, w103]))] H) (hl : lv_has ls 4 [(3, .int 0), (2, .ref a1), (1, .ref a0), (0, .ref b)]) : W p l e room_1 s m #[Value.ref b] below meth c H locs 1000 20000 (lw_Z below #[Value.ref b] s) (F0 m 1104 ls []) := by
  obtain ⟨hx, hb, hr, hml, hown, hts, hX, hbl, hlocks, hgv⟩ := id C0
  have ht : ∀ w ∈ zT, w.before #[Value.ref b] s = true := fun w h => hts w (zgin w h).1
  have hown : s.vm.findClass RL = some m.cls := hown
  have hA : ∀ q : Nat, s.heap.size ≤ q → (fun q : Nat => s.heap.size ≤ q) q := fun _ h => h
  have hbA : ¬ (fun q : Nat => s.heap.size ≤ q) b := Nat.not_le.mpr hbl
  refine lv_aload_n hx hb dL_law_1104 rfl (lv_at hl 2 rfl) ?_
  refine lv_aload_n hx hb dL_law_1105 rfl (lv_at hl 3 rfl) ?_
  refine lv_iload_n hx hb dL_law_1106 rfl (lv_at hl 0 rfl) ?_
  refine lv_iconst (v := 1) hx hb dL_law_1107 (by decide) ?_
  refine lv_iadd hx hb dL_law_1108 ?_
  refine ztop (w := .int 1) (congrArg Value.int (by decide)) ?_
  refine va_sld hx hb hX hbl hbA hS (by unfold vp_in; decide) dL_law_1109 ?_
  refine ztop (w := .int (xs 1)) rfl ?_
  refine zgo_i (wr := [(a1, .inr (9, [.int 0, w10, w11, w12, w13, w14, w15, w16, w17, w18, w19, w20, w21, w22, .int 0, w23, .int 0, w24, w25, w26, w27, w28, w29, w30, w31, w32, w33, w34, w35, w36, w37, w38, w39, w40, w41, w42, w43, .int 0, w44, w45, .int 0, w46, w47, .int 0, w48, w49, w50, w51, w52, w53, w54, w55, w56, w57, w58, w59, w60, w61, w62, w63, w64, w65, w66, w67, w68, w69, w70, w71, w72, w73, .int 0, w74, w75, w76, w77, w78]))]) (zrunV (As := [.int (xs 1)]) (rest := []) ⟨hx, hb, hml, hown, ht⟩ (zc_X9_count_0 l D y a0 (xs 1) w2 a3 a4 w5 w6 w7 a8 w9 w79 w80 w81 w82 w83 w84 w85 w86 w87 w88 w89 w90 a91 a92 a93 w94 w95 w96 w97 w98 w99 w100 w101 w102 w103) (cwV 1 ht (zgV zm_1215 zm_1216 zm_1217 zm_2 zm_1218) rfl rfl rfl (by decide +kernel) ⟨(Nat.le_of_ble_eq_true rfl), (Nat.le_of_ble_eq_true rfl)⟩) hK hE hS hA hW [0, 2, 3, 4, 5, 6, 7] (by decide) rfl 0 rfl rfl rfl rfl hl.1 rfl (Nat.le_of_ble_eq_true rfl) dL_law_1110 (Nat.le_of_ble_eq_true rfl) (Nat.le_of_ble_eq_true rfl)) hS hA hW [0, 2, 3, 4, 5, 6, 7] [1] rfl rfl (by decide) (by decide) (fun r1_ u H locs hw hW hS => ?_)
  have hW : zPD D _ [(a1, .inr (9, [.int 0, w10, w11, w12, w13, w14, w15, w16, w17, w18, w19, w20, w21, w22, .int 0, w23, .int 0, w24, w25, w26, w27, w28, w29, w30, w31, w32, w33, w34, w35, w36, w37, w38, w39, w40, w41, w42, w43, .int 0, w44, w45, .int 0, w46, w47, .int 0, w48, w49, w50, w51, w52, w53, w54, w55, w56, w57, w58, w59, w60, w61, w62, w63, w64, w65, w66, w67, w68, w69, w70, w71, w72, w73, .int 0, w74, w75, w76, w77, w78]))] H := hW
  have hw : r1_ = (if (xs 1) = 0 then 0 else (if (xs 1) = 1 then 0 else (if (xs 1) = 2 then 0 else (if (xs 1) = 3 then 0 else (if (xs 1) = 4 then 0 else (if (xs 1) = 5 then 0 else (if (xs 1) = 6 then 0 else (-2)))))))) := hw
  by_cases c2_ : (xs 1) = 0
  · have b3_ : 0 ≤ Int32.toInt (xs 1) ∧ Int32.toInt (xs 1) ≤ 0 := (by have u0 := zbnd (xs 1); have u1 := (zi_eq _ _).mp c2_; have u2 : (0 : Int32).toInt = 0 := (by decide); omega)
    rw [if_pos c2_] at hw
    subst hw
    refine lv_aload_n hx hb dL_law_1113 rfl (lv_at hl 1 rfl) ?_
    refine lv_aload_n hx hb dL_law_1114 rfl (lv_at hl 3 rfl) ?_
    refine lv_iload_n hx hb dL_law_1115 rfl (lv_at hl 0 rfl) ?_
    refine lv_iconst (v := 1) hx hb dL_law_1116 (by decide) ?_
    refine lv_iadd hx hb dL_law_1117 ?_
    refine ztop (w := .int 1) (congrArg Value.int (by decide)) ?_
    refine va_sld hx hb hX hbl hbA hS (by unfold vp_in; decide) dL_law_1118 ?_
    refine ztop (w := .int (xs 1)) rfl ?_
    refine zgo_i (wr := []) (zrunV (As := [.int (xs 1)]) (rest := [.int 0]) ⟨hx, hb, hml, hown, ht⟩ (zc_X10_count_0 l D y a1 (xs 1) w10 w11 w12 w13 w14 w15 w16 w17 w18 w19 w20 w21 w22 w23 w24 w25 w26 w27 w28 w29 w30 w31 w32 w33 w34 w35 w36 w37 w38 w39 w40 w41 w42 w43 w44 w45 w46 w47 w48 w49 w50 w51 w52 w53 w54 w55 w56 w57 w58 w59 w60 w61 w62 w63 w64 w65 w66 w67 w68 w69 w70 w71 w72 w73 w74 w75 w76 w77 w78) (cwV 1 ht (zgV zm_1219 zm_1220 zm_1221 zm_5 zm_1222) rfl rfl rfl (by decide +kernel) ⟨(Nat.le_of_ble_eq_true rfl), (Nat.le_of_ble_eq_true rfl)⟩) hK hE hS hA hW [0] (by decide) rfl 0 rfl rfl rfl rfl hl.1 rfl (Nat.le_of_ble_eq_true rfl) dL_law_1119 (Nat.le_of_ble_eq_true rfl) (Nat.le_of_ble_eq_true rfl)) hS hA hW [0] [] rfl rfl (by decide) (by decide) (fun r4_ u H locs hw hW hS => ?_)
    have hW : zPD D _ [] H := hW
    have hw : r4_ = (if (xs 1) = 0 then 0 else (if (xs 1) = 1 then 0 else (if (xs 1) = 2 then 0 else (if (xs 1) = 3 then 0 else (if (xs 1) = 4 then 0 else (if (xs 1) = 5 then 0 else (if (xs 1) = 6 then 0 else (-2)))))))) := hw
    rw [if_pos c2_] at hw
    subst hw
    refine lv_icmp_eq (tgt := 1340) hx hb dL_law_1122 (by decide) (fun c5_ => ?_) (fun c5_ => absurd (by decide) c5_)
    exact zl_end l C0 hS (lv_sub hl [0, 3] rfl)
  · have b6_ : (-2147483648) ≤ Int32.toInt (xs 1) ∧ Int32.toInt (xs 1) ≤ 2147483647 := (by have u0 := zbnd (xs 1); have u1 := (not_congr (zi_eq _ _)).mp c2_; have u2 : (0 : Int32).toInt = 0 := (by decide); omega)
    rw [if_neg c2_] at hw
    by_cases c7_ : (xs 1) = 1
    · have b8_ : 1 ≤ Int32.toInt (xs 1) ∧ Int32.toInt (xs 1) ≤ 1 := (by have u0 := b6_; have u1 := (zi_eq _ _).mp c7_; have u2 : (1 : Int32).toInt = 1 := (by decide); omega)
      rw [if_pos c7_] at hw
      subst hw
      refine lv_aload_n hx hb dL_law_1113 rfl (lv_at hl 1 rfl) ?_
      refine lv_aload_n hx hb dL_law_1114 rfl (lv_at hl 3 rfl) ?_
      refine lv_iload_n hx hb dL_law_1115 rfl (lv_at hl 0 rfl) ?_
      refine lv_iconst (v := 1) hx hb dL_law_1116 (by decide) ?_
      refine lv_iadd hx hb dL_law_1117 ?_
      refine ztop (w := .int 1) (congrArg Value.int (by decide)) ?_
      refine va_sld hx hb hX hbl hbA hS (by unfold vp_in; decide) dL_law_1118 ?_
      refine ztop (w := .int (xs 1)) rfl ?_
      refine zgo_i (wr := []) (zrunV (As := [.int (xs 1)]) (rest := [.int 0]) ⟨hx, hb, hml, hown, ht⟩ (zc_X10_count_0 l D y a1 (xs 1) w10 w11 w12 w13 w14 w15 w16 w17 w18 w19 w20 w21 w22 w23 w24 w25 w26 w27 w28 w29 w30 w31 w32 w33 w34 w35 w36 w37 w38 w39 w40 w41 w42 w43 w44 w45 w46 w47 w48 w49 w50 w51 w52 w53 w54 w55 w56 w57 w58 w59 w60 w61 w62 w63 w64 w65 w66 w67 w68 w69 w70 w71 w72 w73 w74 w75 w76 w77 w78) (cwV 1 ht (zgV zm_1219 zm_1220 zm_1221 zm_5 zm_1222) rfl rfl rfl (by decide +kernel) ⟨(Nat.le_of_ble_eq_true rfl), (Nat.le_of_ble_eq_true rfl)⟩) hK hE hS hA hW [0] (by decide) rfl 0 rfl rfl rfl rfl hl.1 rfl (Nat.le_of_ble_eq_true rfl) dL_law_1119 (Nat.le_of_ble_eq_true rfl) (Nat.le_of_ble_eq_true rfl)) hS hA hW [0] [] rfl rfl (by decide) (by decide) (fun r9_ u H locs hw hW hS => ?_)
      have hW : zPD D _ [] H := hW
      have hw : r9_ = (if (xs 1) = 0 then 0 else (if (xs 1) = 1 then 0 else (if (xs 1) = 2 then 0 else (if (xs 1) = 3 then 0 else (if (xs 1) = 4 then 0 else (if (xs 1) = 5 then 0 else (if (xs 1) = 6 then 0 else (-2)))))))) := hw
      rw [if_neg c2_] at hw
      rw [if_pos c7_] at hw
      subst hw
      refine lv_icmp_eq (tgt := 1340) hx hb dL_law_1122 (by decide) (fun c10_ => ?_) (fun c10_ => absurd (by decide) c10_)
      exact zl_end l C0 hS (lv_sub hl [0, 3] rfl)
    · rw [if_neg c7_] at hw
      by_cases c11_ : (xs 1) = 2
      · have b12_ : 2 ≤ Int32.toInt (xs 1) ∧ Int32.toInt (xs 1) ≤ 2 := (by have u0 := b6_; have u1 := (zi_eq _ _).mp c11_; have u2 : (2 : Int32).toInt = 2 := (by decide); omega)
        rw [if_pos c11_] at hw
        subst hw
        refine lv_aload_n hx hb dL_law_1113 rfl (lv_at hl 1 rfl) ?_
        refine lv_aload_n hx hb dL_law_1114 rfl (lv_at hl 3 rfl) ?_
        refine lv_iload_n hx hb dL_law_1115 rfl (lv_at hl 0 rfl) ?_
        refine lv_iconst (v := 1) hx hb dL_law_1116 (by decide) ?_
        refine lv_iadd hx hb dL_law_1117 ?_
        refine ztop (w := .int 1) (congrArg Value.int (by decide)) ?_
        refine va_sld hx hb hX hbl hbA hS (by unfold vp_in; decide) dL_law_1118 ?_
        refine ztop (w := .int (xs 1)) rfl ?_
        refine zgo_i (wr := []) (zrunV (As := [.int (xs 1)]) (rest := [.int 0]) ⟨hx, hb, hml, hown, ht⟩ (zc_X10_count_0 l D y a1 (xs 1) w10 w11 w12 w13 w14 w15 w16 w17 w18 w19 w20 w21 w22 w23 w24 w25 w26 w27 w28 w29 w30 w31 w32 w33 w34 w35 w36 w37 w38 w39 w40 w41 w42 w43 w44 w45 w46 w47 w48 w49 w50 w51 w52 w53 w54 w55 w56 w57 w58 w59 w60 w61 w62 w63 w64 w65 w66 w67 w68 w69 w70 w71 w72 w73 w74 w75 w76 w77 w78) (cwV 1 ht (zgV zm_1219 zm_1220 zm_1221 zm_5 zm_1222) rfl rfl rfl (by decide +kernel) ⟨(Nat.le_of_ble_eq_true rfl), (Nat.le_of_ble_eq_true rfl)⟩) hK hE hS hA hW [0] (by decide) rfl 0 rfl rfl rfl rfl hl.1 rfl (Nat.le_of_ble_eq_true rfl) dL_law_1119 (Nat.le_of_ble_eq_true rfl) (Nat.le_of_ble_eq_true rfl)) hS hA hW [0] [] rfl rfl (by decide) (by decide) (fun r13_ u H locs hw hW hS => ?_)
        have hW : zPD D _ [] H := hW
        have hw : r13_ = (if (xs 1) = 0 then 0 else (if (xs 1) = 1 then 0 else (if (xs 1) = 2 then 0 else (if (xs 1) = 3 then 0 else (if (xs 1) = 4 then 0 else (if (xs 1) = 5 then 0 else (if (xs 1) = 6 then 0 else (-2)))))))) := hw
        rw [if_neg c2_] at hw
        rw [if_neg c7_] at hw
        rw [if_pos c11_] at hw
        subst hw
        refine lv_icmp_eq (tgt := 1340) hx hb dL_law_1122 (by decide) (fun c14_ => ?_) (fun c14_ => absurd (by decide) c14_)
        exact zl_end l C0 hS (lv_sub hl [0, 3] rfl)
      · rw [if_neg c11_] at hw
        by_cases c15_ : (xs 1) = 3
        · have b16_ : 3 ≤ Int32.toInt (xs 1) ∧ Int32.toInt (xs 1) ≤ 3 := (by have u0 := b6_; have u1 := (zi_eq _ _).mp c15_; have u2 : (3 : Int32).toInt = 3 := (by decide); omega)
          rw [if_pos c15_] at hw
          subst hw
          refine lv_aload_n hx hb dL_law_1113 rfl (lv_at hl 1 rfl) ?_
          refine lv_aload_n hx hb dL_law_1114 rfl (lv_at hl 3 rfl) ?_
          refine lv_iload_n hx hb dL_law_1115 rfl (lv_at hl 0 rfl) ?_
          refine lv_iconst (v := 1) hx hb dL_law_1116 (by decide) ?_
          refine lv_iadd hx hb dL_law_1117 ?_
          refine ztop (w := .int 1) (congrArg Value.int (by decide)) ?_
          refine va_sld hx hb hX hbl hbA hS (by unfold vp_in; decide) dL_law_1118 ?_
          refine ztop (w := .int (xs 1)) rfl ?_
          refine zgo_i (wr := []) (zrunV (As := [.int (xs 1)]) (rest := [.int 0]) ⟨hx, hb, hml, hown, ht⟩ (zc_X10_count_0 l D y a1 (xs 1) w10 w11 w12 w13 w14 w15 w16 w17 w18 w19 w20 w21 w22 w23 w24 w25 w26 w27 w28 w29 w30 w31 w32 w33 w34 w35 w36 w37 w38 w39 w40 w41 w42 w43 w44 w45 w46 w47 w48 w49 w50 w51 w52 w53 w54 w55 w56 w57 w58 w59 w60 w61 w62 w63 w64 w65 w66 w67 w68 w69 w70 w71 w72 w73 w74 w75 w76 w77 w78) (cwV 1 ht (zgV zm_1219 zm_1220 zm_1221 zm_5 zm_1222) rfl rfl rfl (by decide +kernel) ⟨(Nat.le_of_ble_eq_true rfl), (Nat.le_of_ble_eq_true rfl)⟩) hK hE hS hA hW [0] (by decide) rfl 0 rfl rfl rfl rfl hl.1 rfl (Nat.le_of_ble_eq_true rfl) dL_law_1119 (Nat.le_of_ble_eq_true rfl) (Nat.le_of_ble_eq_true rfl)) hS hA hW [0] [] rfl rfl (by decide) (by decide) (fun r17_ u H locs hw hW hS => ?_)
          have hW : zPD D _ [] H := hW
          have hw : r17_ = (if (xs 1) = 0 then 0 else (if (xs 1) = 1 then 0 else (if (xs 1) = 2 then 0 else (if (xs 1) = 3 then 0 else (if (xs 1) = 4 then 0 else (if (xs 1) = 5 then 0 else (if (xs 1) = 6 then 0 else (-2)))))))) := hw
          rw [if_neg c2_] at hw
          rw [if_neg c7_] at hw
          rw [if_neg c11_] at hw
          rw [if_pos c15_] at hw
          subst hw
          refine lv_icmp_eq (tgt := 1340) hx hb dL_law_1122 (by decide) (fun c18_ => ?_) (fun c18_ => absurd (by decide) c18_)
          exact zl_end l C0 hS (lv_sub hl [0, 3] rfl)
        · rw [if_neg c15_] at hw
          by_cases c19_ : (xs 1) = 4
          · have b20_ : 4 ≤ Int32.toInt (xs 1) ∧ Int32.toInt (xs 1) ≤ 4 := (by have u0 := b6_; have u1 := (zi_eq _ _).mp c19_; have u2 : (4 : Int32).toInt = 4 := (by decide); omega)
            rw [if_pos c19_] at hw
            subst hw
            refine lv_aload_n hx hb dL_law_1113 rfl (lv_at hl 1 rfl) ?_
            refine lv_aload_n hx hb dL_law_1114 rfl (lv_at hl 3 rfl) ?_
            refine lv_iload_n hx hb dL_law_1115 rfl (lv_at hl 0 rfl) ?_
            refine lv_iconst (v := 1) hx hb dL_law_1116 (by decide) ?_
            refine lv_iadd hx hb dL_law_1117 ?_
            refine ztop (w := .int 1) (congrArg Value.int (by decide)) ?_
            refine va_sld hx hb hX hbl hbA hS (by unfold vp_in; decide) dL_law_1118 ?_
            refine ztop (w := .int (xs 1)) rfl ?_
            refine zgo_i (wr := []) (zrunV (As := [.int (xs 1)]) (rest := [.int 0]) ⟨hx, hb, hml, hown, ht⟩ (zc_X10_count_0 l D y a1 (xs 1) w10 w11 w12 w13 w14 w15 w16 w17 w18 w19 w20 w21 w22 w23 w24 w25 w26 w27 w28 w29 w30 w31 w32 w33 w34 w35 w36 w37 w38 w39 w40 w41 w42 w43 w44 w45 w46 w47 w48 w49 w50 w51 w52 w53 w54 w55 w56 w57 w58 w59 w60 w61 w62 w63 w64 w65 w66 w67 w68 w69 w70 w71 w72 w73 w74 w75 w76 w77 w78) (cwV 1 ht (zgV zm_1219 zm_1220 zm_1221 zm_5 zm_1222) rfl rfl rfl (by decide +kernel) ⟨(Nat.le_of_ble_eq_true rfl), (Nat.le_of_ble_eq_true rfl)⟩) hK hE hS hA hW [0] (by decide) rfl 0 rfl rfl rfl rfl hl.1 rfl (Nat.le_of_ble_eq_true rfl) dL_law_1119 (Nat.le_of_ble_eq_true rfl) (Nat.le_of_ble_eq_true rfl)) hS hA hW [0] [] rfl rfl (by decide) (by decide) (fun r21_ u H locs hw hW hS => ?_)
            have hW : zPD D _ [] H := hW
            have hw : r21_ = (if (xs 1) = 0 then 0 else (if (xs 1) = 1 then 0 else (if (xs 1) = 2 then 0 else (if (xs 1) = 3 then 0 else (if (xs 1) = 4 then 0 else (if (xs 1) = 5 then 0 else (if (xs 1) = 6 then 0 else (-2)))))))) := hw
            rw [if_neg c2_] at hw
            rw [if_neg c7_] at hw
            rw [if_neg c11_] at hw
            rw [if_neg c15_] at hw
            rw [if_pos c19_] at hw
            subst hw
            refine lv_icmp_eq (tgt := 1340) hx hb dL_law_1122 (by decide) (fun c22_ => ?_) (fun c22_ => absurd (by decide) c22_)
            exact zl_end l C0 hS (lv_sub hl [0, 3] rfl)
          · rw [if_neg c19_] at hw
            by_cases c23_ : (xs 1) = 5
            · have b24_ : 5 ≤ Int32.toInt (xs 1) ∧ Int32.toInt (xs 1) ≤ 5 := (by have u0 := b6_; have u1 := (zi_eq _ _).mp c23_; have u2 : (5 : Int32).toInt = 5 := (by decide); omega)
              rw [if_pos c23_] at hw
              subst hw
              refine lv_aload_n hx hb dL_law_1113 rfl (lv_at hl 1 rfl) ?_
              refine lv_aload_n hx hb dL_law_1114 rfl (lv_at hl 3 rfl) ?_
              refine lv_iload_n hx hb dL_law_1115 rfl (lv_at hl 0 rfl) ?_
              refine lv_iconst (v := 1) hx hb dL_law_1116 (by decide) ?_
              refine lv_iadd hx hb dL_law_1117 ?_
              refine ztop (w := .int 1) (congrArg Value.int (by decide)) ?_
              refine va_sld hx hb hX hbl hbA hS (by unfold vp_in; decide) dL_law_1118 ?_
              refine ztop (w := .int (xs 1)) rfl ?_
              refine zgo_i (wr := []) (zrunV (As := [.int (xs 1)]) (rest := [.int 0]) ⟨hx, hb, hml, hown, ht⟩ (zc_X10_count_0 l D y a1 (xs 1) w10 w11 w12 w13 w14 w15 w16 w17 w18 w19 w20 w21 w22 w23 w24 w25 w26 w27 w28 w29 w30 w31 w32 w33 w34 w35 w36 w37 w38 w39 w40 w41 w42 w43 w44 w45 w46 w47 w48 w49 w50 w51 w52 w53 w54 w55 w56 w57 w58 w59 w60 w61 w62 w63 w64 w65 w66 w67 w68 w69 w70 w71 w72 w73 w74 w75 w76 w77 w78) (cwV 1 ht (zgV zm_1219 zm_1220 zm_1221 zm_5 zm_1222) rfl rfl rfl (by decide +kernel) ⟨(Nat.le_of_ble_eq_true rfl), (Nat.le_of_ble_eq_true rfl)⟩) hK hE hS hA hW [0] (by decide) rfl 0 rfl rfl rfl rfl hl.1 rfl (Nat.le_of_ble_eq_true rfl) dL_law_1119 (Nat.le_of_ble_eq_true rfl) (Nat.le_of_ble_eq_true rfl)) hS hA hW [0] [] rfl rfl (by decide) (by decide) (fun r25_ u H locs hw hW hS => ?_)
              have hW : zPD D _ [] H := hW
              have hw : r25_ = (if (xs 1) = 0 then 0 else (if (xs 1) = 1 then 0 else (if (xs 1) = 2 then 0 else (if (xs 1) = 3 then 0 else (if (xs 1) = 4 then 0 else (if (xs 1) = 5 then 0 else (if (xs 1) = 6 then 0 else (-2)))))))) := hw
              rw [if_neg c2_] at hw
              rw [if_neg c7_] at hw
              rw [if_neg c11_] at hw
              rw [if_neg c15_] at hw
              rw [if_neg c19_] at hw
              rw [if_pos c23_] at hw
              subst hw
              refine lv_icmp_eq (tgt := 1340) hx hb dL_law_1122 (by decide) (fun c26_ => ?_) (fun c26_ => absurd (by decide) c26_)
              exact zl_end l C0 hS (lv_sub hl [0, 3] rfl)
            · rw [if_neg c23_] at hw
              by_cases c27_ : (xs 1) = 6
              · have b28_ : 6 ≤ Int32.toInt (xs 1) ∧ Int32.toInt (xs 1) ≤ 6 := (by have u0 := b6_; have u1 := (zi_eq _ _).mp c27_; have u2 : (6 : Int32).toInt = 6 := (by decide); omega)
                rw [if_pos c27_] at hw
                subst hw
                refine lv_aload_n hx hb dL_law_1113 rfl (lv_at hl 1 rfl) ?_
                refine lv_aload_n hx hb dL_law_1114 rfl (lv_at hl 3 rfl) ?_
                refine lv_iload_n hx hb dL_law_1115 rfl (lv_at hl 0 rfl) ?_
                refine lv_iconst (v := 1) hx hb dL_law_1116 (by decide) ?_
                refine lv_iadd hx hb dL_law_1117 ?_
                refine ztop (w := .int 1) (congrArg Value.int (by decide)) ?_
                refine va_sld hx hb hX hbl hbA hS (by unfold vp_in; decide) dL_law_1118 ?_
                refine ztop (w := .int (xs 1)) rfl ?_
                refine zgo_i (wr := []) (zrunV (As := [.int (xs 1)]) (rest := [.int 0]) ⟨hx, hb, hml, hown, ht⟩ (zc_X10_count_0 l D y a1 (xs 1) w10 w11 w12 w13 w14 w15 w16 w17 w18 w19 w20 w21 w22 w23 w24 w25 w26 w27 w28 w29 w30 w31 w32 w33 w34 w35 w36 w37 w38 w39 w40 w41 w42 w43 w44 w45 w46 w47 w48 w49 w50 w51 w52 w53 w54 w55 w56 w57 w58 w59 w60 w61 w62 w63 w64 w65 w66 w67 w68 w69 w70 w71 w72 w73 w74 w75 w76 w77 w78) (cwV 1 ht (zgV zm_1219 zm_1220 zm_1221 zm_5 zm_1222) rfl rfl rfl (by decide +kernel) ⟨(Nat.le_of_ble_eq_true rfl), (Nat.le_of_ble_eq_true rfl)⟩) hK hE hS hA hW [0] (by decide) rfl 0 rfl rfl rfl rfl hl.1 rfl (Nat.le_of_ble_eq_true rfl) dL_law_1119 (Nat.le_of_ble_eq_true rfl) (Nat.le_of_ble_eq_true rfl)) hS hA hW [0] [] rfl rfl (by decide) (by decide) (fun r29_ u H locs hw hW hS => ?_)
                have hW : zPD D _ [] H := hW
                have hw : r29_ = (if (xs 1) = 0 then 0 else (if (xs 1) = 1 then 0 else (if (xs 1) = 2 then 0 else (if (xs 1) = 3 then 0 else (if (xs 1) = 4 then 0 else (if (xs 1) = 5 then 0 else (if (xs 1) = 6 then 0 else (-2)))))))) := hw
                rw [if_neg c2_] at hw
                rw [if_neg c7_] at hw
                rw [if_neg c11_] at hw
                rw [if_neg c15_] at hw
                rw [if_neg c19_] at hw
                rw [if_neg c23_] at hw
                rw [if_pos c27_] at hw
                subst hw
                refine lv_icmp_eq (tgt := 1340) hx hb dL_law_1122 (by decide) (fun c30_ => ?_) (fun c30_ => absurd (by decide) c30_)
                exact zl_end l C0 hS (lv_sub hl [0, 3] rfl)
              · rw [if_neg c27_] at hw
                subst hw
                refine lv_aload_n hx hb dL_law_1113 rfl (lv_at hl 1 rfl) ?_
                refine lv_aload_n hx hb dL_law_1114 rfl (lv_at hl 3 rfl) ?_
                refine lv_iload_n hx hb dL_law_1115 rfl (lv_at hl 0 rfl) ?_
                refine lv_iconst (v := 1) hx hb dL_law_1116 (by decide) ?_
                refine lv_iadd hx hb dL_law_1117 ?_
                refine ztop (w := .int 1) (congrArg Value.int (by decide)) ?_
                refine va_sld hx hb hX hbl hbA hS (by unfold vp_in; decide) dL_law_1118 ?_
                refine ztop (w := .int (xs 1)) rfl ?_
                refine zgo_i (wr := []) (zrunV (As := [.int (xs 1)]) (rest := [.int (-2)]) ⟨hx, hb, hml, hown, ht⟩ (zc_X10_count_0 l D y a1 (xs 1) w10 w11 w12 w13 w14 w15 w16 w17 w18 w19 w20 w21 w22 w23 w24 w25 w26 w27 w28 w29 w30 w31 w32 w33 w34 w35 w36 w37 w38 w39 w40 w41 w42 w43 w44 w45 w46 w47 w48 w49 w50 w51 w52 w53 w54 w55 w56 w57 w58 w59 w60 w61 w62 w63 w64 w65 w66 w67 w68 w69 w70 w71 w72 w73 w74 w75 w76 w77 w78) (cwV 1 ht (zgV zm_1219 zm_1220 zm_1221 zm_5 zm_1222) rfl rfl rfl (by decide +kernel) ⟨(Nat.le_of_ble_eq_true rfl), (Nat.le_of_ble_eq_true rfl)⟩) hK hE hS hA hW [0] (by decide) rfl 0 rfl rfl rfl rfl hl.1 rfl (Nat.le_of_ble_eq_true rfl) dL_law_1119 (Nat.le_of_ble_eq_true rfl) (Nat.le_of_ble_eq_true rfl)) hS hA hW [0] [] rfl rfl (by decide) (by decide) (fun r31_ u H locs hw hW hS => ?_)
                have hW : zPD D _ [] H := hW
                have hw : r31_ = (if (xs 1) = 0 then 0 else (if (xs 1) = 1 then 0 else (if (xs 1) = 2 then 0 else (if (xs 1) = 3 then 0 else (if (xs 1) = 4 then 0 else (if (xs 1) = 5 then 0 else (if (xs 1) = 6 then 0 else (-2)))))))) := hw
                rw [if_neg c2_] at hw
                rw [if_neg c7_] at hw
                rw [if_neg c11_] at hw
                rw [if_neg c15_] at hw
                rw [if_neg c19_] at hw
                rw [if_neg c23_] at hw
                rw [if_neg c27_] at hw
                subst hw
                refine lv_icmp_eq (tgt := 1340) hx hb dL_law_1122 (by decide) (fun c32_ => ?_) (fun c32_ => absurd (by decide) c32_)
                exact zl_end l C0 hS (lv_sub hl [0, 3] rfl)
set_option maxHeartbeats 8000000 in
set_option maxRecDepth 100000 in
theorem zl_case_35 {p : Program} {e : Env} {s : State} {m : MethodId} {below : List Frame} {meth : Method} {c : Code} (l : Launch) {b : Nat} {xs : Nat → Int32} (C0 : lw_At p s m meth c b 6 xs) (D : va_G) (y : Nat → ClassId) (a0 : Nat) (a1 : Nat) (w2 : Value) (w3 : Value) (w4 : Value) (w5 : Value) (w6 : Value) (w7 : Value) (w8 : Value) (w9 : Value) (a10 : Nat) (w11 : Value) (w12 : Value) (w13 : Value) (w14 : Value) (w15 : Value) (w16 : Value) (w17 : Value) (w18 : Value) (w19 : Value) (w20 : Value) (w21 : Value) (w22 : Value) (w23 : Value) (w24 : Value) (w25 : Value) (w26 : Value) (w27 : Value) (w28 : Value) (w29 : Value) (w30 : Value) (w31 : Value) (w32 : Value) (w33 : Value) (w34 : Value) (w35 : Value) (w36 : Value) (w37 : Value) (w38 : Value) (w39 : Value) (w40 : Value) (w41 : Value) (w42 : Value) (w43 : Value) (w44 : Value) (w45 : Value) (w46 : Value) (w47 : Value) (w48 : Value) (w49 : Value) (w50 : Value) (w51 : Value) (w52 : Value) (w53 : Value) (w54 : Value) (w55 : Value) (w56 : Value) (w57 : Value) (w58 : Value) (w59 : Value) (w60 : Value) (w61 : Value) (w62 : Value) (w63 : Value) (w64 : Value) (w65 : Value) (w66 : Value) (w67 : Value) (w68 : Value) (w69 : Value) (w70 : Value) (w71 : Value) (w72 : Value) (w73 : Value) (w74 : Value) (w75 : Value) (w76 : Value) (w77 : Value) (w78 : Value) (w79 : Value) (w80 : Value) (w81 : Value) (w82 : Value) (a83 : Nat) (a84 : Nat) (a85 : Nat) (w86 : Value) (a87 : Nat) (a88 : Nat) (a89 : Nat) (a90 : Nat) (a91 : Nat) (a92 : Nat) (a93 : Nat) (a94 : Nat) (a95 : Nat) (a96 : Nat) (a97 : Nat) (a98 : Nat) (hK : zK D y s) (hE : zE y (fun q : Nat => s.heap.size ≤ q) s s.heap) {H : Heap} {locs : List Loc} {ls : Array Slot} (hS : va_S (fun q : Nat => s.heap.size ≤ q) s.heap H locs) (hW : zPD D (fun q : Nat => s.heap.size ≤ q) [(a0, .inr (8, [w2, w3, w4, w5, w6, w7, w8, w9, .ref a10])), (a1, .inr (9, [w11, w12, w13, w14, w15, w16, w17, w18, w19, w20, w21, w22, w23, w24, w25, w26, w27, w28, w29, w30, w31, w32, w33, w34, w35, w36, w37, w38, w39, w40, w41, w42, w43, w44, w45, w46, w47, w48, w49, w50, w51, w52, w53, w54, w55, w56, w57, w58, w59, w60, w61, w62, w63, w64, w65, w66, w67, w68, w69, w70, w71, w72, w73, w74, w75, w76, w77, w78, w79, w80, w81, w82, .ref a83, .ref a84, .ref a85, w86])), (a10, .inl (y 5, 6, .inr (.inr (.inr (.inr (va_up (va_up (va_up (va_up (va_up (va_up (fun _ => none) 0 (some a87)) 1 (some a88)) 2 (some a89)) 3 (some a90)) 4 (some a91)) 5 (some a92))))))), (a83, .inl (y 0, 6, .inl (upd (upd (upd (upd (upd (upd (fun _ => 0) 0 (-1)) 1 (-1)) 2 (-1)) 3 (-1)) 4 (-1)) 5 (-1)))), (a84, .inl (y 0, 6, .inl (fun _ => 0))), (a85, .inl (y 1, 360, .inr (.inl (fun _ => 0)))), (a87, .inr (7, [.int (-1), .int 0, .ref a93])), (a88, .inr (7, [.int (-1), .int 0, .ref a94])), (a89, .inr (7, [.int (-1), .int 0, .ref a95])), (a90, .inr (7, [.int (-1), .int 0, .ref a96])), (a91, .inr (7, [.int (-1), .int 0, .ref a97])), (a92, .inr (7, [.int (-1), .int 0, .ref a98])), (a93, .inl (y 1, 60, .inr (.inl (fun _ => 0)))), (a94, .inl (y 1, 60, .inr (.inl (fun _ => 0)))), (a95, .inl (y 1, 60, .inr (.inl (fun _ => 0)))), (a96, .inl (y 1, 60, .inr (.inl (fun _ => 0)))), (a97, .inl (y 1, 60, .inr (.inl (fun _ => 0)))), (a98, .inl (y 1, 60, .inr (.inl (fun _ => 0))))] H) (hl : lv_has ls 4 [(3, .int 0), (2, .ref a1), (1, .ref a0), (0, .ref b)]) : W p l e room_1 s m #[Value.ref b] below meth c H locs 1000 20000 (lw_Z below #[Value.ref b] s) (F0 m 1127 ls []) := by
  obtain ⟨hx, hb, hr, hml, hown, hts, hX, hbl, hlocks, hgv⟩ := id C0
  have ht : ∀ w ∈ zT, w.before #[Value.ref b] s = true := fun w h => hts w (zgin w h).1
  have hown : s.vm.findClass RL = some m.cls := hown
  have hA : ∀ q : Nat, s.heap.size ≤ q → (fun q : Nat => s.heap.size ≤ q) q := fun _ h => h
  have hbA : ¬ (fun q : Nat => s.heap.size ≤ q) b := Nat.not_le.mpr hbl
  refine lv_aload_n hx hb dL_law_1127 rfl (lv_at hl 2 rfl) ?_
  refine lv_aload_n hx hb dL_law_1128 rfl (lv_at hl 3 rfl) ?_
  refine lv_iload_n hx hb dL_law_1129 rfl (lv_at hl 0 rfl) ?_
  refine lv_iconst (v := 1) hx hb dL_law_1130 (by decide) ?_
  refine lv_iadd hx hb dL_law_1131 ?_
  refine ztop (w := .int 1) (congrArg Value.int (by decide)) ?_
  refine va_sld hx hb hX hbl hbA hS (by unfold vp_in; decide) dL_law_1132 ?_
  refine ztop (w := .int (xs 1)) rfl ?_
  refine lv_aload_n hx hb dL_law_1133 rfl (lv_at hl 3 rfl) ?_
  refine lv_iload_n hx hb dL_law_1134 rfl (lv_at hl 0 rfl) ?_
  refine lv_iconst (v := 2) hx hb dL_law_1135 (by decide) ?_
  refine lv_iadd hx hb dL_law_1136 ?_
  refine ztop (w := .int 2) (congrArg Value.int (by decide)) ?_
  refine va_sld hx hb hX hbl hbA hS (by unfold vp_in; decide) dL_law_1137 ?_
  refine ztop (w := .int (xs 2)) rfl ?_
  refine lv_aload_n hx hb dL_law_1138 rfl (lv_at hl 3 rfl) ?_
  refine lv_iload_n hx hb dL_law_1139 rfl (lv_at hl 0 rfl) ?_
  refine lv_iconst (v := 3) hx hb dL_law_1140 (by decide) ?_
  refine lv_iadd hx hb dL_law_1141 ?_
  refine ztop (w := .int 3) (congrArg Value.int (by decide)) ?_
  refine va_sld hx hb hX hbl hbA hS (by unfold vp_in; decide) dL_law_1142 ?_
  refine ztop (w := .int (xs 3)) rfl ?_
  refine zgo_i (wr := [(a1, .inr (9, [w11, w12, w13, w14, w15, w16, w17, w18, w19, w20, w21, w22, w23, w24, w25, w26, w27, w28, w29, w30, w31, w32, w33, w34, w35, w36, w37, w38, w39, w40, w41, w42, w43, w44, w45, w46, w47, w48, w49, w50, w51, w52, w53, w54, w55, w56, w57, w58, w59, w60, w61, w62, w63, w64, w65, w66, w67, w68, w69, w70, w71, w72, w73, w74, w75, w76, w77, w78, w79, w80, w81, w82, .ref a83, .ref a84, .ref a85, w86])), (a83, .inl (y 0, 6, .inl (upd (upd (upd (upd (upd (upd (fun _ => 0) 0 (-1)) 1 (-1)) 2 (-1)) 3 (-1)) 4 (-1)) 5 (-1)))), (a84, .inl (y 0, 6, .inl (fun _ => 0))), (a85, .inl (y 1, 360, .inr (.inl (fun _ => 0))))]) (zrunV (As := [.int (xs 1), .int (xs 2), .int (xs 3)]) (rest := []) ⟨hx, hb, hml, hown, ht⟩ (zc_X9_tape_0 l D y a0 (xs 1) (xs 2) (xs 3) w2 w3 w4 w5 w6 w7 w8 w9 a10 a87 a88 a89 a90 a91 a92 a93 a94 a95 a96 a97 a98) (cwV 3 ht (zgV zm_1223 zm_1224 zm_1225 zm_2 zm_1226) rfl rfl rfl (by decide +kernel) ⟨(Nat.le_of_ble_eq_true rfl), (Nat.le_of_ble_eq_true rfl)⟩) hK hE hS hA hW [0, 2, 6, 7, 8, 9, 10, 11, 12, 13, 14, 15, 16, 17] (by decide) rfl 0 rfl rfl rfl rfl hl.1 rfl (Nat.le_of_ble_eq_true rfl) dL_law_1143 (Nat.le_of_ble_eq_true rfl) (Nat.le_of_ble_eq_true rfl)) hS hA hW [0, 2, 6, 7, 8, 9, 10, 11, 12, 13, 14, 15, 16, 17] [1, 3, 4, 5] rfl rfl (by decide) (by decide) (fun r1_ u H locs hw hW hS => ?_)
  have hW : zPD D _ [(a1, .inr (9, [w11, w12, w13, w14, w15, w16, w17, w18, w19, w20, w21, w22, w23, w24, w25, w26, w27, w28, w29, w30, w31, w32, w33, w34, w35, w36, w37, w38, w39, w40, w41, w42, w43, w44, w45, w46, w47, w48, w49, w50, w51, w52, w53, w54, w55, w56, w57, w58, w59, w60, w61, w62, w63, w64, w65, w66, w67, w68, w69, w70, w71, w72, w73, w74, w75, w76, w77, w78, w79, w80, w81, w82, .ref a83, .ref a84, .ref a85, w86])), (a83, .inl (y 0, 6, .inl (upd (upd (upd (upd (upd (upd (fun _ => 0) 0 (-1)) 1 (-1)) 2 (-1)) 3 (-1)) 4 (-1)) 5 (-1)))), (a84, .inl (y 0, 6, .inl (fun _ => 0))), (a85, .inl (y 1, 360, .inr (.inl (fun _ => 0))))] H := hW
  have hw : r1_ = (if (xs 1) < 0 then (-1) else (if 5 < (xs 1) then (-1) else (if (xs 2) = (-1) then 1 else (if (xs 2) < 0 then (-2) else (if 4 < (xs 2) then (-2) else (if (xs 3) ≤ 60 then (if 0 ≤ (xs 3) then 1 else (-14)) else (-2))))))) := hw
  by_cases c2_ : (xs 1) < 0
  · have b3_ : (-2147483648) ≤ Int32.toInt (xs 1) ∧ Int32.toInt (xs 1) ≤ (-1) := (by have u0 := zbnd (xs 1); have u1 := (zi_lt _ _).mp c2_; have u2 : (0 : Int32).toInt = 0 := (by decide); omega)
    rw [if_pos c2_] at hw
    subst hw
    refine lv_aload_n hx hb dL_law_1146 rfl (lv_at hl 1 rfl) ?_
    refine lv_aload_n hx hb dL_law_1147 rfl (lv_at hl 3 rfl) ?_
    refine lv_iload_n hx hb dL_law_1148 rfl (lv_at hl 0 rfl) ?_
    refine lv_iconst (v := 1) hx hb dL_law_1149 (by decide) ?_
    refine lv_iadd hx hb dL_law_1150 ?_
    refine ztop (w := .int 1) (congrArg Value.int (by decide)) ?_
    refine va_sld hx hb hX hbl hbA hS (by unfold vp_in; decide) dL_law_1151 ?_
    refine ztop (w := .int (xs 1)) rfl ?_
    refine lv_aload_n hx hb dL_law_1152 rfl (lv_at hl 3 rfl) ?_
    refine lv_iload_n hx hb dL_law_1153 rfl (lv_at hl 0 rfl) ?_
    refine lv_iconst (v := 2) hx hb dL_law_1154 (by decide) ?_
    refine lv_iadd hx hb dL_law_1155 ?_
    refine ztop (w := .int 2) (congrArg Value.int (by decide)) ?_
    refine va_sld hx hb hX hbl hbA hS (by unfold vp_in; decide) dL_law_1156 ?_
    refine ztop (w := .int (xs 2)) rfl ?_
    refine lv_aload_n hx hb dL_law_1157 rfl (lv_at hl 3 rfl) ?_
    refine lv_iload_n hx hb dL_law_1158 rfl (lv_at hl 0 rfl) ?_
    refine lv_iconst (v := 3) hx hb dL_law_1159 (by decide) ?_
    refine lv_iadd hx hb dL_law_1160 ?_
    refine ztop (w := .int 3) (congrArg Value.int (by decide)) ?_
    refine va_sld hx hb hX hbl hbA hS (by unfold vp_in; decide) dL_law_1161 ?_
    refine ztop (w := .int (xs 3)) rfl ?_
    refine zgo_i (wr := []) (zrunV (As := [.int (xs 1), .int (xs 2), .int (xs 3)]) (rest := [.int (-1)]) ⟨hx, hb, hml, hown, ht⟩ (zc_X10_tape_0 l D y a1 (xs 1) (xs 2) (xs 3) w11 w12 w13 w14 w15 w16 w17 w18 w19 w20 w21 w22 w23 w24 w25 w26 w27 w28 w29 w30 w31 w32 w33 w34 w35 w36 w37 w38 w39 w40 w41 w42 w43 w44 w45 w46 w47 w48 w49 w50 w51 w52 w53 w54 w55 w56 w57 w58 w59 w60 w61 w62 w63 w64 w65 w66 w67 w68 w69 w70 w71 w72 w73 w74 w75 w76 w77 w78 w79 w80 w81 w82 a83 a84 a85 w86) (cwV 3 ht (zgV zm_1233 zm_1234 zm_1235 zm_5 zm_1236) rfl rfl rfl (by decide +kernel) ⟨(Nat.le_of_ble_eq_true rfl), (Nat.le_of_ble_eq_true rfl)⟩) hK hE hS hA hW [0, 1, 2, 3] (by decide) rfl 0 rfl rfl rfl rfl hl.1 rfl (Nat.le_of_ble_eq_true rfl) dL_law_1162 (Nat.le_of_ble_eq_true rfl) (Nat.le_of_ble_eq_true rfl)) hS hA hW [0, 1, 2, 3] [] rfl rfl (by decide) (by decide) (fun r4_ u H locs hw hW hS => ?_)
    have hW : zPD D _ [] H := hW
    have hw : r4_ = (if (xs 1) < 0 then (-1) else (if 5 < (xs 1) then (-1) else (if (xs 2) < (-1) then (-2) else (if 4 < (xs 2) then (-2) else (if (xs 2) < 0 then 1 else (if (xs 3) ≤ 60 then (if 0 ≤ (xs 3) then 1 else (-14)) else (-2))))))) := hw
    rw [if_pos c2_] at hw
    subst hw
    refine lv_icmp_eq (tgt := 1340) hx hb dL_law_1165 (by decide) (fun c5_ => ?_) (fun c5_ => absurd (by decide) c5_)
    exact zl_end l C0 hS (lv_sub hl [0, 3] rfl)
  · have b6_ : 0 ≤ Int32.toInt (xs 1) ∧ Int32.toInt (xs 1) ≤ 2147483647 := (by have u0 := zbnd (xs 1); have u1 := (not_congr (zi_lt _ _)).mp c2_; have u2 : (0 : Int32).toInt = 0 := (by decide); omega)
    rw [if_neg c2_] at hw
    by_cases c7_ : 5 < (xs 1)
    · have b8_ : 6 ≤ Int32.toInt (xs 1) ∧ Int32.toInt (xs 1) ≤ 2147483647 := (by have u0 := b6_; have u1 := (zi_lt _ _).mp c7_; have u2 : (5 : Int32).toInt = 5 := (by decide); omega)
      rw [if_pos c7_] at hw
      subst hw
      refine lv_aload_n hx hb dL_law_1146 rfl (lv_at hl 1 rfl) ?_
      refine lv_aload_n hx hb dL_law_1147 rfl (lv_at hl 3 rfl) ?_
      refine lv_iload_n hx hb dL_law_1148 rfl (lv_at hl 0 rfl) ?_
      refine lv_iconst (v := 1) hx hb dL_law_1149 (by decide) ?_
      refine lv_iadd hx hb dL_law_1150 ?_
      refine ztop (w := .int 1) (congrArg Value.int (by decide)) ?_
      refine va_sld hx hb hX hbl hbA hS (by unfold vp_in; decide) dL_law_1151 ?_
      refine ztop (w := .int (xs 1)) rfl ?_
      refine lv_aload_n hx hb dL_law_1152 rfl (lv_at hl 3 rfl) ?_
      refine lv_iload_n hx hb dL_law_1153 rfl (lv_at hl 0 rfl) ?_
      refine lv_iconst (v := 2) hx hb dL_law_1154 (by decide) ?_
      refine lv_iadd hx hb dL_law_1155 ?_
      refine ztop (w := .int 2) (congrArg Value.int (by decide)) ?_
      refine va_sld hx hb hX hbl hbA hS (by unfold vp_in; decide) dL_law_1156 ?_
      refine ztop (w := .int (xs 2)) rfl ?_
      refine lv_aload_n hx hb dL_law_1157 rfl (lv_at hl 3 rfl) ?_
      refine lv_iload_n hx hb dL_law_1158 rfl (lv_at hl 0 rfl) ?_
      refine lv_iconst (v := 3) hx hb dL_law_1159 (by decide) ?_
      refine lv_iadd hx hb dL_law_1160 ?_
      refine ztop (w := .int 3) (congrArg Value.int (by decide)) ?_
      refine va_sld hx hb hX hbl hbA hS (by unfold vp_in; decide) dL_law_1161 ?_
      refine ztop (w := .int (xs 3)) rfl ?_
      refine zgo_i (wr := []) (zrunV (As := [.int (xs 1), .int (xs 2), .int (xs 3)]) (rest := [.int (-1)]) ⟨hx, hb, hml, hown, ht⟩ (zc_X10_tape_0 l D y a1 (xs 1) (xs 2) (xs 3) w11 w12 w13 w14 w15 w16 w17 w18 w19 w20 w21 w22 w23 w24 w25 w26 w27 w28 w29 w30 w31 w32 w33 w34 w35 w36 w37 w38 w39 w40 w41 w42 w43 w44 w45 w46 w47 w48 w49 w50 w51 w52 w53 w54 w55 w56 w57 w58 w59 w60 w61 w62 w63 w64 w65 w66 w67 w68 w69 w70 w71 w72 w73 w74 w75 w76 w77 w78 w79 w80 w81 w82 a83 a84 a85 w86) (cwV 3 ht (zgV zm_1233 zm_1234 zm_1235 zm_5 zm_1236) rfl rfl rfl (by decide +kernel) ⟨(Nat.le_of_ble_eq_true rfl), (Nat.le_of_ble_eq_true rfl)⟩) hK hE hS hA hW [0, 1, 2, 3] (by decide) rfl 0 rfl rfl rfl rfl hl.1 rfl (Nat.le_of_ble_eq_true rfl) dL_law_1162 (Nat.le_of_ble_eq_true rfl) (Nat.le_of_ble_eq_true rfl)) hS hA hW [0, 1, 2, 3] [] rfl rfl (by decide) (by decide) (fun r9_ u H locs hw hW hS => ?_)
      have hW : zPD D _ [] H := hW
      have hw : r9_ = (if (xs 1) < 0 then (-1) else (if 5 < (xs 1) then (-1) else (if (xs 2) < (-1) then (-2) else (if 4 < (xs 2) then (-2) else (if (xs 2) < 0 then 1 else (if (xs 3) ≤ 60 then (if 0 ≤ (xs 3) then 1 else (-14)) else (-2))))))) := hw
      rw [if_neg c2_] at hw
      rw [if_pos c7_] at hw
      subst hw
      refine lv_icmp_eq (tgt := 1340) hx hb dL_law_1165 (by decide) (fun c10_ => ?_) (fun c10_ => absurd (by decide) c10_)
      exact zl_end l C0 hS (lv_sub hl [0, 3] rfl)
    · have b11_ : 0 ≤ Int32.toInt (xs 1) ∧ Int32.toInt (xs 1) ≤ 5 := (by have u0 := b6_; have u1 := (not_congr (zi_lt _ _)).mp c7_; have u2 : (5 : Int32).toInt = 5 := (by decide); omega)
      rw [if_neg c7_] at hw
      by_cases c12_ : (xs 2) = (-1)
      · have b13_ : (-1) ≤ Int32.toInt (xs 2) ∧ Int32.toInt (xs 2) ≤ (-1) := (by have u0 := zbnd (xs 2); have u1 := (zi_eq _ _).mp c12_; have u2 : ((-1) : Int32).toInt = -1 := (by decide); omega)
        rw [if_pos c12_] at hw
        subst hw
        refine lv_aload_n hx hb dL_law_1146 rfl (lv_at hl 1 rfl) ?_
        refine lv_aload_n hx hb dL_law_1147 rfl (lv_at hl 3 rfl) ?_
        refine lv_iload_n hx hb dL_law_1148 rfl (lv_at hl 0 rfl) ?_
        refine lv_iconst (v := 1) hx hb dL_law_1149 (by decide) ?_
        refine lv_iadd hx hb dL_law_1150 ?_
        refine ztop (w := .int 1) (congrArg Value.int (by decide)) ?_
        refine va_sld hx hb hX hbl hbA hS (by unfold vp_in; decide) dL_law_1151 ?_
        refine ztop (w := .int (xs 1)) rfl ?_
        refine lv_aload_n hx hb dL_law_1152 rfl (lv_at hl 3 rfl) ?_
        refine lv_iload_n hx hb dL_law_1153 rfl (lv_at hl 0 rfl) ?_
        refine lv_iconst (v := 2) hx hb dL_law_1154 (by decide) ?_
        refine lv_iadd hx hb dL_law_1155 ?_
        refine ztop (w := .int 2) (congrArg Value.int (by decide)) ?_
        refine va_sld hx hb hX hbl hbA hS (by unfold vp_in; decide) dL_law_1156 ?_
        refine ztop (w := .int (xs 2)) rfl ?_
        refine lv_aload_n hx hb dL_law_1157 rfl (lv_at hl 3 rfl) ?_
        refine lv_iload_n hx hb dL_law_1158 rfl (lv_at hl 0 rfl) ?_
        refine lv_iconst (v := 3) hx hb dL_law_1159 (by decide) ?_
        refine lv_iadd hx hb dL_law_1160 ?_
        refine ztop (w := .int 3) (congrArg Value.int (by decide)) ?_
        refine va_sld hx hb hX hbl hbA hS (by unfold vp_in; decide) dL_law_1161 ?_
        refine ztop (w := .int (xs 3)) rfl ?_
        refine zgo_i (wr := []) (zrunV (As := [.int (xs 1), .int (xs 2), .int (xs 3)]) (rest := [.int 1]) ⟨hx, hb, hml, hown, ht⟩ (zc_X10_tape_0 l D y a1 (xs 1) (xs 2) (xs 3) w11 w12 w13 w14 w15 w16 w17 w18 w19 w20 w21 w22 w23 w24 w25 w26 w27 w28 w29 w30 w31 w32 w33 w34 w35 w36 w37 w38 w39 w40 w41 w42 w43 w44 w45 w46 w47 w48 w49 w50 w51 w52 w53 w54 w55 w56 w57 w58 w59 w60 w61 w62 w63 w64 w65 w66 w67 w68 w69 w70 w71 w72 w73 w74 w75 w76 w77 w78 w79 w80 w81 w82 a83 a84 a85 w86) (cwV 3 ht (zgV zm_1233 zm_1234 zm_1235 zm_5 zm_1236) rfl rfl rfl (by decide +kernel) ⟨(Nat.le_of_ble_eq_true rfl), (Nat.le_of_ble_eq_true rfl)⟩) hK hE hS hA hW [0, 1, 2, 3] (by decide) rfl 0 rfl rfl rfl rfl hl.1 rfl (Nat.le_of_ble_eq_true rfl) dL_law_1162 (Nat.le_of_ble_eq_true rfl) (Nat.le_of_ble_eq_true rfl)) hS hA hW [0, 1, 2, 3] [] rfl rfl (by decide) (by decide) (fun r14_ u H locs hw hW hS => ?_)
        have hW : zPD D _ [] H := hW
        have hw : r14_ = (if (xs 1) < 0 then (-1) else (if 5 < (xs 1) then (-1) else (if (xs 2) < (-1) then (-2) else (if 4 < (xs 2) then (-2) else (if (xs 2) < 0 then 1 else (if (xs 3) ≤ 60 then (if 0 ≤ (xs 3) then 1 else (-14)) else (-2))))))) := hw
        rw [if_neg c2_] at hw
        rw [if_neg c7_] at hw
        rw [if_neg (by have z0 := b13_; have e0 : ((-1) : Int32).toInt = -1 := (by decide); rw [zi_lt]; omega)] at hw
        rw [if_neg (by have z0 := b13_; have e0 : (4 : Int32).toInt = 4 := (by decide); rw [zi_lt]; omega)] at hw
        rw [if_pos (by have z0 := b13_; have e0 : (0 : Int32).toInt = 0 := (by decide); rw [zi_lt]; omega)] at hw
        subst hw
        refine lv_icmp_eq (tgt := 1340) hx hb dL_law_1165 (by decide) (fun c15_ => ?_) (fun c15_ => absurd (by decide) c15_)
        exact zl_end l C0 hS (lv_sub hl [0, 3] rfl)
      · have b16_ : (-2147483648) ≤ Int32.toInt (xs 2) ∧ Int32.toInt (xs 2) ≤ 2147483647 := (by have u0 := zbnd (xs 2); have u1 := (not_congr (zi_eq _ _)).mp c12_; have u2 : ((-1) : Int32).toInt = -1 := (by decide); omega)
        rw [if_neg c12_] at hw
        by_cases c17_ : (xs 2) < 0
        · have b18_ : (-2147483648) ≤ Int32.toInt (xs 2) ∧ Int32.toInt (xs 2) ≤ (-2) := (by have u0 := b16_; have u1 := (zi_lt _ _).mp c17_; have u2 : (0 : Int32).toInt = 0 := (by decide); have v1 := (not_congr (zi_eq _ _)).mp c12_; have w1 : ((-1) : Int32).toInt = -1 := (by decide); omega)
          rw [if_pos c17_] at hw
          subst hw
          refine lv_aload_n hx hb dL_law_1146 rfl (lv_at hl 1 rfl) ?_
          refine lv_aload_n hx hb dL_law_1147 rfl (lv_at hl 3 rfl) ?_
          refine lv_iload_n hx hb dL_law_1148 rfl (lv_at hl 0 rfl) ?_
          refine lv_iconst (v := 1) hx hb dL_law_1149 (by decide) ?_
          refine lv_iadd hx hb dL_law_1150 ?_
          refine ztop (w := .int 1) (congrArg Value.int (by decide)) ?_
          refine va_sld hx hb hX hbl hbA hS (by unfold vp_in; decide) dL_law_1151 ?_
          refine ztop (w := .int (xs 1)) rfl ?_
          refine lv_aload_n hx hb dL_law_1152 rfl (lv_at hl 3 rfl) ?_
          refine lv_iload_n hx hb dL_law_1153 rfl (lv_at hl 0 rfl) ?_
          refine lv_iconst (v := 2) hx hb dL_law_1154 (by decide) ?_
          refine lv_iadd hx hb dL_law_1155 ?_
          refine ztop (w := .int 2) (congrArg Value.int (by decide)) ?_
          refine va_sld hx hb hX hbl hbA hS (by unfold vp_in; decide) dL_law_1156 ?_
          refine ztop (w := .int (xs 2)) rfl ?_
          refine lv_aload_n hx hb dL_law_1157 rfl (lv_at hl 3 rfl) ?_
          refine lv_iload_n hx hb dL_law_1158 rfl (lv_at hl 0 rfl) ?_
          refine lv_iconst (v := 3) hx hb dL_law_1159 (by decide) ?_
          refine lv_iadd hx hb dL_law_1160 ?_
          refine ztop (w := .int 3) (congrArg Value.int (by decide)) ?_
          refine va_sld hx hb hX hbl hbA hS (by unfold vp_in; decide) dL_law_1161 ?_
          refine ztop (w := .int (xs 3)) rfl ?_
          refine zgo_i (wr := []) (zrunV (As := [.int (xs 1), .int (xs 2), .int (xs 3)]) (rest := [.int (-2)]) ⟨hx, hb, hml, hown, ht⟩ (zc_X10_tape_0 l D y a1 (xs 1) (xs 2) (xs 3) w11 w12 w13 w14 w15 w16 w17 w18 w19 w20 w21 w22 w23 w24 w25 w26 w27 w28 w29 w30 w31 w32 w33 w34 w35 w36 w37 w38 w39 w40 w41 w42 w43 w44 w45 w46 w47 w48 w49 w50 w51 w52 w53 w54 w55 w56 w57 w58 w59 w60 w61 w62 w63 w64 w65 w66 w67 w68 w69 w70 w71 w72 w73 w74 w75 w76 w77 w78 w79 w80 w81 w82 a83 a84 a85 w86) (cwV 3 ht (zgV zm_1233 zm_1234 zm_1235 zm_5 zm_1236) rfl rfl rfl (by decide +kernel) ⟨(Nat.le_of_ble_eq_true rfl), (Nat.le_of_ble_eq_true rfl)⟩) hK hE hS hA hW [0, 1, 2, 3] (by decide) rfl 0 rfl rfl rfl rfl hl.1 rfl (Nat.le_of_ble_eq_true rfl) dL_law_1162 (Nat.le_of_ble_eq_true rfl) (Nat.le_of_ble_eq_true rfl)) hS hA hW [0, 1, 2, 3] [] rfl rfl (by decide) (by decide) (fun r19_ u H locs hw hW hS => ?_)
          have hW : zPD D _ [] H := hW
          have hw : r19_ = (if (xs 1) < 0 then (-1) else (if 5 < (xs 1) then (-1) else (if (xs 2) < (-1) then (-2) else (if 4 < (xs 2) then (-2) else (if (xs 2) < 0 then 1 else (if (xs 3) ≤ 60 then (if 0 ≤ (xs 3) then 1 else (-14)) else (-2))))))) := hw
          rw [if_neg c2_] at hw
          rw [if_neg c7_] at hw
          rw [if_pos (by have z0 := b18_; have e0 : ((-1) : Int32).toInt = -1 := (by decide); rw [zi_lt]; omega)] at hw
          subst hw
          refine lv_icmp_eq (tgt := 1340) hx hb dL_law_1165 (by decide) (fun c20_ => ?_) (fun c20_ => absurd (by decide) c20_)
          exact zl_end l C0 hS (lv_sub hl [0, 3] rfl)
        · have b21_ : 0 ≤ Int32.toInt (xs 2) ∧ Int32.toInt (xs 2) ≤ 2147483647 := (by have u0 := b16_; have u1 := (not_congr (zi_lt _ _)).mp c17_; have u2 : (0 : Int32).toInt = 0 := (by decide); omega)
          rw [if_neg c17_] at hw
          by_cases c22_ : 4 < (xs 2)
          · have b23_ : 5 ≤ Int32.toInt (xs 2) ∧ Int32.toInt (xs 2) ≤ 2147483647 := (by have u0 := b21_; have u1 := (zi_lt _ _).mp c22_; have u2 : (4 : Int32).toInt = 4 := (by decide); omega)
            rw [if_pos c22_] at hw
            subst hw
            refine lv_aload_n hx hb dL_law_1146 rfl (lv_at hl 1 rfl) ?_
            refine lv_aload_n hx hb dL_law_1147 rfl (lv_at hl 3 rfl) ?_
            refine lv_iload_n hx hb dL_law_1148 rfl (lv_at hl 0 rfl) ?_
            refine lv_iconst (v := 1) hx hb dL_law_1149 (by decide) ?_
            refine lv_iadd hx hb dL_law_1150 ?_
            refine ztop (w := .int 1) (congrArg Value.int (by decide)) ?_
            refine va_sld hx hb hX hbl hbA hS (by unfold vp_in; decide) dL_law_1151 ?_
            refine ztop (w := .int (xs 1)) rfl ?_
            refine lv_aload_n hx hb dL_law_1152 rfl (lv_at hl 3 rfl) ?_
            refine lv_iload_n hx hb dL_law_1153 rfl (lv_at hl 0 rfl) ?_
            refine lv_iconst (v := 2) hx hb dL_law_1154 (by decide) ?_
            refine lv_iadd hx hb dL_law_1155 ?_
            refine ztop (w := .int 2) (congrArg Value.int (by decide)) ?_
            refine va_sld hx hb hX hbl hbA hS (by unfold vp_in; decide) dL_law_1156 ?_
            refine ztop (w := .int (xs 2)) rfl ?_
            refine lv_aload_n hx hb dL_law_1157 rfl (lv_at hl 3 rfl) ?_
            refine lv_iload_n hx hb dL_law_1158 rfl (lv_at hl 0 rfl) ?_
            refine lv_iconst (v := 3) hx hb dL_law_1159 (by decide) ?_
            refine lv_iadd hx hb dL_law_1160 ?_
            refine ztop (w := .int 3) (congrArg Value.int (by decide)) ?_
            refine va_sld hx hb hX hbl hbA hS (by unfold vp_in; decide) dL_law_1161 ?_
            refine ztop (w := .int (xs 3)) rfl ?_
            refine zgo_i (wr := []) (zrunV (As := [.int (xs 1), .int (xs 2), .int (xs 3)]) (rest := [.int (-2)]) ⟨hx, hb, hml, hown, ht⟩ (zc_X10_tape_0 l D y a1 (xs 1) (xs 2) (xs 3) w11 w12 w13 w14 w15 w16 w17 w18 w19 w20 w21 w22 w23 w24 w25 w26 w27 w28 w29 w30 w31 w32 w33 w34 w35 w36 w37 w38 w39 w40 w41 w42 w43 w44 w45 w46 w47 w48 w49 w50 w51 w52 w53 w54 w55 w56 w57 w58 w59 w60 w61 w62 w63 w64 w65 w66 w67 w68 w69 w70 w71 w72 w73 w74 w75 w76 w77 w78 w79 w80 w81 w82 a83 a84 a85 w86) (cwV 3 ht (zgV zm_1233 zm_1234 zm_1235 zm_5 zm_1236) rfl rfl rfl (by decide +kernel) ⟨(Nat.le_of_ble_eq_true rfl), (Nat.le_of_ble_eq_true rfl)⟩) hK hE hS hA hW [0, 1, 2, 3] (by decide) rfl 0 rfl rfl rfl rfl hl.1 rfl (Nat.le_of_ble_eq_true rfl) dL_law_1162 (Nat.le_of_ble_eq_true rfl) (Nat.le_of_ble_eq_true rfl)) hS hA hW [0, 1, 2, 3] [] rfl rfl (by decide) (by decide) (fun r24_ u H locs hw hW hS => ?_)
            have hW : zPD D _ [] H := hW
            have hw : r24_ = (if (xs 1) < 0 then (-1) else (if 5 < (xs 1) then (-1) else (if (xs 2) < (-1) then (-2) else (if 4 < (xs 2) then (-2) else (if (xs 2) < 0 then 1 else (if (xs 3) ≤ 60 then (if 0 ≤ (xs 3) then 1 else (-14)) else (-2))))))) := hw
            rw [if_neg c2_] at hw
            rw [if_neg c7_] at hw
            rw [if_neg (by have z0 := b23_; have e0 : ((-1) : Int32).toInt = -1 := (by decide); rw [zi_lt]; omega)] at hw
            rw [if_pos c22_] at hw
            subst hw
            refine lv_icmp_eq (tgt := 1340) hx hb dL_law_1165 (by decide) (fun c25_ => ?_) (fun c25_ => absurd (by decide) c25_)
            exact zl_end l C0 hS (lv_sub hl [0, 3] rfl)
          · have b26_ : 0 ≤ Int32.toInt (xs 2) ∧ Int32.toInt (xs 2) ≤ 4 := (by have u0 := b21_; have u1 := (not_congr (zi_lt _ _)).mp c22_; have u2 : (4 : Int32).toInt = 4 := (by decide); omega)
            rw [if_neg c22_] at hw
            by_cases c27_ : (xs 3) ≤ 60
            · have b28_ : (-2147483648) ≤ Int32.toInt (xs 3) ∧ Int32.toInt (xs 3) ≤ 60 := (by have u0 := zbnd (xs 3); have u1 := (zi_le _ _).mp c27_; have u2 : (60 : Int32).toInt = 60 := (by decide); omega)
              rw [if_pos c27_] at hw
              by_cases c29_ : 0 ≤ (xs 3)
              · have b30_ : 0 ≤ Int32.toInt (xs 3) ∧ Int32.toInt (xs 3) ≤ 60 := (by have u0 := b28_; have u1 := (zi_le _ _).mp c29_; have u2 : (0 : Int32).toInt = 0 := (by decide); omega)
                rw [if_pos c29_] at hw
                subst hw
                refine lv_aload_n hx hb dL_law_1146 rfl (lv_at hl 1 rfl) ?_
                refine lv_aload_n hx hb dL_law_1147 rfl (lv_at hl 3 rfl) ?_
                refine lv_iload_n hx hb dL_law_1148 rfl (lv_at hl 0 rfl) ?_
                refine lv_iconst (v := 1) hx hb dL_law_1149 (by decide) ?_
                refine lv_iadd hx hb dL_law_1150 ?_
                refine ztop (w := .int 1) (congrArg Value.int (by decide)) ?_
                refine va_sld hx hb hX hbl hbA hS (by unfold vp_in; decide) dL_law_1151 ?_
                refine ztop (w := .int (xs 1)) rfl ?_
                refine lv_aload_n hx hb dL_law_1152 rfl (lv_at hl 3 rfl) ?_
                refine lv_iload_n hx hb dL_law_1153 rfl (lv_at hl 0 rfl) ?_
                refine lv_iconst (v := 2) hx hb dL_law_1154 (by decide) ?_
                refine lv_iadd hx hb dL_law_1155 ?_
                refine ztop (w := .int 2) (congrArg Value.int (by decide)) ?_
                refine va_sld hx hb hX hbl hbA hS (by unfold vp_in; decide) dL_law_1156 ?_
                refine ztop (w := .int (xs 2)) rfl ?_
                refine lv_aload_n hx hb dL_law_1157 rfl (lv_at hl 3 rfl) ?_
                refine lv_iload_n hx hb dL_law_1158 rfl (lv_at hl 0 rfl) ?_
                refine lv_iconst (v := 3) hx hb dL_law_1159 (by decide) ?_
                refine lv_iadd hx hb dL_law_1160 ?_
                refine ztop (w := .int 3) (congrArg Value.int (by decide)) ?_
                refine va_sld hx hb hX hbl hbA hS (by unfold vp_in; decide) dL_law_1161 ?_
                refine ztop (w := .int (xs 3)) rfl ?_
                refine zgo_i (wr := []) (zrunV (As := [.int (xs 1), .int (xs 2), .int (xs 3)]) (rest := [.int 1]) ⟨hx, hb, hml, hown, ht⟩ (zc_X10_tape_0 l D y a1 (xs 1) (xs 2) (xs 3) w11 w12 w13 w14 w15 w16 w17 w18 w19 w20 w21 w22 w23 w24 w25 w26 w27 w28 w29 w30 w31 w32 w33 w34 w35 w36 w37 w38 w39 w40 w41 w42 w43 w44 w45 w46 w47 w48 w49 w50 w51 w52 w53 w54 w55 w56 w57 w58 w59 w60 w61 w62 w63 w64 w65 w66 w67 w68 w69 w70 w71 w72 w73 w74 w75 w76 w77 w78 w79 w80 w81 w82 a83 a84 a85 w86) (cwV 3 ht (zgV zm_1233 zm_1234 zm_1235 zm_5 zm_1236) rfl rfl rfl (by decide +kernel) ⟨(Nat.le_of_ble_eq_true rfl), (Nat.le_of_ble_eq_true rfl)⟩) hK hE hS hA hW [0, 1, 2, 3] (by decide) rfl 0 rfl rfl rfl rfl hl.1 rfl (Nat.le_of_ble_eq_true rfl) dL_law_1162 (Nat.le_of_ble_eq_true rfl) (Nat.le_of_ble_eq_true rfl)) hS hA hW [0, 1, 2, 3] [] rfl rfl (by decide) (by decide) (fun r31_ u H locs hw hW hS => ?_)
                have hW : zPD D _ [] H := hW
                have hw : r31_ = (if (xs 1) < 0 then (-1) else (if 5 < (xs 1) then (-1) else (if (xs 2) < (-1) then (-2) else (if 4 < (xs 2) then (-2) else (if (xs 2) < 0 then 1 else (if (xs 3) ≤ 60 then (if 0 ≤ (xs 3) then 1 else (-14)) else (-2))))))) := hw
                rw [if_neg c2_] at hw
                rw [if_neg c7_] at hw
                rw [if_neg (by have z0 := b26_; have e0 : ((-1) : Int32).toInt = -1 := (by decide); rw [zi_lt]; omega)] at hw
                rw [if_neg c22_] at hw
                rw [if_neg c17_] at hw
                rw [if_pos c27_] at hw
                rw [if_pos c29_] at hw
                subst hw
                refine lv_icmp_eq (tgt := 1340) hx hb dL_law_1165 (by decide) (fun c32_ => ?_) (fun c32_ => absurd (by decide) c32_)
                exact zl_end l C0 hS (lv_sub hl [0, 3] rfl)
              · have b33_ : (-2147483648) ≤ Int32.toInt (xs 3) ∧ Int32.toInt (xs 3) ≤ (-1) := (by have u0 := b28_; have u1 := (not_congr (zi_le _ _)).mp c29_; have u2 : (0 : Int32).toInt = 0 := (by decide); omega)
                rw [if_neg c29_] at hw
                subst hw
                refine lv_aload_n hx hb dL_law_1146 rfl (lv_at hl 1 rfl) ?_
                refine lv_aload_n hx hb dL_law_1147 rfl (lv_at hl 3 rfl) ?_
                refine lv_iload_n hx hb dL_law_1148 rfl (lv_at hl 0 rfl) ?_
                refine lv_iconst (v := 1) hx hb dL_law_1149 (by decide) ?_
                refine lv_iadd hx hb dL_law_1150 ?_
                refine ztop (w := .int 1) (congrArg Value.int (by decide)) ?_
                refine va_sld hx hb hX hbl hbA hS (by unfold vp_in; decide) dL_law_1151 ?_
                refine ztop (w := .int (xs 1)) rfl ?_
                refine lv_aload_n hx hb dL_law_1152 rfl (lv_at hl 3 rfl) ?_
                refine lv_iload_n hx hb dL_law_1153 rfl (lv_at hl 0 rfl) ?_
                refine lv_iconst (v := 2) hx hb dL_law_1154 (by decide) ?_
                refine lv_iadd hx hb dL_law_1155 ?_
                refine ztop (w := .int 2) (congrArg Value.int (by decide)) ?_
                refine va_sld hx hb hX hbl hbA hS (by unfold vp_in; decide) dL_law_1156 ?_
                refine ztop (w := .int (xs 2)) rfl ?_
                refine lv_aload_n hx hb dL_law_1157 rfl (lv_at hl 3 rfl) ?_
                refine lv_iload_n hx hb dL_law_1158 rfl (lv_at hl 0 rfl) ?_
                refine lv_iconst (v := 3) hx hb dL_law_1159 (by decide) ?_
                refine lv_iadd hx hb dL_law_1160 ?_
                refine ztop (w := .int 3) (congrArg Value.int (by decide)) ?_
                refine va_sld hx hb hX hbl hbA hS (by unfold vp_in; decide) dL_law_1161 ?_
                refine ztop (w := .int (xs 3)) rfl ?_
                refine zgo_i (wr := []) (zrunV (As := [.int (xs 1), .int (xs 2), .int (xs 3)]) (rest := [.int (-14)]) ⟨hx, hb, hml, hown, ht⟩ (zc_X10_tape_0 l D y a1 (xs 1) (xs 2) (xs 3) w11 w12 w13 w14 w15 w16 w17 w18 w19 w20 w21 w22 w23 w24 w25 w26 w27 w28 w29 w30 w31 w32 w33 w34 w35 w36 w37 w38 w39 w40 w41 w42 w43 w44 w45 w46 w47 w48 w49 w50 w51 w52 w53 w54 w55 w56 w57 w58 w59 w60 w61 w62 w63 w64 w65 w66 w67 w68 w69 w70 w71 w72 w73 w74 w75 w76 w77 w78 w79 w80 w81 w82 a83 a84 a85 w86) (cwV 3 ht (zgV zm_1233 zm_1234 zm_1235 zm_5 zm_1236) rfl rfl rfl (by decide +kernel) ⟨(Nat.le_of_ble_eq_true rfl), (Nat.le_of_ble_eq_true rfl)⟩) hK hE hS hA hW [0, 1, 2, 3] (by decide) rfl 0 rfl rfl rfl rfl hl.1 rfl (Nat.le_of_ble_eq_true rfl) dL_law_1162 (Nat.le_of_ble_eq_true rfl) (Nat.le_of_ble_eq_true rfl)) hS hA hW [0, 1, 2, 3] [] rfl rfl (by decide) (by decide) (fun r34_ u H locs hw hW hS => ?_)
                have hW : zPD D _ [] H := hW
                have hw : r34_ = (if (xs 1) < 0 then (-1) else (if 5 < (xs 1) then (-1) else (if (xs 2) < (-1) then (-2) else (if 4 < (xs 2) then (-2) else (if (xs 2) < 0 then 1 else (if (xs 3) ≤ 60 then (if 0 ≤ (xs 3) then 1 else (-14)) else (-2))))))) := hw
                rw [if_neg c2_] at hw
                rw [if_neg c7_] at hw
                rw [if_neg (by have z0 := b26_; have e0 : ((-1) : Int32).toInt = -1 := (by decide); rw [zi_lt]; omega)] at hw
                rw [if_neg c22_] at hw
                rw [if_neg c17_] at hw
                rw [if_pos c27_] at hw
                rw [if_neg c29_] at hw
                subst hw
                refine lv_icmp_eq (tgt := 1340) hx hb dL_law_1165 (by decide) (fun c35_ => ?_) (fun c35_ => absurd (by decide) c35_)
                exact zl_end l C0 hS (lv_sub hl [0, 3] rfl)
            · have b36_ : 61 ≤ Int32.toInt (xs 3) ∧ Int32.toInt (xs 3) ≤ 2147483647 := (by have u0 := zbnd (xs 3); have u1 := (not_congr (zi_le _ _)).mp c27_; have u2 : (60 : Int32).toInt = 60 := (by decide); omega)
              rw [if_neg c27_] at hw
              subst hw
              refine lv_aload_n hx hb dL_law_1146 rfl (lv_at hl 1 rfl) ?_
              refine lv_aload_n hx hb dL_law_1147 rfl (lv_at hl 3 rfl) ?_
              refine lv_iload_n hx hb dL_law_1148 rfl (lv_at hl 0 rfl) ?_
              refine lv_iconst (v := 1) hx hb dL_law_1149 (by decide) ?_
              refine lv_iadd hx hb dL_law_1150 ?_
              refine ztop (w := .int 1) (congrArg Value.int (by decide)) ?_
              refine va_sld hx hb hX hbl hbA hS (by unfold vp_in; decide) dL_law_1151 ?_
              refine ztop (w := .int (xs 1)) rfl ?_
              refine lv_aload_n hx hb dL_law_1152 rfl (lv_at hl 3 rfl) ?_
              refine lv_iload_n hx hb dL_law_1153 rfl (lv_at hl 0 rfl) ?_
              refine lv_iconst (v := 2) hx hb dL_law_1154 (by decide) ?_
              refine lv_iadd hx hb dL_law_1155 ?_
              refine ztop (w := .int 2) (congrArg Value.int (by decide)) ?_
              refine va_sld hx hb hX hbl hbA hS (by unfold vp_in; decide) dL_law_1156 ?_
              refine ztop (w := .int (xs 2)) rfl ?_
              refine lv_aload_n hx hb dL_law_1157 rfl (lv_at hl 3 rfl) ?_
              refine lv_iload_n hx hb dL_law_1158 rfl (lv_at hl 0 rfl) ?_
              refine lv_iconst (v := 3) hx hb dL_law_1159 (by decide) ?_
              refine lv_iadd hx hb dL_law_1160 ?_
              refine ztop (w := .int 3) (congrArg Value.int (by decide)) ?_
              refine va_sld hx hb hX hbl hbA hS (by unfold vp_in; decide) dL_law_1161 ?_
              refine ztop (w := .int (xs 3)) rfl ?_
              refine zgo_i (wr := []) (zrunV (As := [.int (xs 1), .int (xs 2), .int (xs 3)]) (rest := [.int (-2)]) ⟨hx, hb, hml, hown, ht⟩ (zc_X10_tape_0 l D y a1 (xs 1) (xs 2) (xs 3) w11 w12 w13 w14 w15 w16 w17 w18 w19 w20 w21 w22 w23 w24 w25 w26 w27 w28 w29 w30 w31 w32 w33 w34 w35 w36 w37 w38 w39 w40 w41 w42 w43 w44 w45 w46 w47 w48 w49 w50 w51 w52 w53 w54 w55 w56 w57 w58 w59 w60 w61 w62 w63 w64 w65 w66 w67 w68 w69 w70 w71 w72 w73 w74 w75 w76 w77 w78 w79 w80 w81 w82 a83 a84 a85 w86) (cwV 3 ht (zgV zm_1233 zm_1234 zm_1235 zm_5 zm_1236) rfl rfl rfl (by decide +kernel) ⟨(Nat.le_of_ble_eq_true rfl), (Nat.le_of_ble_eq_true rfl)⟩) hK hE hS hA hW [0, 1, 2, 3] (by decide) rfl 0 rfl rfl rfl rfl hl.1 rfl (Nat.le_of_ble_eq_true rfl) dL_law_1162 (Nat.le_of_ble_eq_true rfl) (Nat.le_of_ble_eq_true rfl)) hS hA hW [0, 1, 2, 3] [] rfl rfl (by decide) (by decide) (fun r37_ u H locs hw hW hS => ?_)
              have hW : zPD D _ [] H := hW
              have hw : r37_ = (if (xs 1) < 0 then (-1) else (if 5 < (xs 1) then (-1) else (if (xs 2) < (-1) then (-2) else (if 4 < (xs 2) then (-2) else (if (xs 2) < 0 then 1 else (if (xs 3) ≤ 60 then (if 0 ≤ (xs 3) then 1 else (-14)) else (-2))))))) := hw
              rw [if_neg c2_] at hw
              rw [if_neg c7_] at hw
              rw [if_neg (by have z0 := b26_; have e0 : ((-1) : Int32).toInt = -1 := (by decide); rw [zi_lt]; omega)] at hw
              rw [if_neg c22_] at hw
              rw [if_neg c17_] at hw
              rw [if_neg c27_] at hw
              subst hw
              refine lv_icmp_eq (tgt := 1340) hx hb dL_law_1165 (by decide) (fun c38_ => ?_) (fun c38_ => absurd (by decide) c38_)
              exact zl_end l C0 hS (lv_sub hl [0, 3] rfl)
set_option maxHeartbeats 8000000 in
set_option maxRecDepth 100000 in
theorem zl_case_36 {p : Program} {e : Env} {s : State} {m : MethodId} {below : List Frame} {meth : Method} {c : Code} (l : Launch) {b : Nat} {xs : Nat → Int32} (C0 : lw_At p s m meth c b 6 xs) (D : va_G) (y : Nat → ClassId) (a0 : Nat) (a1 : Nat) (w2 : Value) (w3 : Value) (w4 : Value) (w5 : Value) (w6 : Value) (w7 : Value) (w8 : Value) (w9 : Value) (a10 : Nat) (w11 : Value) (w12 : Value) (w13 : Value) (w14 : Value) (w15 : Value) (w16 : Value) (w17 : Value) (w18 : Value) (w19 : Value) (w20 : Value) (w21 : Value) (w22 : Value) (w23 : Value) (w24 : Value) (w25 : Value) (w26 : Value) (w27 : Value) (w28 : Value) (w29 : Value) (w30 : Value) (w31 : Value) (w32 : Value) (w33 : Value) (w34 : Value) (w35 : Value) (w36 : Value) (w37 : Value) (w38 : Value) (w39 : Value) (w40 : Value) (w41 : Value) (w42 : Value) (w43 : Value) (w44 : Value) (w45 : Value) (w46 : Value) (w47 : Value) (w48 : Value) (w49 : Value) (w50 : Value) (w51 : Value) (w52 : Value) (w53 : Value) (w54 : Value) (w55 : Value) (w56 : Value) (w57 : Value) (w58 : Value) (w59 : Value) (w60 : Value) (w61 : Value) (w62 : Value) (w63 : Value) (w64 : Value) (w65 : Value) (w66 : Value) (w67 : Value) (w68 : Value) (w69 : Value) (w70 : Value) (w71 : Value) (w72 : Value) (w73 : Value) (w74 : Value) (w75 : Value) (w76 : Value) (w77 : Value) (w78 : Value) (w79 : Value) (w80 : Value) (w81 : Value) (w82 : Value) (a83 : Nat) (w84 : Value) (w85 : Value) (w86 : Value) (a87 : Nat) (a88 : Nat) (a89 : Nat) (a90 : Nat) (a91 : Nat) (a92 : Nat) (w93 : Value) (w94 : Value) (w95 : Value) (w96 : Value) (w97 : Value) (w98 : Value) (w99 : Value) (w100 : Value) (w101 : Value) (w102 : Value) (w103 : Value) (w104 : Value) (hK : zK D y s) (hE : zE y (fun q : Nat => s.heap.size ≤ q) s s.heap) {H : Heap} {locs : List Loc} {ls : Array Slot} (hS : va_S (fun q : Nat => s.heap.size ≤ q) s.heap H locs) (hW : zPD D (fun q : Nat => s.heap.size ≤ q) [(a0, .inr (8, [w2, w3, w4, w5, w6, w7, w8, w9, .ref a10])), (a1, .inr (9, [w11, w12, w13, w14, w15, w16, w17, w18, w19, w20, w21, w22, w23, w24, w25, w26, w27, w28, w29, w30, w31, w32, w33, w34, w35, w36, w37, w38, w39, w40, w41, w42, w43, w44, w45, w46, w47, w48, w49, w50, w51, w52, w53, w54, w55, w56, w57, w58, w59, w60, w61, w62, w63, w64, w65, w66, w67, w68, w69, w70, w71, w72, w73, w74, w75, w76, w77, w78, w79, w80, w81, w82, .ref a83, w84, w85, w86])), (a10, .inl (y 5, 6, .inr (.inr (.inr (.inr (va_up (va_up (va_up (va_up (va_up (va_up (fun _ => none) 0 (some a87)) 1 (some a88)) 2 (some a89)) 3 (some a90)) 4 (some a91)) 5 (some a92))))))), (a83, .inl (y 0, 6, .inl (upd (upd (upd (upd (upd (upd (fun _ => 0) 0 (-1)) 1 (-1)) 2 (-1)) 3 (-1)) 4 (-1)) 5 (-1)))), (a87, .inr (7, [.int (-1), w93, w94])), (a88, .inr (7, [.int (-1), w95, w96])), (a89, .inr (7, [.int (-1), w97, w98])), (a90, .inr (7, [.int (-1), w99, w100])), (a91, .inr (7, [.int (-1), w101, w102])), (a92, .inr (7, [.int (-1), w103, w104]))] H) (hl : lv_has ls 4 [(3, .int 0), (2, .ref a1), (1, .ref a0), (0, .ref b)]) : W p l e room_1 s m #[Value.ref b] below meth c H locs 1000 20000 (lw_Z below #[Value.ref b] s) (F0 m 1170 ls []) := by
  obtain ⟨hx, hb, hr, hml, hown, hts, hX, hbl, hlocks, hgv⟩ := id C0
  have ht : ∀ w ∈ zT, w.before #[Value.ref b] s = true := fun w h => hts w (zgin w h).1
  have hown : s.vm.findClass RL = some m.cls := hown
  have hA : ∀ q : Nat, s.heap.size ≤ q → (fun q : Nat => s.heap.size ≤ q) q := fun _ h => h
  have hbA : ¬ (fun q : Nat => s.heap.size ≤ q) b := Nat.not_le.mpr hbl
  refine lv_aload_n hx hb dL_law_1170 rfl (lv_at hl 2 rfl) ?_
  refine lv_aload_n hx hb dL_law_1171 rfl (lv_at hl 3 rfl) ?_
  refine lv_iload_n hx hb dL_law_1172 rfl (lv_at hl 0 rfl) ?_
  refine lv_iconst (v := 1) hx hb dL_law_1173 (by decide) ?_
  refine lv_iadd hx hb dL_law_1174 ?_
  refine ztop (w := .int 1) (congrArg Value.int (by decide)) ?_
  refine va_sld hx hb hX hbl hbA hS (by unfold vp_in; decide) dL_law_1175 ?_
  refine ztop (w := .int (xs 1)) rfl ?_
  refine lv_aload_n hx hb dL_law_1176 rfl (lv_at hl 3 rfl) ?_
  refine lv_iload_n hx hb dL_law_1177 rfl (lv_at hl 0 rfl) ?_
  refine lv_iconst (v := 2) hx hb dL_law_1178 (by decide) ?_
  refine lv_iadd hx hb dL_law_1179 ?_
  refine ztop (w := .int 2) (congrArg Value.int (by decide)) ?_
  refine va_sld hx hb hX hbl hbA hS (by unfold vp_in; decide) dL_law_1180 ?_
  refine ztop (w := .int (xs 2)) rfl ?_
  refine lv_aload_n hx hb dL_law_1181 rfl (lv_at hl 3 rfl) ?_
  refine lv_iload_n hx hb dL_law_1182 rfl (lv_at hl 0 rfl) ?_
  refine lv_iconst (v := 3) hx hb dL_law_1183 (by decide) ?_
  refine lv_iadd hx hb dL_law_1184 ?_
  refine ztop (w := .int 3) (congrArg Value.int (by decide)) ?_
  refine va_sld hx hb hX hbl hbA hS (by unfold vp_in; decide) dL_law_1185 ?_
  refine ztop (w := .int (xs 3)) rfl ?_
  refine lv_i2l (v := (xs 3).toInt64) hx hb dL_law_1186 rfl ?_
  refine lv_bipush (v := 32) hx hb dL_law_1187 (by decide) ?_
  refine lv_lshl (v := ((xs 3).toInt64 <<< (Int32.toInt64 32 &&& 63))) hx hb dL_law_1189 rfl ?_
  refine lv_aload_n hx hb dL_law_1190 rfl (lv_at hl 3 rfl) ?_
  refine lv_iload_n hx hb dL_law_1191 rfl (lv_at hl 0 rfl) ?_
  refine lv_iconst (v := 4) hx hb dL_law_1192 (by decide) ?_
  refine lv_iadd hx hb dL_law_1193 ?_
  refine ztop (w := .int 4) (congrArg Value.int (by decide)) ?_
  refine va_sld hx hb hX hbl hbA hS (by unfold vp_in; decide) dL_law_1194 ?_
  refine ztop (w := .int (xs 4)) rfl ?_
  refine lv_i2l (v := (xs 4).toInt64) hx hb dL_law_1195 rfl ?_
  refine lv_ldc2 (v := 4294967295) hx hb hown (ht _ zm_6) dL_law_1196 ?_
  refine lv_land hx hb dL_law_1199 ?_
  refine lv_lor hx hb dL_law_1200 ?_
  refine zgo_i (wr := [(a1, .inr (9, [w11, w12, w13, w14, w15, w16, w17, w18, w19, w20, w21, w22, w23, w24, w25, w26, w27, w28, w29, w30, w31, w32, w33, w34, w35, w36, w37, w38, w39, w40, w41, w42, w43, w44, w45, w46, w47, w48, w49, w50, w51, w52, w53, w54, w55, w56, w57, w58, w59, w60, w61, w62, w63, w64, w65, w66, w67, w68, w69, w70, w71, w72, w73, w74, w75, w76, w77, w78, w79, w80, w81, w82, .ref a83, w84, w85, w86])), (a83, .inl (y 0, 6, .inl (upd (upd (upd (upd (upd (upd (fun _ => 0) 0 (-1)) 1 (-1)) 2 (-1)) 3 (-1)) 4 (-1)) 5 (-1))))]) (zrunV (As := [.int (xs 1), .int (xs 2), .long (((xs 3).toInt64 <<< (Int32.toInt64 32 &&& 63)) ||| ((xs 4).toInt64 &&& 4294967295))]) (rest := []) ⟨hx, hb, hml, hown, ht⟩ (zc_X9_item_0 l D y a0 (xs 1) (xs 2) (((xs 3).toInt64 <<< (Int32.toInt64 32 &&& 63)) ||| ((xs 4).toInt64 &&& 4294967295)) w2 w3 w4 w5 w6 w7 w8 w9 a10 a87 a88 a89 a90 a91 a92 w93 w94 w95 w96 w97 w98 w99 w100 w101 w102 w103 w104) (cwV 3 ht (zgV zm_1237 zm_1238 zm_1239 zm_2 zm_1240) rfl rfl rfl (by decide +kernel) ⟨(Nat.le_of_ble_eq_true rfl), (Nat.le_of_ble_eq_true rfl)⟩) hK hE hS hA hW [0, 2, 4, 5, 6, 7, 8, 9] (by decide) rfl 0 rfl rfl rfl rfl hl.1 rfl (Nat.le_of_ble_eq_true rfl) dL_law_1201 (Nat.le_of_ble_eq_true rfl) (Nat.le_of_ble_eq_true rfl)) hS hA hW [0, 2, 4, 5, 6, 7, 8, 9] [1, 3] rfl rfl (by decide) (by decide) (fun r1_ u H locs hw hW hS => ?_)
  have hW : zPD D _ [(a1, .inr (9, [w11, w12, w13, w14, w15, w16, w17, w18, w19, w20, w21, w22, w23, w24, w25, w26, w27, w28, w29, w30, w31, w32, w33, w34, w35, w36, w37, w38, w39, w40, w41, w42, w43, w44, w45, w46, w47, w48, w49, w50, w51, w52, w53, w54, w55, w56, w57, w58, w59, w60, w61, w62, w63, w64, w65, w66, w67, w68, w69, w70, w71, w72, w73, w74, w75, w76, w77, w78, w79, w80, w81, w82, .ref a83, w84, w85, w86])), (a83, .inl (y 0, 6, .inl (upd (upd (upd (upd (upd (upd (fun _ => 0) 0 (-1)) 1 (-1)) 2 (-1)) 3 (-1)) 4 (-1)) 5 (-1))))] H := hW
  have hw : r1_ = (if (xs 1) < 0 then (-1) else (if 5 < (xs 1) then (-1) else (-11))) := hw
  by_cases c2_ : (xs 1) < 0
  · have b3_ : (-2147483648) ≤ Int32.toInt (xs 1) ∧ Int32.toInt (xs 1) ≤ (-1) := (by have u0 := zbnd (xs 1); have u1 := (zi_lt _ _).mp c2_; have u2 : (0 : Int32).toInt = 0 := (by decide); omega)
    rw [if_pos c2_] at hw
    subst hw
    refine lv_aload_n hx hb dL_law_1204 rfl (lv_at hl 1 rfl) ?_
    refine lv_aload_n hx hb dL_law_1205 rfl (lv_at hl 3 rfl) ?_
    refine lv_iload_n hx hb dL_law_1206 rfl (lv_at hl 0 rfl) ?_
    refine lv_iconst (v := 1) hx hb dL_law_1207 (by decide) ?_
    refine lv_iadd hx hb dL_law_1208 ?_
    refine ztop (w := .int 1) (congrArg Value.int (by decide)) ?_
    refine va_sld hx hb hX hbl hbA hS (by unfold vp_in; decide) dL_law_1209 ?_
    refine ztop (w := .int (xs 1)) rfl ?_
    refine lv_aload_n hx hb dL_law_1210 rfl (lv_at hl 3 rfl) ?_
    refine lv_iload_n hx hb dL_law_1211 rfl (lv_at hl 0 rfl) ?_
    refine lv_iconst (v := 2) hx hb dL_law_1212 (by decide) ?_
    refine lv_iadd hx hb dL_law_1213 ?_
    refine ztop (w := .int 2) (congrArg Value.int (by decide)) ?_
    refine va_sld hx hb hX hbl hbA hS (by unfold vp_in; decide) dL_law_1214 ?_
    refine ztop (w := .int (xs 2)) rfl ?_
    refine lv_aload_n hx hb dL_law_1215 rfl (lv_at hl 3 rfl) ?_
    refine lv_iload_n hx hb dL_law_1216 rfl (lv_at hl 0 rfl) ?_
    refine lv_iconst (v := 3) hx hb dL_law_1217 (by decide) ?_
    refine lv_iadd hx hb dL_law_1218 ?_
    refine ztop (w := .int 3) (congrArg Value.int (by decide)) ?_
    refine va_sld hx hb hX hbl hbA hS (by unfold vp_in; decide) dL_law_1219 ?_
    refine ztop (w := .int (xs 3)) rfl ?_
    refine lv_i2l (v := (xs 3).toInt64) hx hb dL_law_1220 rfl ?_
    refine lv_bipush (v := 32) hx hb dL_law_1221 (by decide) ?_
    refine lv_lshl (v := ((xs 3).toInt64 <<< (Int32.toInt64 32 &&& 63))) hx hb dL_law_1223 rfl ?_
    refine lv_aload_n hx hb dL_law_1224 rfl (lv_at hl 3 rfl) ?_
    refine lv_iload_n hx hb dL_law_1225 rfl (lv_at hl 0 rfl) ?_
    refine lv_iconst (v := 4) hx hb dL_law_1226 (by decide) ?_
    refine lv_iadd hx hb dL_law_1227 ?_
    refine ztop (w := .int 4) (congrArg Value.int (by decide)) ?_
    refine va_sld hx hb hX hbl hbA hS (by unfold vp_in; decide) dL_law_1228 ?_
    refine ztop (w := .int (xs 4)) rfl ?_
    refine lv_i2l (v := (xs 4).toInt64) hx hb dL_law_1229 rfl ?_
    refine lv_ldc2 (v := 4294967295) hx hb hown (ht _ zm_6) dL_law_1230 ?_
    refine lv_land hx hb dL_law_1233 ?_
    refine lv_lor hx hb dL_law_1234 ?_
    refine zgo_i (wr := []) (zrunV (As := [.int (xs 1), .int (xs 2), .long (((xs 3).toInt64 <<< (Int32.toInt64 32 &&& 63)) ||| ((xs 4).toInt64 &&& 4294967295))]) (rest := [.int (-1)]) ⟨hx, hb, hml, hown, ht⟩ (zc_X10_item_0 l D y a1 (xs 1) (xs 2) (((xs 3).toInt64 <<< (Int32.toInt64 32 &&& 63)) ||| ((xs 4).toInt64 &&& 4294967295)) w11 w12 w13 w14 w15 w16 w17 w18 w19 w20 w21 w22 w23 w24 w25 w26 w27 w28 w29 w30 w31 w32 w33 w34 w35 w36 w37 w38 w39 w40 w41 w42 w43 w44 w45 w46 w47 w48 w49 w50 w51 w52 w53 w54 w55 w56 w57 w58 w59 w60 w61 w62 w63 w64 w65 w66 w67 w68 w69 w70 w71 w72 w73 w74 w75 w76 w77 w78 w79 w80 w81 w82 a83 w84 w85 w86) (cwV 3 ht (zgV zm_1249 zm_1250 zm_1251 zm_5 zm_1252) rfl rfl rfl (by decide +kernel) ⟨(Nat.le_of_ble_eq_true rfl), (Nat.le_of_ble_eq_true rfl)⟩) hK hE hS hA hW [0, 1] (by decide) rfl 0 rfl rfl rfl rfl hl.1 rfl (Nat.le_of_ble_eq_true rfl) dL_law_1235 (Nat.le_of_ble_eq_true rfl) (Nat.le_of_ble_eq_true rfl)) hS hA hW [0, 1] [] rfl rfl (by decide) (by decide) (fun r4_ u H locs hw hW hS => ?_)
    have hW : zPD D _ [] H := hW
    have hw : r4_ = (if (xs 1) < 0 then (-1) else (if 5 < (xs 1) then (-1) else (-11))) := hw
    rw [if_pos c2_] at hw
    subst hw
    refine lv_icmp_eq (tgt := 1340) hx hb dL_law_1238 (by decide) (fun c5_ => ?_) (fun c5_ => absurd (by decide) c5_)
    exact zl_end l C0 hS (lv_sub hl [0, 3] rfl)
  · have b6_ : 0 ≤ Int32.toInt (xs 1) ∧ Int32.toInt (xs 1) ≤ 2147483647 := (by have u0 := zbnd (xs 1); have u1 := (not_congr (zi_lt _ _)).mp c2_; have u2 : (0 : Int32).toInt = 0 := (by decide); omega)
    rw [if_neg c2_] at hw
    by_cases c7_ : 5 < (xs 1)
    · have b8_ : 6 ≤ Int32.toInt (xs 1) ∧ Int32.toInt (xs 1) ≤ 2147483647 := (by have u0 := b6_; have u1 := (zi_lt _ _).mp c7_; have u2 : (5 : Int32).toInt = 5 := (by decide); omega)
      rw [if_pos c7_] at hw
      subst hw
      refine lv_aload_n hx hb dL_law_1204 rfl (lv_at hl 1 rfl) ?_
      refine lv_aload_n hx hb dL_law_1205 rfl (lv_at hl 3 rfl) ?_
      refine lv_iload_n hx hb dL_law_1206 rfl (lv_at hl 0 rfl) ?_
      refine lv_iconst (v := 1) hx hb dL_law_1207 (by decide) ?_
      refine lv_iadd hx hb dL_law_1208 ?_
      refine ztop (w := .int 1) (congrArg Value.int (by decide)) ?_
      refine va_sld hx hb hX hbl hbA hS (by unfold vp_in; decide) dL_law_1209 ?_
      refine ztop (w := .int (xs 1)) rfl ?_
      refine lv_aload_n hx hb dL_law_1210 rfl (lv_at hl 3 rfl) ?_
      refine lv_iload_n hx hb dL_law_1211 rfl (lv_at hl 0 rfl) ?_
      refine lv_iconst (v := 2) hx hb dL_law_1212 (by decide) ?_
      refine lv_iadd hx hb dL_law_1213 ?_
      refine ztop (w := .int 2) (congrArg Value.int (by decide)) ?_
      refine va_sld hx hb hX hbl hbA hS (by unfold vp_in; decide) dL_law_1214 ?_
      refine ztop (w := .int (xs 2)) rfl ?_
      refine lv_aload_n hx hb dL_law_1215 rfl (lv_at hl 3 rfl) ?_
      refine lv_iload_n hx hb dL_law_1216 rfl (lv_at hl 0 rfl) ?_
      refine lv_iconst (v := 3) hx hb dL_law_1217 (by decide) ?_
      refine lv_iadd hx hb dL_law_1218 ?_
      refine ztop (w := .int 3) (congrArg Value.int (by decide)) ?_
      refine va_sld hx hb hX hbl hbA hS (by unfold vp_in; decide) dL_law_1219 ?_
      refine ztop (w := .int (xs 3)) rfl ?_
      refine lv_i2l (v := (xs 3).toInt64) hx hb dL_law_1220 rfl ?_
      refine lv_bipush (v := 32) hx hb dL_law_1221 (by decide) ?_
      refine lv_lshl (v := ((xs 3).toInt64 <<< (Int32.toInt64 32 &&& 63))) hx hb dL_law_1223 rfl ?_
      refine lv_aload_n hx hb dL_law_1224 rfl (lv_at hl 3 rfl) ?_
      refine lv_iload_n hx hb dL_law_1225 rfl (lv_at hl 0 rfl) ?_
      refine lv_iconst (v := 4) hx hb dL_law_1226 (by decide) ?_
      refine lv_iadd hx hb dL_law_1227 ?_
      refine ztop (w := .int 4) (congrArg Value.int (by decide)) ?_
      refine va_sld hx hb hX hbl hbA hS (by unfold vp_in; decide) dL_law_1228 ?_
      refine ztop (w := .int (xs 4)) rfl ?_
      refine lv_i2l (v := (xs 4).toInt64) hx hb dL_law_1229 rfl ?_
      refine lv_ldc2 (v := 4294967295) hx hb hown (ht _ zm_6) dL_law_1230 ?_
      refine lv_land hx hb dL_law_1233 ?_
      refine lv_lor hx hb dL_law_1234 ?_
      refine zgo_i (wr := []) (zrunV (As := [.int (xs 1), .int (xs 2), .long (((xs 3).toInt64 <<< (Int32.toInt64 32 &&& 63)) ||| ((xs 4).toInt64 &&& 4294967295))]) (rest := [.int (-1)]) ⟨hx, hb, hml, hown, ht⟩ (zc_X10_item_0 l D y a1 (xs 1) (xs 2) (((xs 3).toInt64 <<< (Int32.toInt64 32 &&& 63)) ||| ((xs 4).toInt64 &&& 4294967295)) w11 w12 w13 w14 w15 w16 w17 w18 w19 w20 w21 w22 w23 w24 w25 w26 w27 w28 w29 w30 w31 w32 w33 w34 w35 w36 w37 w38 w39 w40 w41 w42 w43 w44 w45 w46 w47 w48 w49 w50 w51 w52 w53 w54 w55 w56 w57 w58 w59 w60 w61 w62 w63 w64 w65 w66 w67 w68 w69 w70 w71 w72 w73 w74 w75 w76 w77 w78 w79 w80 w81 w82 a83 w84 w85 w86) (cwV 3 ht (zgV zm_1249 zm_1250 zm_1251 zm_5 zm_1252) rfl rfl rfl (by decide +kernel) ⟨(Nat.le_of_ble_eq_true rfl), (Nat.le_of_ble_eq_true rfl)⟩) hK hE hS hA hW [0, 1] (by decide) rfl 0 rfl rfl rfl rfl hl.1 rfl (Nat.le_of_ble_eq_true rfl) dL_law_1235 (Nat.le_of_ble_eq_true rfl) (Nat.le_of_ble_eq_true rfl)) hS hA hW [0, 1] [] rfl rfl (by decide) (by decide) (fun r9_ u H locs hw hW hS => ?_)
      have hW : zPD D _ [] H := hW
      have hw : r9_ = (if (xs 1) < 0 then (-1) else (if 5 < (xs 1) then (-1) else (-11))) := hw
      rw [if_neg c2_] at hw
      rw [if_pos c7_] at hw
      subst hw
      refine lv_icmp_eq (tgt := 1340) hx hb dL_law_1238 (by decide) (fun c10_ => ?_) (fun c10_ => absurd (by decide) c10_)
      exact zl_end l C0 hS (lv_sub hl [0, 3] rfl)
    · have b11_ : 0 ≤ Int32.toInt (xs 1) ∧ Int32.toInt (xs 1) ≤ 5 := (by have u0 := b6_; have u1 := (not_congr (zi_lt _ _)).mp c7_; have u2 : (5 : Int32).toInt = 5 := (by decide); omega)
      rw [if_neg c7_] at hw
      subst hw
      refine lv_aload_n hx hb dL_law_1204 rfl (lv_at hl 1 rfl) ?_
      refine lv_aload_n hx hb dL_law_1205 rfl (lv_at hl 3 rfl) ?_
      refine lv_iload_n hx hb dL_law_1206 rfl (lv_at hl 0 rfl) ?_
      refine lv_iconst (v := 1) hx hb dL_law_1207 (by decide) ?_
      refine lv_iadd hx hb dL_law_1208 ?_
      refine ztop (w := .int 1) (congrArg Value.int (by decide)) ?_
      refine va_sld hx hb hX hbl hbA hS (by unfold vp_in; decide) dL_law_1209 ?_
      refine ztop (w := .int (xs 1)) rfl ?_
      refine lv_aload_n hx hb dL_law_1210 rfl (lv_at hl 3 rfl) ?_
      refine lv_iload_n hx hb dL_law_1211 rfl (lv_at hl 0 rfl) ?_
      refine lv_iconst (v := 2) hx hb dL_law_1212 (by decide) ?_
      refine lv_iadd hx hb dL_law_1213 ?_
      refine ztop (w := .int 2) (congrArg Value.int (by decide)) ?_
      refine va_sld hx hb hX hbl hbA hS (by unfold vp_in; decide) dL_law_1214 ?_
      refine ztop (w := .int (xs 2)) rfl ?_
      refine lv_aload_n hx hb dL_law_1215 rfl (lv_at hl 3 rfl) ?_
      refine lv_iload_n hx hb dL_law_1216 rfl (lv_at hl 0 rfl) ?_
      refine lv_iconst (v := 3) hx hb dL_law_1217 (by decide) ?_
      refine lv_iadd hx hb dL_law_1218 ?_
      refine ztop (w := .int 3) (congrArg Value.int (by decide)) ?_
      refine va_sld hx hb hX hbl hbA hS (by unfold vp_in; decide) dL_law_1219 ?_
      refine ztop (w := .int (xs 3)) rfl ?_
      refine lv_i2l (v := (xs 3).toInt64) hx hb dL_law_1220 rfl ?_
      refine lv_bipush (v := 32) hx hb dL_law_1221 (by decide) ?_
      refine lv_lshl (v := ((xs 3).toInt64 <<< (Int32.toInt64 32 &&& 63))) hx hb dL_law_1223 rfl ?_
      refine lv_aload_n hx hb dL_law_1224 rfl (lv_at hl 3 rfl) ?_
      refine lv_iload_n hx hb dL_law_1225 rfl (lv_at hl 0 rfl) ?_
      refine lv_iconst (v := 4) hx hb dL_law_1226 (by decide) ?_
      refine lv_iadd hx hb dL_law_1227 ?_
      refine ztop (w := .int 4) (congrArg Value.int (by decide)) ?_
      refine va_sld hx hb hX hbl hbA hS (by unfold vp_in; decide) dL_law_1228 ?_
      refine ztop (w := .int (xs 4)) rfl ?_
      refine lv_i2l (v := (xs 4).toInt64) hx hb dL_law_1229 rfl ?_
      refine lv_ldc2 (v := 4294967295) hx hb hown (ht _ zm_6) dL_law_1230 ?_
      refine lv_land hx hb dL_law_1233 ?_
      refine lv_lor hx hb dL_law_1234 ?_
      refine zgo_i (wr := []) (zrunV (As := [.int (xs 1), .int (xs 2), .long (((xs 3).toInt64 <<< (Int32.toInt64 32 &&& 63)) ||| ((xs 4).toInt64 &&& 4294967295))]) (rest := [.int (-11)]) ⟨hx, hb, hml, hown, ht⟩ (zc_X10_item_0 l D y a1 (xs 1) (xs 2) (((xs 3).toInt64 <<< (Int32.toInt64 32 &&& 63)) ||| ((xs 4).toInt64 &&& 4294967295)) w11 w12 w13 w14 w15 w16 w17 w18 w19 w20 w21 w22 w23 w24 w25 w26 w27 w28 w29 w30 w31 w32 w33 w34 w35 w36 w37 w38 w39 w40 w41 w42 w43 w44 w45 w46 w47 w48 w49 w50 w51 w52 w53 w54 w55 w56 w57 w58 w59 w60 w61 w62 w63 w64 w65 w66 w67 w68 w69 w70 w71 w72 w73 w74 w75 w76 w77 w78 w79 w80 w81 w82 a83 w84 w85 w86) (cwV 3 ht (zgV zm_1249 zm_1250 zm_1251 zm_5 zm_1252) rfl rfl rfl (by decide +kernel) ⟨(Nat.le_of_ble_eq_true rfl), (Nat.le_of_ble_eq_true rfl)⟩) hK hE hS hA hW [0, 1] (by decide) rfl 0 rfl rfl rfl rfl hl.1 rfl (Nat.le_of_ble_eq_true rfl) dL_law_1235 (Nat.le_of_ble_eq_true rfl) (Nat.le_of_ble_eq_true rfl)) hS hA hW [0, 1] [] rfl rfl (by decide) (by decide) (fun r12_ u H locs hw hW hS => ?_)
      have hW : zPD D _ [] H := hW
      have hw : r12_ = (if (xs 1) < 0 then (-1) else (if 5 < (xs 1) then (-1) else (-11))) := hw
      rw [if_neg c2_] at hw
      rw [if_neg c7_] at hw
      subst hw
      refine lv_icmp_eq (tgt := 1340) hx hb dL_law_1238 (by decide) (fun c13_ => ?_) (fun c13_ => absurd (by decide) c13_)
      exact zl_end l C0 hS (lv_sub hl [0, 3] rfl)
set_option maxHeartbeats 8000000 in
set_option maxRecDepth 100000 in
theorem zl_case_37 {p : Program} {e : Env} {s : State} {m : MethodId} {below : List Frame} {meth : Method} {c : Code} (l : Launch) {b : Nat} {xs : Nat → Int32} (C0 : lw_At p s m meth c b 6 xs) (D : va_G) (y : Nat → ClassId) (a0 : Nat) (a1 : Nat) (w2 : Value) (w3 : Value) (w4 : Value) (w5 : Value) (w6 : Value) (w7 : Value) (w8 : Value) (w9 : Value) (a10 : Nat) (w11 : Value) (w12 : Value) (w13 : Value) (w14 : Value) (w15 : Value) (w16 : Value) (w17 : Value) (w18 : Value) (w19 : Value) (w20 : Value) (w21 : Value) (w22 : Value) (w23 : Value) (w24 : Value) (w25 : Value) (w26 : Value) (w27 : Value) (w28 : Value) (w29 : Value) (w30 : Value) (w31 : Value) (w32 : Value) (w33 : Value) (w34 : Value) (w35 : Value) (w36 : Value) (w37 : Value) (w38 : Value) (w39 : Value) (w40 : Value) (w41 : Value) (w42 : Value) (w43 : Value) (w44 : Value) (w45 : Value) (w46 : Value) (w47 : Value) (w48 : Value) (w49 : Value) (w50 : Value) (w51 : Value) (w52 : Value) (w53 : Value) (w54 : Value) (w55 : Value) (w56 : Value) (w57 : Value) (w58 : Value) (w59 : Value) (w60 : Value) (w61 : Value) (w62 : Value) (w63 : Value) (w64 : Value) (w65 : Value) (w66 : Value) (w67 : Value) (w68 : Value) (w69 : Value) (w70 : Value) (w71 : Value) (w72 : Value) (w73 : Value) (w74 : Value) (w75 : Value) (w76 : Value) (w77 : Value) (w78 : Value) (w79 : Value) (w80 : Value) (w81 : Value) (w82 : Value) (a83 : Nat) (w84 : Value) (w85 : Value) (w86 : Value) (a87 : Nat) (a88 : Nat) (a89 : Nat) (a90 : Nat) (a91 : Nat) (a92 : Nat) (w93 : Value) (w94 : Value) (w95 : Value) (w96 : Value) (w97 : Value) (w98 : Value) (w99 : Value) (w100 : Value) (w101 : Value) (w102 : Value) (w103 : Value) (w104 : Value) (hK : zK D y s) (hE : zE y (fun q : Nat => s.heap.size ≤ q) s s.heap) {H : Heap} {locs : List Loc} {ls : Array Slot} (hS : va_S (fun q : Nat => s.heap.size ≤ q) s.heap H locs) (hW : zPD D (fun q : Nat => s.heap.size ≤ q) [(a0, .inr (8, [w2, w3, w4, w5, w6, w7, w8, w9, .ref a10])), (a1, .inr (9, [w11, w12, w13, w14, w15, w16, w17, w18, w19, w20, w21, w22, w23, w24, w25, w26, w27, w28, w29, w30, w31, w32, w33, w34, w35, w36, w37, w38, w39, w40, w41, w42, w43, w44, w45, w46, w47, w48, w49, w50, w51, w52, w53, w54, w55, w56, w57, w58, w59, w60, w61, w62, w63, w64, w65, w66, w67, w68, w69, w70, w71, w72, w73, w74, w75, w76, w77, w78, w79, w80, w81, w82, .ref a83, w84, w85, w86])), (a10, .inl (y 5, 6, .inr (.inr (.inr (.inr (va_up (va_up (va_up (va_up (va_up (va_up (fun _ => none) 0 (some a87)) 1 (some a88)) 2 (some a89)) 3 (some a90)) 4 (some a91)) 5 (some a92))))))), (a83, .inl (y 0, 6, .inl (upd (upd (upd (upd (upd (upd (fun _ => 0) 0 (-1)) 1 (-1)) 2 (-1)) 3 (-1)) 4 (-1)) 5 (-1)))), (a87, .inr (7, [w93, .int 0, w94])), (a88, .inr (7, [w95, .int 0, w96])), (a89, .inr (7, [w97, .int 0, w98])), (a90, .inr (7, [w99, .int 0, w100])), (a91, .inr (7, [w101, .int 0, w102])), (a92, .inr (7, [w103, .int 0, w104]))] H) (hl : lv_has ls 4 [(3, .int 0), (2, .ref a1), (1, .ref a0), (0, .ref b)]) : W p l e room_1 s m #[Value.ref b] below meth c H locs 1000 20000 (lw_Z below #[Value.ref b] s) (F0 m 1243 ls []) := by
  obtain ⟨hx, hb, hr, hml, hown, hts, hX, hbl, hlocks, hgv⟩ := id C0
  have ht : ∀ w ∈ zT, w.before #[Value.ref b] s = true := fun w h => hts w (zgin w h).1
  have hown : s.vm.findClass RL = some m.cls := hown
  have hA : ∀ q : Nat, s.heap.size ≤ q → (fun q : Nat => s.heap.size ≤ q) q := fun _ h => h
  have hbA : ¬ (fun q : Nat => s.heap.size ≤ q) b := Nat.not_le.mpr hbl
  refine lv_aload_n hx hb dL_law_1243 rfl (lv_at hl 2 rfl) ?_
  refine lv_aload_n hx hb dL_law_1244 rfl (lv_at hl 3 rfl) ?_
  refine lv_iload_n hx hb dL_law_1245 rfl (lv_at hl 0 rfl) ?_
  refine lv_iconst (v := 1) hx hb dL_law_1246 (by decide) ?_
  refine lv_iadd hx hb dL_law_1247 ?_
  refine ztop (w := .int 1) (congrArg Value.int (by decide)) ?_
  refine va_sld hx hb hX hbl hbA hS (by unfold vp_in; decide) dL_law_1248 ?_
  refine ztop (w := .int (xs 1)) rfl ?_
  refine lv_aload_n hx hb dL_law_1249 rfl (lv_at hl 3 rfl) ?_
  refine lv_iload_n hx hb dL_law_1250 rfl (lv_at hl 0 rfl) ?_
  refine lv_iconst (v := 2) hx hb dL_law_1251 (by decide) ?_
  refine lv_iadd hx hb dL_law_1252 ?_
  refine ztop (w := .int 2) (congrArg Value.int (by decide)) ?_
  refine va_sld hx hb hX hbl hbA hS (by unfold vp_in; decide) dL_law_1253 ?_
  refine ztop (w := .int (xs 2)) rfl ?_
  refine zgo_l (wr := [(a1, .inr (9, [w11, w12, w13, w14, w15, w16, w17, w18, w19, w20, w21, w22, w23, w24, w25, w26, w27, w28, w29, w30, w31, w32, w33, w34, w35, w36, w37, w38, w39, w40, w41, w42, w43, w44, w45, w46, w47, w48, w49, w50, w51, w52, w53, w54, w55, w56, w57, w58, w59, w60, w61, w62, w63, w64, w65, w66, w67, w68, w69, w70, w71, w72, w73, w74, w75, w76, w77, w78, w79, w80, w81, w82, .ref a83, w84, w85, w86])), (a83, .inl (y 0, 6, .inl (upd (upd (upd (upd (upd (upd (fun _ => 0) 0 (-1)) 1 (-1)) 2 (-1)) 3 (-1)) 4 (-1)) 5 (-1))))]) (zrunV (As := [.int (xs 1), .int (xs 2)]) (rest := []) ⟨hx, hb, hml, hown, ht⟩ (zc_X9_read_0 l D y a0 (xs 1) (xs 2) w2 w3 w4 w5 w6 w7 w8 w9 a10 a87 a88 a89 a90 a91 a92 w93 w94 w95 w96 w97 w98 w99 w100 w101 w102 w103 w104) (cwV 2 ht (zgV zm_1257 zm_1258 zm_1259 zm_2 zm_1260) rfl rfl rfl (by decide +kernel) ⟨(Nat.le_of_ble_eq_true rfl), (Nat.le_of_ble_eq_true rfl)⟩) hK hE hS hA hW [0, 2, 4, 5, 6, 7, 8, 9] (by decide) rfl 0 rfl rfl rfl rfl hl.1 rfl (Nat.le_of_ble_eq_true rfl) dL_law_1254 (Nat.le_of_ble_eq_true rfl) (Nat.le_of_ble_eq_true rfl)) hS hA hW [0, 2, 4, 5, 6, 7, 8, 9] [1, 3] rfl rfl (by decide) (by decide) (fun r1_ u H locs hw hW hS => ?_)
  have hW : zPD D _ [(a1, .inr (9, [w11, w12, w13, w14, w15, w16, w17, w18, w19, w20, w21, w22, w23, w24, w25, w26, w27, w28, w29, w30, w31, w32, w33, w34, w35, w36, w37, w38, w39, w40, w41, w42, w43, w44, w45, w46, w47, w48, w49, w50, w51, w52, w53, w54, w55, w56, w57, w58, w59, w60, w61, w62, w63, w64, w65, w66, w67, w68, w69, w70, w71, w72, w73, w74, w75, w76, w77, w78, w79, w80, w81, w82, .ref a83, w84, w85, w86])), (a83, .inl (y 0, 6, .inl (upd (upd (upd (upd (upd (upd (fun _ => 0) 0 (-1)) 1 (-1)) 2 (-1)) 3 (-1)) 4 (-1)) 5 (-1))))] H := hW
  have hw : r1_ = (-9223372036854775808) := hw
  subst hw
  refine lv_aload_n hx hb dL_law_1257 rfl (lv_at hl 1 rfl) ?_
  refine lv_aload_n hx hb dL_law_1258 rfl (lv_at hl 3 rfl) ?_
  refine lv_iload_n hx hb dL_law_1259 rfl (lv_at hl 0 rfl) ?_
  refine lv_iconst (v := 1) hx hb dL_law_1260 (by decide) ?_
  refine lv_iadd hx hb dL_law_1261 ?_
  refine ztop (w := .int 1) (congrArg Value.int (by decide)) ?_
  refine va_sld hx hb hX hbl hbA hS (by unfold vp_in; decide) dL_law_1262 ?_
  refine ztop (w := .int (xs 1)) rfl ?_
  refine lv_aload_n hx hb dL_law_1263 rfl (lv_at hl 3 rfl) ?_
  refine lv_iload_n hx hb dL_law_1264 rfl (lv_at hl 0 rfl) ?_
  refine lv_iconst (v := 2) hx hb dL_law_1265 (by decide) ?_
  refine lv_iadd hx hb dL_law_1266 ?_
  refine ztop (w := .int 2) (congrArg Value.int (by decide)) ?_
  refine va_sld hx hb hX hbl hbA hS (by unfold vp_in; decide) dL_law_1267 ?_
  refine ztop (w := .int (xs 2)) rfl ?_
  refine zgo_l (wr := []) (zrunV (As := [.int (xs 1), .int (xs 2)]) (rest := [.long (-9223372036854775808)]) ⟨hx, hb, hml, hown, ht⟩ (zc_X10_read_0 l D y a1 (xs 1) (xs 2) w11 w12 w13 w14 w15 w16 w17 w18 w19 w20 w21 w22 w23 w24 w25 w26 w27 w28 w29 w30 w31 w32 w33 w34 w35 w36 w37 w38 w39 w40 w41 w42 w43 w44 w45 w46 w47 w48 w49 w50 w51 w52 w53 w54 w55 w56 w57 w58 w59 w60 w61 w62 w63 w64 w65 w66 w67 w68 w69 w70 w71 w72 w73 w74 w75 w76 w77 w78 w79 w80 w81 w82 a83 w84 w85 w86) (cwV 2 ht (zgV zm_1261 zm_1262 zm_1263 zm_5 zm_1264) rfl rfl rfl (by decide +kernel) ⟨(Nat.le_of_ble_eq_true rfl), (Nat.le_of_ble_eq_true rfl)⟩) hK hE hS hA hW [0, 1] (by decide) rfl 0 rfl rfl rfl rfl hl.1 rfl (Nat.le_of_ble_eq_true rfl) dL_law_1268 (Nat.le_of_ble_eq_true rfl) (Nat.le_of_ble_eq_true rfl)) hS hA hW [0, 1] [] rfl rfl (by decide) (by decide) (fun r2_ u H locs hw hW hS => ?_)
  have hW : zPD D _ [] H := hW
  have hw : r2_ = (-9223372036854775808) := hw
  subst hw
  refine W.lcmp hx hb dL_law_1271 ?_
  refine ztop (w := .int 0) (congrArg Value.int (by decide)) ?_
  refine lv_if_eq (tgt := 1340) hx hb dL_law_1272 (by decide) (fun c3_ => ?_) (fun c3_ => absurd (by decide) c3_)
  exact zl_end l C0 hS (lv_sub hl [0, 3] rfl)
