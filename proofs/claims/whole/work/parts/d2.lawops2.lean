/-! ===== the law: each call of both ===== -/
section LOPS
variable {Γ : Cx} {i k n L : Nat} {w : AW} {xs : Nat → Int32} {a5 a6 : Option AV}
theorem op_wind (h : OKB Γ cL_law RL 7) (hRm : cxR Γ = room_1) (hS : SCR Γ L xs) (hR : REL i w w) (h0 : w.1 0 = (109, 0)) (hi : 6 * i + 5 < L) (hk : k + 9 ≤ 601024) (hn : n + 906 ≤ 7293034) (kk : ∀ u, REL (i + 1) u u → GG Γ 1636 [some (ar 20000), some (ar 0), some (ar 400), some (ar 1900), some (ai (6 * (i : Int))), a5, a6] [] u (k + 9) (n + 906)) : GG Γ 1002 [some (ar 20000), some (ar 0), some (ar 400), some (ar 1900), some (ai (6 * (i : Int))), a5, a6] [] w k n := by
  refine g_aload_n h dL_law_1002 rfl ?_
  refine g_sarg h hS (i := i) (j := 1) rfl rfl (by omega) dL_law_1003 dL_law_1004 dL_law_1006 dL_law_1007 dL_law_1008 ?_
  refine g_both h hRm rfl (as := [ai (xs (6 * i + 1)).toInt]) (K_wind hR (i32_toInt _)) h0 clL_110 clL_113 rfl rfl in_X9_wind se_X9_wind rfl in_X12_wind se_X12_wind (by decide) (by decide) hk hn dL_law_1009 dL_law_1019 dL_law_1022 (by decide) (fun z w1 k1 n1 g => ?_) kk
  refine g_aload_n h dL_law_1012 rfl ?_
  refine g_sarg h hS (i := i) (j := 1) rfl rfl (by omega) dL_law_1013 dL_law_1014 dL_law_1016 dL_law_1017 dL_law_1018 ?_
  exact g
theorem op_says (h : OKB Γ cL_law RL 7) (hRm : cxR Γ = room_1) (hS : SCR Γ L xs) (hR : REL i w w) (h0 : w.1 0 = (109, 0)) (hi : 6 * i + 5 < L) (hk : k + 9 ≤ 601024) (hn : n + 906 ≤ 7293034) (kk : ∀ u, REL (i + 1) u u → GG Γ 1636 [some (ar 20000), some (ar 0), some (ar 400), some (ar 1900), some (ai (6 * (i : Int))), a5, a6] [] u (k + 9) (n + 906)) : GG Γ 1027 [some (ar 20000), some (ar 0), some (ar 400), some (ar 1900), some (ai (6 * (i : Int))), a5, a6] [] w k n := by
  refine g_aload_n h dL_law_1027 rfl ?_
  refine g_sarg h hS (i := i) (j := 1) rfl rfl (by omega) dL_law_1028 dL_law_1029 dL_law_1031 dL_law_1032 dL_law_1033 ?_
  refine g_sarg h hS (i := i) (j := 2) rfl rfl (by omega) dL_law_1034 dL_law_1035 dL_law_1037 dL_law_1038 dL_law_1039 ?_
  refine g_both h hRm rfl (as := [ai (xs (6 * i + 1)).toInt, ai (xs (6 * i + 2)).toInt]) (K_says hR (i32_toInt _) (i32_toInt _)) h0 clL_114 clL_117 rfl rfl in_X9_says se_X9_says rfl in_X12_says se_X12_says (by decide) (by decide) hk hn dL_law_1040 dL_law_1056 dL_law_1059 (by decide) (fun z w1 k1 n1 g => ?_) kk
  refine g_aload_n h dL_law_1043 rfl ?_
  refine g_sarg h hS (i := i) (j := 1) rfl rfl (by omega) dL_law_1044 dL_law_1045 dL_law_1047 dL_law_1048 dL_law_1049 ?_
  refine g_sarg h hS (i := i) (j := 2) rfl rfl (by omega) dL_law_1050 dL_law_1051 dL_law_1053 dL_law_1054 dL_law_1055 ?_
  exact g
theorem op_may (h : OKB Γ cL_law RL 7) (hRm : cxR Γ = room_1) (hS : SCR Γ L xs) (hR : REL i w w) (h0 : w.1 0 = (109, 0)) (hi : 6 * i + 5 < L) (hk : k + 9 ≤ 601024) (hn : n + 906 ≤ 7293034) (kk : ∀ u, REL (i + 1) u u → GG Γ 1636 [some (ar 20000), some (ar 0), some (ar 400), some (ar 1900), some (ai (6 * (i : Int))), a5, a6] [] u (k + 9) (n + 906)) : GG Γ 1064 [some (ar 20000), some (ar 0), some (ar 400), some (ar 1900), some (ai (6 * (i : Int))), a5, a6] [] w k n := by
  refine g_aload_n h dL_law_1064 rfl ?_
  refine g_sarg h hS (i := i) (j := 1) rfl rfl (by omega) dL_law_1065 dL_law_1066 dL_law_1068 dL_law_1069 dL_law_1070 ?_
  refine g_both h hRm rfl (as := [ai (xs (6 * i + 1)).toInt]) (K_may hR (i32_toInt _)) h0 clL_118 clL_121 rfl rfl in_X9_may se_X9_may rfl in_X12_may se_X12_may (by decide) (by decide) hk hn dL_law_1071 dL_law_1081 dL_law_1084 (by decide) (fun z w1 k1 n1 g => ?_) kk
  refine g_aload_n h dL_law_1074 rfl ?_
  refine g_sarg h hS (i := i) (j := 1) rfl rfl (by omega) dL_law_1075 dL_law_1076 dL_law_1078 dL_law_1079 dL_law_1080 ?_
  exact g
theorem op_reading (h : OKB Γ cL_law RL 7) (hRm : cxR Γ = room_1) (hS : SCR Γ L xs) (hR : REL i w w) (h0 : w.1 0 = (109, 0)) (hi : 6 * i + 5 < L) (hk : k + 9 ≤ 601024) (hn : n + 906 ≤ 7293034) (kk : ∀ u, REL (i + 1) u u → GG Γ 1636 [some (ar 20000), some (ar 0), some (ar 400), some (ar 1900), some (ai (6 * (i : Int))), a5, a6] [] u (k + 9) (n + 906)) : GG Γ 1089 [some (ar 20000), some (ar 0), some (ar 400), some (ar 1900), some (ai (6 * (i : Int))), a5, a6] [] w k n := by
  refine g_aload_n h dL_law_1089 rfl ?_
  refine g_sarg h hS (i := i) (j := 1) rfl rfl (by omega) dL_law_1090 dL_law_1091 dL_law_1093 dL_law_1094 dL_law_1095 ?_
  refine g_sarg h hS (i := i) (j := 2) rfl rfl (by omega) dL_law_1096 dL_law_1097 dL_law_1099 dL_law_1100 dL_law_1101 ?_
  refine g_sarg h hS (i := i) (j := 3) rfl rfl (by omega) dL_law_1102 dL_law_1103 dL_law_1105 dL_law_1106 dL_law_1107 ?_
  refine g_both h hRm rfl (as := [ai (xs (6 * i + 1)).toInt, ai (xs (6 * i + 2)).toInt, ai (xs (6 * i + 3)).toInt]) (K_reading hR (i32_toInt _) (i32_toInt _) (i32_toInt _)) h0 clL_122 clL_125 rfl rfl in_X9_reading se_X9_reading rfl in_X12_reading se_X12_reading (by decide) (by decide) hk hn dL_law_1108 dL_law_1130 dL_law_1133 (by decide) (fun z w1 k1 n1 g => ?_) kk
  refine g_aload_n h dL_law_1111 rfl ?_
  refine g_sarg h hS (i := i) (j := 1) rfl rfl (by omega) dL_law_1112 dL_law_1113 dL_law_1115 dL_law_1116 dL_law_1117 ?_
  refine g_sarg h hS (i := i) (j := 2) rfl rfl (by omega) dL_law_1118 dL_law_1119 dL_law_1121 dL_law_1122 dL_law_1123 ?_
  refine g_sarg h hS (i := i) (j := 3) rfl rfl (by omega) dL_law_1124 dL_law_1125 dL_law_1127 dL_law_1128 dL_law_1129 ?_
  exact g
theorem op_sounding (h : OKB Γ cL_law RL 7) (hRm : cxR Γ = room_1) (hS : SCR Γ L xs) (hR : REL i w w) (h0 : w.1 0 = (109, 0)) (hi : 6 * i + 5 < L) (hk : k + 9 ≤ 601024) (hn : n + 906 ≤ 7293034) (kk : ∀ u, REL (i + 1) u u → GG Γ 1636 [some (ar 20000), some (ar 0), some (ar 400), some (ar 1900), some (ai (6 * (i : Int))), a5, a6] [] u (k + 9) (n + 906)) : GG Γ 1138 [some (ar 20000), some (ar 0), some (ar 400), some (ar 1900), some (ai (6 * (i : Int))), a5, a6] [] w k n := by
  refine g_aload_n h dL_law_1138 rfl ?_
  refine g_sarg h hS (i := i) (j := 1) rfl rfl (by omega) dL_law_1139 dL_law_1140 dL_law_1142 dL_law_1143 dL_law_1144 ?_
  refine g_sarg h hS (i := i) (j := 2) rfl rfl (by omega) dL_law_1145 dL_law_1146 dL_law_1148 dL_law_1149 dL_law_1150 ?_
  refine g_sarg h hS (i := i) (j := 3) rfl rfl (by omega) dL_law_1151 dL_law_1152 dL_law_1154 dL_law_1155 dL_law_1156 ?_
  refine g_both h hRm rfl (as := [ai (xs (6 * i + 1)).toInt, ai (xs (6 * i + 2)).toInt, ai (xs (6 * i + 3)).toInt]) (K_sounding hR (i32_toInt _) (i32_toInt _) (i32_toInt _)) h0 clL_126 clL_129 rfl rfl in_X9_sounding se_X9_sounding rfl in_X12_sounding se_X12_sounding (by decide) (by decide) hk hn dL_law_1157 dL_law_1179 dL_law_1182 (by decide) (fun z w1 k1 n1 g => ?_) kk
  refine g_aload_n h dL_law_1160 rfl ?_
  refine g_sarg h hS (i := i) (j := 1) rfl rfl (by omega) dL_law_1161 dL_law_1162 dL_law_1164 dL_law_1165 dL_law_1166 ?_
  refine g_sarg h hS (i := i) (j := 2) rfl rfl (by omega) dL_law_1167 dL_law_1168 dL_law_1170 dL_law_1171 dL_law_1172 ?_
  refine g_sarg h hS (i := i) (j := 3) rfl rfl (by omega) dL_law_1173 dL_law_1174 dL_law_1176 dL_law_1177 dL_law_1178 ?_
  exact g
theorem op_known (h : OKB Γ cL_law RL 7) (hRm : cxR Γ = room_1) (hS : SCR Γ L xs) (hR : REL i w w) (h0 : w.1 0 = (109, 0)) (hi : 6 * i + 5 < L) (hk : k + 9 ≤ 601024) (hn : n + 906 ≤ 7293034) (kk : ∀ u, REL (i + 1) u u → GG Γ 1636 [some (ar 20000), some (ar 0), some (ar 400), some (ar 1900), some (ai (6 * (i : Int))), a5, a6] [] u (k + 9) (n + 906)) : GG Γ 1187 [some (ar 20000), some (ar 0), some (ar 400), some (ar 1900), some (ai (6 * (i : Int))), a5, a6] [] w k n := by
  refine g_aload_n h dL_law_1187 rfl ?_
  refine g_sarg h hS (i := i) (j := 1) rfl rfl (by omega) dL_law_1188 dL_law_1189 dL_law_1191 dL_law_1192 dL_law_1193 ?_
  refine g_sarg h hS (i := i) (j := 2) rfl rfl (by omega) dL_law_1194 dL_law_1195 dL_law_1197 dL_law_1198 dL_law_1199 ?_
  refine g_sarg h hS (i := i) (j := 3) rfl rfl (by omega) dL_law_1200 dL_law_1201 dL_law_1203 dL_law_1204 dL_law_1205 ?_
  refine g_both h hRm rfl (as := [ai (xs (6 * i + 1)).toInt, ai (xs (6 * i + 2)).toInt, ai (xs (6 * i + 3)).toInt]) (K_known hR (i32_toInt _) (i32_toInt _) (i32_toInt _)) h0 clL_130 clL_133 rfl rfl in_X9_known se_X9_known rfl in_X12_known se_X12_known (by decide) (by decide) hk hn dL_law_1206 dL_law_1228 dL_law_1231 (by decide) (fun z w1 k1 n1 g => ?_) kk
  refine g_aload_n h dL_law_1209 rfl ?_
  refine g_sarg h hS (i := i) (j := 1) rfl rfl (by omega) dL_law_1210 dL_law_1211 dL_law_1213 dL_law_1214 dL_law_1215 ?_
  refine g_sarg h hS (i := i) (j := 2) rfl rfl (by omega) dL_law_1216 dL_law_1217 dL_law_1219 dL_law_1220 dL_law_1221 ?_
  refine g_sarg h hS (i := i) (j := 3) rfl rfl (by omega) dL_law_1222 dL_law_1223 dL_law_1225 dL_law_1226 dL_law_1227 ?_
  exact g
theorem op_right (h : OKB Γ cL_law RL 7) (hRm : cxR Γ = room_1) (hS : SCR Γ L xs) (hR : REL i w w) (h0 : w.1 0 = (109, 0)) (hi : 6 * i + 5 < L) (hk : k + 9 ≤ 601024) (hn : n + 906 ≤ 7293034) (kk : ∀ u, REL (i + 1) u u → GG Γ 1636 [some (ar 20000), some (ar 0), some (ar 400), some (ar 1900), some (ai (6 * (i : Int))), a5, a6] [] u (k + 9) (n + 906)) : GG Γ 1236 [some (ar 20000), some (ar 0), some (ar 400), some (ar 1900), some (ai (6 * (i : Int))), a5, a6] [] w k n := by
  refine g_aload_n h dL_law_1236 rfl ?_
  refine g_sarg h hS (i := i) (j := 1) rfl rfl (by omega) dL_law_1237 dL_law_1238 dL_law_1240 dL_law_1241 dL_law_1242 ?_
  refine g_sarg h hS (i := i) (j := 2) rfl rfl (by omega) dL_law_1243 dL_law_1244 dL_law_1246 dL_law_1247 dL_law_1248 ?_
  refine g_sarg h hS (i := i) (j := 3) rfl rfl (by omega) dL_law_1249 dL_law_1250 dL_law_1252 dL_law_1253 dL_law_1254 ?_
  refine g_both h hRm rfl (as := [ai (xs (6 * i + 1)).toInt, ai (xs (6 * i + 2)).toInt, ai (xs (6 * i + 3)).toInt]) (K_right hR (i32_toInt _) (i32_toInt _) (i32_toInt _)) h0 clL_134 clL_137 rfl rfl in_X9_right se_X9_right rfl in_X12_right se_X12_right (by decide) (by decide) hk hn dL_law_1255 dL_law_1277 dL_law_1280 (by decide) (fun z w1 k1 n1 g => ?_) kk
  refine g_aload_n h dL_law_1258 rfl ?_
  refine g_sarg h hS (i := i) (j := 1) rfl rfl (by omega) dL_law_1259 dL_law_1260 dL_law_1262 dL_law_1263 dL_law_1264 ?_
  refine g_sarg h hS (i := i) (j := 2) rfl rfl (by omega) dL_law_1265 dL_law_1266 dL_law_1268 dL_law_1269 dL_law_1270 ?_
  refine g_sarg h hS (i := i) (j := 3) rfl rfl (by omega) dL_law_1271 dL_law_1272 dL_law_1274 dL_law_1275 dL_law_1276 ?_
  exact g
theorem op_height (h : OKB Γ cL_law RL 7) (hRm : cxR Γ = room_1) (hS : SCR Γ L xs) (hR : REL i w w) (h0 : w.1 0 = (109, 0)) (hi : 6 * i + 5 < L) (hk : k + 9 ≤ 601024) (hn : n + 906 ≤ 7293034) (kk : ∀ u, REL (i + 1) u u → GG Γ 1636 [some (ar 20000), some (ar 0), some (ar 400), some (ar 1900), some (ai (6 * (i : Int))), a5, a6] [] u (k + 9) (n + 906)) : GG Γ 1285 [some (ar 20000), some (ar 0), some (ar 400), some (ar 1900), some (ai (6 * (i : Int))), a5, a6] [] w k n := by
  refine g_aload_n h dL_law_1285 rfl ?_
  refine g_sarg h hS (i := i) (j := 1) rfl rfl (by omega) dL_law_1286 dL_law_1287 dL_law_1289 dL_law_1290 dL_law_1291 ?_
  refine g_sarg h hS (i := i) (j := 2) rfl rfl (by omega) dL_law_1292 dL_law_1293 dL_law_1295 dL_law_1296 dL_law_1297 ?_
  refine g_both h hRm rfl (as := [ai (xs (6 * i + 1)).toInt, ai (xs (6 * i + 2)).toInt]) (K_height hR (i32_toInt _) (i32_toInt _)) h0 clL_138 clL_141 rfl rfl in_X9_height se_X9_height rfl in_X12_height se_X12_height (by decide) (by decide) hk hn dL_law_1298 dL_law_1314 dL_law_1317 (by decide) (fun z w1 k1 n1 g => ?_) kk
  refine g_aload_n h dL_law_1301 rfl ?_
  refine g_sarg h hS (i := i) (j := 1) rfl rfl (by omega) dL_law_1302 dL_law_1303 dL_law_1305 dL_law_1306 dL_law_1307 ?_
  refine g_sarg h hS (i := i) (j := 2) rfl rfl (by omega) dL_law_1308 dL_law_1309 dL_law_1311 dL_law_1312 dL_law_1313 ?_
  exact g
theorem op_land (h : OKB Γ cL_law RL 7) (hRm : cxR Γ = room_1) (hS : SCR Γ L xs) (hR : REL i w w) (h0 : w.1 0 = (109, 0)) (hi : 6 * i + 5 < L) (hk : k + 9 ≤ 601024) (hn : n + 906 ≤ 7293034) (kk : ∀ u, REL (i + 1) u u → GG Γ 1636 [some (ar 20000), some (ar 0), some (ar 400), some (ar 1900), some (ai (6 * (i : Int))), a5, a6] [] u (k + 9) (n + 906)) : GG Γ 1322 [some (ar 20000), some (ar 0), some (ar 400), some (ar 1900), some (ai (6 * (i : Int))), a5, a6] [] w k n := by
  refine g_aload_n h dL_law_1322 rfl ?_
  refine g_sarg h hS (i := i) (j := 1) rfl rfl (by omega) dL_law_1323 dL_law_1324 dL_law_1326 dL_law_1327 dL_law_1328 ?_
  refine g_sarg h hS (i := i) (j := 2) rfl rfl (by omega) dL_law_1329 dL_law_1330 dL_law_1332 dL_law_1333 dL_law_1334 ?_
  refine g_both h hRm rfl (as := [ai (xs (6 * i + 1)).toInt, ai (xs (6 * i + 2)).toInt]) (K_land hR (i32_toInt _) (i32_toInt _)) h0 clL_142 clL_145 rfl rfl in_X9_land se_X9_land rfl in_X12_land se_X12_land (by decide) (by decide) hk hn dL_law_1335 dL_law_1351 dL_law_1354 (by decide) (fun z w1 k1 n1 g => ?_) kk
  refine g_aload_n h dL_law_1338 rfl ?_
  refine g_sarg h hS (i := i) (j := 1) rfl rfl (by omega) dL_law_1339 dL_law_1340 dL_law_1342 dL_law_1343 dL_law_1344 ?_
  refine g_sarg h hS (i := i) (j := 2) rfl rfl (by omega) dL_law_1345 dL_law_1346 dL_law_1348 dL_law_1349 dL_law_1350 ?_
  exact g
theorem op_runOut (h : OKB Γ cL_law RL 7) (hRm : cxR Γ = room_1) (hS : SCR Γ L xs) (hR : REL i w w) (h0 : w.1 0 = (109, 0)) (hi : 6 * i + 5 < L) (hk : k + 9 ≤ 601024) (hn : n + 906 ≤ 7293034) (kk : ∀ u, REL (i + 1) u u → GG Γ 1636 [some (ar 20000), some (ar 0), some (ar 400), some (ar 1900), some (ai (6 * (i : Int))), a5, a6] [] u (k + 9) (n + 906)) : GG Γ 1359 [some (ar 20000), some (ar 0), some (ar 400), some (ar 1900), some (ai (6 * (i : Int))), a5, a6] [] w k n := by
  refine g_aload_n h dL_law_1359 rfl ?_
  refine g_sarg h hS (i := i) (j := 1) rfl rfl (by omega) dL_law_1360 dL_law_1361 dL_law_1363 dL_law_1364 dL_law_1365 ?_
  refine g_sarg h hS (i := i) (j := 2) rfl rfl (by omega) dL_law_1366 dL_law_1367 dL_law_1369 dL_law_1370 dL_law_1371 ?_
  refine g_both h hRm rfl (as := [ai (xs (6 * i + 1)).toInt, ai (xs (6 * i + 2)).toInt]) (K_runOut hR (i32_toInt _) (i32_toInt _)) h0 clL_146 clL_149 rfl rfl in_X9_runOut se_X9_runOut rfl in_X12_runOut se_X12_runOut (by decide) (by decide) hk hn dL_law_1372 dL_law_1388 dL_law_1391 (by decide) (fun z w1 k1 n1 g => ?_) kk
  refine g_aload_n h dL_law_1375 rfl ?_
  refine g_sarg h hS (i := i) (j := 1) rfl rfl (by omega) dL_law_1376 dL_law_1377 dL_law_1379 dL_law_1380 dL_law_1381 ?_
  refine g_sarg h hS (i := i) (j := 2) rfl rfl (by omega) dL_law_1382 dL_law_1383 dL_law_1385 dL_law_1386 dL_law_1387 ?_
  exact g
theorem op_arrives (h : OKB Γ cL_law RL 7) (hRm : cxR Γ = room_1) (hS : SCR Γ L xs) (hR : REL i w w) (h0 : w.1 0 = (109, 0)) (hi : 6 * i + 5 < L) (hk : k + 9 ≤ 601024) (hn : n + 906 ≤ 7293034) (kk : ∀ u, REL (i + 1) u u → GG Γ 1636 [some (ar 20000), some (ar 0), some (ar 400), some (ar 1900), some (ai (6 * (i : Int))), a5, a6] [] u (k + 9) (n + 906)) : GG Γ 1396 [some (ar 20000), some (ar 0), some (ar 400), some (ar 1900), some (ai (6 * (i : Int))), a5, a6] [] w k n := by
  refine g_aload_n h dL_law_1396 rfl ?_
  refine g_sarg h hS (i := i) (j := 1) rfl rfl (by omega) dL_law_1397 dL_law_1398 dL_law_1400 dL_law_1401 dL_law_1402 ?_
  refine g_both h hRm rfl (as := [ai (xs (6 * i + 1)).toInt]) (K_arrives hR (i32_toInt _)) h0 clL_150 clL_153 rfl rfl in_X9_arrives se_X9_arrives rfl in_X12_arrives se_X12_arrives (by decide) (by decide) hk hn dL_law_1403 dL_law_1413 dL_law_1416 (by decide) (fun z w1 k1 n1 g => ?_) kk
  refine g_aload_n h dL_law_1406 rfl ?_
  refine g_sarg h hS (i := i) (j := 1) rfl rfl (by omega) dL_law_1407 dL_law_1408 dL_law_1410 dL_law_1411 dL_law_1412 ?_
  exact g
theorem op_village (h : OKB Γ cL_law RL 7) (hRm : cxR Γ = room_1) (hS : SCR Γ L xs) (hR : REL i w w) (h0 : w.1 0 = (109, 0)) (hi : 6 * i + 5 < L) (hk : k + 9 ≤ 601024) (hn : n + 906 ≤ 7293034) (kk : ∀ u, REL (i + 1) u u → GG Γ 1636 [some (ar 20000), some (ar 0), some (ar 400), some (ar 1900), some (ai (6 * (i : Int))), a5, a6] [] u (k + 9) (n + 906)) : GG Γ 1421 [some (ar 20000), some (ar 0), some (ar 400), some (ar 1900), some (ai (6 * (i : Int))), a5, a6] [] w k n := by
  refine g_aload_n h dL_law_1421 rfl ?_
  refine g_sarg h hS (i := i) (j := 1) rfl rfl (by omega) dL_law_1422 dL_law_1423 dL_law_1425 dL_law_1426 dL_law_1427 ?_
  refine g_sarg h hS (i := i) (j := 2) rfl rfl (by omega) dL_law_1428 dL_law_1429 dL_law_1431 dL_law_1432 dL_law_1433 ?_
  refine g_both h hRm rfl (as := [ai (xs (6 * i + 1)).toInt, ai (xs (6 * i + 2)).toInt]) (K_village hR (i32_toInt _) (i32_toInt _)) h0 clL_154 clL_157 rfl rfl in_X9_village se_X9_village rfl in_X12_village se_X12_village (by decide) (by decide) hk hn dL_law_1434 dL_law_1450 dL_law_1453 (by decide) (fun z w1 k1 n1 g => ?_) kk
  refine g_aload_n h dL_law_1437 rfl ?_
  refine g_sarg h hS (i := i) (j := 1) rfl rfl (by omega) dL_law_1438 dL_law_1439 dL_law_1441 dL_law_1442 dL_law_1443 ?_
  refine g_sarg h hS (i := i) (j := 2) rfl rfl (by omega) dL_law_1444 dL_law_1445 dL_law_1447 dL_law_1448 dL_law_1449 ?_
  exact g
theorem op_climb (h : OKB Γ cL_law RL 7) (hRm : cxR Γ = room_1) (hS : SCR Γ L xs) (hR : REL i w w) (h0 : w.1 0 = (109, 0)) (hi : 6 * i + 5 < L) (hk : k + 9 ≤ 601024) (hn : n + 906 ≤ 7293034) (kk : ∀ u, REL (i + 1) u u → GG Γ 1636 [some (ar 20000), some (ar 0), some (ar 400), some (ar 1900), some (ai (6 * (i : Int))), a5, a6] [] u (k + 9) (n + 906)) : GG Γ 1458 [some (ar 20000), some (ar 0), some (ar 400), some (ar 1900), some (ai (6 * (i : Int))), a5, a6] [] w k n := by
  refine g_aload_n h dL_law_1458 rfl ?_
  refine g_sarg h hS (i := i) (j := 1) rfl rfl (by omega) dL_law_1459 dL_law_1460 dL_law_1462 dL_law_1463 dL_law_1464 ?_
  refine g_sarg h hS (i := i) (j := 2) rfl rfl (by omega) dL_law_1465 dL_law_1466 dL_law_1468 dL_law_1469 dL_law_1470 ?_
  refine g_both h hRm rfl (as := [ai (xs (6 * i + 1)).toInt, ai (xs (6 * i + 2)).toInt]) (K_climb hR (i32_toInt _) (i32_toInt _)) h0 clL_158 clL_161 rfl rfl in_X9_climb se_X9_climb rfl in_X12_climb se_X12_climb (by decide) (by decide) hk hn dL_law_1471 dL_law_1487 dL_law_1490 (by decide) (fun z w1 k1 n1 g => ?_) kk
  refine g_aload_n h dL_law_1474 rfl ?_
  refine g_sarg h hS (i := i) (j := 1) rfl rfl (by omega) dL_law_1475 dL_law_1476 dL_law_1478 dL_law_1479 dL_law_1480 ?_
  refine g_sarg h hS (i := i) (j := 2) rfl rfl (by omega) dL_law_1481 dL_law_1482 dL_law_1484 dL_law_1485 dL_law_1486 ?_
  exact g
theorem op_lost (h : OKB Γ cL_law RL 7) (hRm : cxR Γ = room_1) (hS : SCR Γ L xs) (hR : REL i w w) (h0 : w.1 0 = (109, 0)) (hi : 6 * i + 5 < L) (hk : k + 9 ≤ 601024) (hn : n + 906 ≤ 7293034) (kk : ∀ u, REL (i + 1) u u → GG Γ 1636 [some (ar 20000), some (ar 0), some (ar 400), some (ar 1900), some (ai (6 * (i : Int))), a5, a6] [] u (k + 9) (n + 906)) : GG Γ 1495 [some (ar 20000), some (ar 0), some (ar 400), some (ar 1900), some (ai (6 * (i : Int))), a5, a6] [] w k n := by
  refine g_aload_n h dL_law_1495 rfl ?_
  refine g_sarg h hS (i := i) (j := 1) rfl rfl (by omega) dL_law_1496 dL_law_1497 dL_law_1499 dL_law_1500 dL_law_1501 ?_
  refine g_both h hRm rfl (as := [ai (xs (6 * i + 1)).toInt]) (K_lost hR (i32_toInt _)) h0 clL_162 clL_165 rfl rfl in_X9_lost se_X9_lost rfl in_X12_lost se_X12_lost (by decide) (by decide) hk hn dL_law_1502 dL_law_1512 dL_law_1515 (by decide) (fun z w1 k1 n1 g => ?_) kk
  refine g_aload_n h dL_law_1505 rfl ?_
  refine g_sarg h hS (i := i) (j := 1) rfl rfl (by omega) dL_law_1506 dL_law_1507 dL_law_1509 dL_law_1510 dL_law_1511 ?_
  exact g
theorem op_moved (h : OKB Γ cL_law RL 7) (hRm : cxR Γ = room_1) (hS : SCR Γ L xs) (hR : REL i w w) (h0 : w.1 0 = (109, 0)) (hi : 6 * i + 5 < L) (hk : k + 9 ≤ 601024) (hn : n + 906 ≤ 7293034) (kk : ∀ u, REL (i + 1) u u → GG Γ 1636 [some (ar 20000), some (ar 0), some (ar 400), some (ar 1900), some (ai (6 * (i : Int))), a5, a6] [] u (k + 9) (n + 906)) : GG Γ 1520 [some (ar 20000), some (ar 0), some (ar 400), some (ar 1900), some (ai (6 * (i : Int))), a5, a6] [] w k n := by
  refine g_aload_n h dL_law_1520 rfl ?_
  refine g_sarg h hS (i := i) (j := 1) rfl rfl (by omega) dL_law_1521 dL_law_1522 dL_law_1524 dL_law_1525 dL_law_1526 ?_
  refine g_sarg h hS (i := i) (j := 2) rfl rfl (by omega) dL_law_1527 dL_law_1528 dL_law_1530 dL_law_1531 dL_law_1532 ?_
  refine g_if_eq (tgt := 1540) h dL_law_1533 (by decide) (i32_toInt _) (fun c1 => ?_) (fun c1 => ?_)
  · refine g_iconst h dL_law_1540 ?_
    refine g_both h hRm rfl (as := [ai (xs (6 * i + 1)).toInt, ai 0]) (K_moved hR (i32_toInt _) (by decide)) h0 clL_166 clL_170 rfl rfl in_X9_moved se_X9_moved rfl in_X12_moved se_X12_moved (by decide) (by decide) hk hn dL_law_1541 dL_law_1565 dL_law_1568 (by decide) (fun z w1 k1 n1 g => ?_) kk
    refine g_aload_n h dL_law_1544 rfl ?_
    refine g_sarg h hS (i := i) (j := 1) rfl rfl (by omega) dL_law_1545 dL_law_1546 dL_law_1548 dL_law_1549 dL_law_1550 ?_
    refine g_sarg h hS (i := i) (j := 2) rfl rfl (by omega) dL_law_1551 dL_law_1552 dL_law_1554 dL_law_1555 dL_law_1556 ?_
    refine g_if_eq (tgt := 1564) h dL_law_1557 (by decide) (i32_toInt _) (fun c2 => ?_) (fun c2 => ?_)
    · refine g_iconst h dL_law_1564 ?_
      exact g
    · exact absurd c1 c2
  · refine g_iconst h dL_law_1536 ?_
    refine g_goto (tgt := 1541) h dL_law_1537 (by decide) ?_
    refine g_both h hRm rfl (as := [ai (xs (6 * i + 1)).toInt, ai 1]) (K_moved hR (i32_toInt _) (by decide)) h0 clL_166 clL_170 rfl rfl in_X9_moved se_X9_moved rfl in_X12_moved se_X12_moved (by decide) (by decide) hk hn dL_law_1541 dL_law_1565 dL_law_1568 (by decide) (fun z w1 k1 n1 g => ?_) kk
    refine g_aload_n h dL_law_1544 rfl ?_
    refine g_sarg h hS (i := i) (j := 1) rfl rfl (by omega) dL_law_1545 dL_law_1546 dL_law_1548 dL_law_1549 dL_law_1550 ?_
    refine g_sarg h hS (i := i) (j := 2) rfl rfl (by omega) dL_law_1551 dL_law_1552 dL_law_1554 dL_law_1555 dL_law_1556 ?_
    refine g_if_eq (tgt := 1564) h dL_law_1557 (by decide) (i32_toInt _) (fun c2 => ?_) (fun c2 => ?_)
    · exact absurd c2 c1
    · refine g_iconst h dL_law_1560 ?_
      refine g_goto (tgt := 1565) h dL_law_1561 (by decide) ?_
      exact g
theorem op_pass (h : OKB Γ cL_law RL 7) (hRm : cxR Γ = room_1) (hS : SCR Γ L xs) (hR : REL i w w) (h0 : w.1 0 = (109, 0)) (hi : 6 * i + 5 < L) (hk : k + 9 ≤ 601024) (hn : n + 906 ≤ 7293034) (kk : ∀ u, REL (i + 1) u u → GG Γ 1636 [some (ar 20000), some (ar 0), some (ar 400), some (ar 1900), some (ai (6 * (i : Int))), a5, a6] [] u (k + 9) (n + 906)) : GG Γ 1573 [some (ar 20000), some (ar 0), some (ar 400), some (ar 1900), some (ai (6 * (i : Int))), a5, a6] [] w k n := by
  refine g_aload_n h dL_law_1573 rfl ?_
  refine g_sarg h hS (i := i) (j := 1) rfl rfl (by omega) dL_law_1574 dL_law_1575 dL_law_1577 dL_law_1578 dL_law_1579 ?_
  refine g_both h hRm rfl (as := [ai (xs (6 * i + 1)).toInt]) (K_pass hR (i32_toInt _)) h0 clL_171 clL_174 rfl rfl in_X9_pass se_X9_pass rfl in_X12_pass se_X12_pass (by decide) (by decide) hk hn dL_law_1580 dL_law_1590 dL_law_1593 (by decide) (fun z w1 k1 n1 g => ?_) kk
  refine g_aload_n h dL_law_1583 rfl ?_
  refine g_sarg h hS (i := i) (j := 1) rfl rfl (by omega) dL_law_1584 dL_law_1585 dL_law_1587 dL_law_1588 dL_law_1589 ?_
  exact g
theorem op_count (h : OKB Γ cL_law RL 7) (hRm : cxR Γ = room_1) (hS : SCR Γ L xs) (hR : REL i w w) (h0 : w.1 0 = (109, 0)) (hi : 6 * i + 5 < L) (hk : k + 9 ≤ 601024) (hn : n + 906 ≤ 7293034) (kk : ∀ u, REL (i + 1) u u → GG Γ 1636 [some (ar 20000), some (ar 0), some (ar 400), some (ar 1900), some (ai (6 * (i : Int))), a5, a6] [] u (k + 9) (n + 906)) : GG Γ 1598 [some (ar 20000), some (ar 0), some (ar 400), some (ar 1900), some (ai (6 * (i : Int))), a5, a6] [] w k n := by
  refine g_aload_n h dL_law_1598 rfl ?_
  refine g_sarg h hS (i := i) (j := 1) rfl rfl (by omega) dL_law_1599 dL_law_1600 dL_law_1602 dL_law_1603 dL_law_1604 ?_
  refine g_both h hRm rfl (as := [ai (xs (6 * i + 1)).toInt]) (K_count hR (i32_toInt _)) h0 clL_175 clL_178 rfl rfl in_X9_count se_X9_count rfl in_X12_count se_X12_count (by decide) (by decide) hk hn dL_law_1605 dL_law_1615 dL_law_1618 (by decide) (fun z w1 k1 n1 g => ?_) kk
  refine g_aload_n h dL_law_1608 rfl ?_
  refine g_sarg h hS (i := i) (j := 1) rfl rfl (by omega) dL_law_1609 dL_law_1610 dL_law_1612 dL_law_1613 dL_law_1614 ?_
  exact g
theorem op_trouble (h : OKB Γ cL_law RL 7) (hRm : cxR Γ = room_1) (hS : SCR Γ L xs) (hR : REL i w w) (h0 : w.1 0 = (109, 0)) (hi : 6 * i + 5 < L) (hk : k + 9 ≤ 601024) (hn : n + 906 ≤ 7293034) (kk : ∀ u, REL (i + 1) u u → GG Γ 1636 [some (ar 20000), some (ar 0), some (ar 400), some (ar 1900), some (ai (6 * (i : Int))), a5, a6] [] u (k + 9) (n + 906)) : GG Γ 1623 [some (ar 20000), some (ar 0), some (ar 400), some (ar 1900), some (ai (6 * (i : Int))), a5, a6] [] w k n := by
  refine g_aload_n h dL_law_1623 rfl ?_
  refine g_both h hRm rfl (as := []) (K_trouble hR ) h0 clL_179 clL_182 rfl rfl in_X9_trouble se_X9_trouble rfl in_X12_trouble se_X12_trouble (by decide) (by decide) hk hn dL_law_1624 dL_law_1628 dL_law_1631 (by decide) (fun z w1 k1 n1 g => ?_) kk
  refine g_aload_n h dL_law_1627 rfl ?_
  exact g
end LOPS
