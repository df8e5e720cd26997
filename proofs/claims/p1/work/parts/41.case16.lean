theorem dL_law_1151 : decode cL_law 1151 = .ok (.aload_n 1, 1) := by decide +kernel
theorem dL_law_1152 : decode cL_law 1152 = .ok (.aload_n 0, 1) := by decide +kernel
theorem dL_law_1153 : decode cL_law 1153 = .ok (.iload 4, 2) := by decide +kernel
theorem dL_law_1155 : decode cL_law 1155 = .ok (.iconst 1, 1) := by decide +kernel
theorem dL_law_1156 : decode cL_law 1156 = .ok (.iadd, 1) := by decide +kernel
theorem dL_law_1157 : decode cL_law 1157 = .ok (.iaload, 1) := by decide +kernel
theorem dL_law_1158 : decode cL_law 1158 = .ok (.aload_n 0, 1) := by decide +kernel
theorem dL_law_1159 : decode cL_law 1159 = .ok (.iload 4, 2) := by decide +kernel
theorem dL_law_1161 : decode cL_law 1161 = .ok (.iconst 2, 1) := by decide +kernel
theorem dL_law_1162 : decode cL_law 1162 = .ok (.iadd, 1) := by decide +kernel
theorem dL_law_1163 : decode cL_law 1163 = .ok (.iaload, 1) := by decide +kernel
theorem dL_law_1164 : decode cL_law 1164 = .ok (.aload_n 3, 1) := by decide +kernel
theorem tw_1203 : (Jvm.Cond.methodLink "MarshBellsLaw" (170 : Nat) ({ cls := "MarshBellsLaw", name := "mean", desc := "(LMarshBells;II[J)I" } : Jvm.MethodName)) ∈ lw_tbl := tk_6 (List.mem_of_getElem? (i := 3) rfl)
theorem tw_1205 : (Jvm.Cond.codeWith ({ cls := "MarshBellsLaw", name := "mean", desc := "(LMarshBells;II[J)I" } : Jvm.MethodName) method_15_code (5 : Nat) (Option.some Jvm.ClassFile.FieldType.int) [((0 : Nat), (9 : Nat), (12 : Nat), (18 : Nat))]) ∈ lw_tbl := tk_6 (List.mem_of_getElem? (i := 5) rfl)
theorem tw_1204 : (Jvm.Cond.static ({ cls := "MarshBellsLaw", name := "mean", desc := "(LMarshBells;II[J)I" } : Jvm.MethodName)) ∈ lw_tbl := tk_6 (List.mem_of_getElem? (i := 4) rfl)
theorem li_L_170 : kLH RL 170 yL_mean cL_mean 5 (some .int) [(0, 9, 12, 18)] 4 := ⟨tw_1203, tw_1204, tw_1205, tw_0, by decide +kernel⟩
theorem dL_law_1165 : decode cL_law 1165 = .ok (.invokestatic 170, 3) := by decide +kernel
theorem dL_law_1168 : decode cL_law 1168 = .ok (.istore 5, 2) := by decide +kernel
theorem dL_law_1170 : decode cL_law 1170 = .ok (.aload_n 2, 1) := by decide +kernel
theorem dL_law_1171 : decode cL_law 1171 = .ok (.aload_n 0, 1) := by decide +kernel
theorem dL_law_1172 : decode cL_law 1172 = .ok (.iload 4, 2) := by decide +kernel
theorem dL_law_1174 : decode cL_law 1174 = .ok (.iconst 1, 1) := by decide +kernel
theorem dL_law_1175 : decode cL_law 1175 = .ok (.iadd, 1) := by decide +kernel
theorem dL_law_1176 : decode cL_law 1176 = .ok (.iaload, 1) := by decide +kernel
theorem dL_law_1177 : decode cL_law 1177 = .ok (.aload_n 0, 1) := by decide +kernel
theorem dL_law_1178 : decode cL_law 1178 = .ok (.iload 4, 2) := by decide +kernel
theorem dL_law_1180 : decode cL_law 1180 = .ok (.iconst 2, 1) := by decide +kernel
theorem dL_law_1181 : decode cL_law 1181 = .ok (.iadd, 1) := by decide +kernel
theorem dL_law_1182 : decode cL_law 1182 = .ok (.iaload, 1) := by decide +kernel
theorem tw_1970 : (Jvm.Cond.methodLink "MarshBellsLaw" (172 : Nat) ({ cls := "MarshBellsModel", name := "mean", desc := "(II)J" } : Jvm.MethodName)) ∈ lw_tbl := tk_9 (List.mem_of_getElem? (i := 50) rfl)
theorem tw_1973 : (Jvm.Cond.code ({ cls := "MarshBellsModel", name := "mean", desc := "(II)J" } : Jvm.MethodName) prog_14_method_75_code (3 : Nat) (Option.some Jvm.ClassFile.FieldType.long)) ∈ lw_tbl := tk_9 (List.mem_of_getElem? (i := 53) rfl)
theorem tw_1971 : (Jvm.Cond.instanceMethod ({ cls := "MarshBellsModel", name := "mean", desc := "(II)J" } : Jvm.MethodName)) ∈ lw_tbl := tk_9 (List.mem_of_getElem? (i := 51) rfl)
theorem tw_1972 : (Jvm.Cond.selects "MarshBellsModel" ({ cls := "MarshBellsModel", name := "mean", desc := "(II)J" } : Jvm.MethodName) ({ cls := "MarshBellsModel", name := "mean", desc := "(II)J" } : Jvm.MethodName)) ∈ lw_tbl := tk_9 (List.mem_of_getElem? (i := 52) rfl)
theorem li_L_172 : kLV RL 172 RX12 yX12_mean cX12_mean 3 (some .long) 2 := ⟨tw_1970, tw_1971, tw_1972, tw_1973, tw_13, by decide +kernel⟩
theorem dL_law_1183 : decode cL_law 1183 = .ok (.invokevirtual 172, 3) := by decide +kernel
theorem dL_law_1186 : decode cL_law 1186 = .ok (.lstore 6, 2) := by decide +kernel
theorem dL_law_1188 : decode cL_law 1188 = .ok (.aload_n 2, 1) := by decide +kernel
theorem dL_law_1189 : decode cL_law 1189 = .ok (.invokevirtual 118, 3) := by decide +kernel
theorem dL_law_1192 : decode cL_law 1192 = .ok (.iload 5, 2) := by decide +kernel
theorem dL_law_1194 : decode cL_law 1194 = .ok (.if_icmp .eq 5, 3) := by decide +kernel
theorem dL_law_1199 : decode cL_law 1199 = .ok (.iload 5, 2) := by decide +kernel
theorem dL_law_1201 : decode cL_law 1201 = .ok (.ifCond .ne 14, 3) := by decide +kernel
theorem dL_law_1215 : decode cL_law 1215 = .ok (.goto 1050, 3) := by decide +kernel
theorem dL_law_1218 : decode cL_law 1218 = .ok (.aload_n 1, 1) := by decide +kernel
theorem dL_law_1219 : decode cL_law 1219 = .ok (.aload_n 0, 1) := by decide +kernel
theorem dL_law_1220 : decode cL_law 1220 = .ok (.iload 4, 2) := by decide +kernel
theorem dL_law_1222 : decode cL_law 1222 = .ok (.iconst 1, 1) := by decide +kernel
theorem dL_law_1223 : decode cL_law 1223 = .ok (.iadd, 1) := by decide +kernel
theorem dL_law_1224 : decode cL_law 1224 = .ok (.iaload, 1) := by decide +kernel
theorem dL_law_1225 : decode cL_law 1225 = .ok (.aload_n 3, 1) := by decide +kernel
theorem tw_1214 : (Jvm.Cond.methodLink "MarshBellsLaw" (173 : Nat) ({ cls := "MarshBellsLaw", name := "swap", desc := "(LMarshBells;I[J)I" } : Jvm.MethodName)) ∈ lw_tbl := tk_6 (List.mem_of_getElem? (i := 14) rfl)
theorem tw_1216 : (Jvm.Cond.codeWith ({ cls := "MarshBellsLaw", name := "swap", desc := "(LMarshBells;I[J)I" } : Jvm.MethodName) method_16_code (4 : Nat) (Option.some Jvm.ClassFile.FieldType.int) [((0 : Nat), (9 : Nat), (12 : Nat), (18 : Nat))]) ∈ lw_tbl := tk_6 (List.mem_of_getElem? (i := 16) rfl)
theorem tw_1215 : (Jvm.Cond.static ({ cls := "MarshBellsLaw", name := "swap", desc := "(LMarshBells;I[J)I" } : Jvm.MethodName)) ∈ lw_tbl := tk_6 (List.mem_of_getElem? (i := 15) rfl)
theorem li_L_173 : kLH RL 173 yL_swap cL_swap 4 (some .int) [(0, 9, 12, 18)] 3 := ⟨tw_1214, tw_1215, tw_1216, tw_0, by decide +kernel⟩
theorem dL_law_1226 : decode cL_law 1226 = .ok (.invokestatic 173, 3) := by decide +kernel
theorem dL_law_1229 : decode cL_law 1229 = .ok (.istore 5, 2) := by decide +kernel
theorem dL_law_1231 : decode cL_law 1231 = .ok (.aload_n 2, 1) := by decide +kernel
theorem dL_law_1232 : decode cL_law 1232 = .ok (.aload_n 0, 1) := by decide +kernel
theorem dL_law_1233 : decode cL_law 1233 = .ok (.iload 4, 2) := by decide +kernel
theorem dL_law_1235 : decode cL_law 1235 = .ok (.iconst 1, 1) := by decide +kernel
theorem dL_law_1236 : decode cL_law 1236 = .ok (.iadd, 1) := by decide +kernel
theorem dL_law_1237 : decode cL_law 1237 = .ok (.iaload, 1) := by decide +kernel
theorem tw_1974 : (Jvm.Cond.methodLink "MarshBellsLaw" (175 : Nat) ({ cls := "MarshBellsModel", name := "swap", desc := "(I)I" } : Jvm.MethodName)) ∈ lw_tbl := tk_9 (List.mem_of_getElem? (i := 54) rfl)
theorem tw_1977 : (Jvm.Cond.code ({ cls := "MarshBellsModel", name := "swap", desc := "(I)I" } : Jvm.MethodName) prog_14_method_77_code (7 : Nat) (Option.some Jvm.ClassFile.FieldType.int)) ∈ lw_tbl := tk_9 (List.mem_of_getElem? (i := 57) rfl)
theorem tw_1975 : (Jvm.Cond.instanceMethod ({ cls := "MarshBellsModel", name := "swap", desc := "(I)I" } : Jvm.MethodName)) ∈ lw_tbl := tk_9 (List.mem_of_getElem? (i := 55) rfl)
theorem tw_1976 : (Jvm.Cond.selects "MarshBellsModel" ({ cls := "MarshBellsModel", name := "swap", desc := "(I)I" } : Jvm.MethodName) ({ cls := "MarshBellsModel", name := "swap", desc := "(I)I" } : Jvm.MethodName)) ∈ lw_tbl := tk_9 (List.mem_of_getElem? (i := 56) rfl)
theorem li_L_175 : kLV RL 175 RX12 yX12_swap cX12_swap 7 (some .int) 1 := ⟨tw_1974, tw_1975, tw_1976, tw_1977, tw_13, by decide +kernel⟩
theorem dL_law_1238 : decode cL_law 1238 = .ok (.invokevirtual 175, 3) := by decide +kernel
theorem dL_law_1241 : decode cL_law 1241 = .ok (.istore 6, 2) := by decide +kernel
theorem dL_law_1243 : decode cL_law 1243 = .ok (.aload_n 2, 1) := by decide +kernel
theorem dL_law_1244 : decode cL_law 1244 = .ok (.invokevirtual 118, 3) := by decide +kernel
theorem dL_law_1247 : decode cL_law 1247 = .ok (.iload 5, 2) := by decide +kernel
theorem dL_law_1249 : decode cL_law 1249 = .ok (.if_icmp .eq 5, 3) := by decide +kernel
theorem dL_law_1254 : decode cL_law 1254 = .ok (.iload 5, 2) := by decide +kernel
theorem dL_law_1256 : decode cL_law 1256 = .ok (.ifCond .ne 15, 3) := by decide +kernel
theorem dL_law_1271 : decode cL_law 1271 = .ok (.goto 994, 3) := by decide +kernel
theorem dL_law_1252 : decode cL_law 1252 = .ok (.iconst 0, 1) := by decide +kernel
theorem dL_law_1259 : decode cL_law 1259 = .ok (.aload_n 3, 1) := by decide +kernel
theorem dL_law_1260 : decode cL_law 1260 = .ok (.iconst 0, 1) := by decide +kernel
theorem dL_law_1261 : decode cL_law 1261 = .ok (.laload, 1) := by decide +kernel
theorem dL_law_1262 : decode cL_law 1262 = .ok (.iload 6, 2) := by decide +kernel
theorem dL_law_1264 : decode cL_law 1264 = .ok (.i2l, 1) := by decide +kernel
theorem dL_law_1265 : decode cL_law 1265 = .ok (.lcmp, 1) := by decide +kernel
theorem dL_law_1266 : decode cL_law 1266 = .ok (.ifCond .eq 5, 3) := by decide +kernel
theorem dL_law_1274 : decode cL_law 1274 = .ok (.aload_n 1, 1) := by decide +kernel
theorem dL_law_1275 : decode cL_law 1275 = .ok (.aload_n 0, 1) := by decide +kernel
theorem dL_law_1276 : decode cL_law 1276 = .ok (.iload 4, 2) := by decide +kernel
theorem dL_law_1278 : decode cL_law 1278 = .ok (.iconst 1, 1) := by decide +kernel
theorem dL_law_1279 : decode cL_law 1279 = .ok (.iadd, 1) := by decide +kernel
theorem dL_law_1280 : decode cL_law 1280 = .ok (.iaload, 1) := by decide +kernel
theorem dL_law_1281 : decode cL_law 1281 = .ok (.aload_n 0, 1) := by decide +kernel
theorem dL_law_1282 : decode cL_law 1282 = .ok (.iload 4, 2) := by decide +kernel
theorem dL_law_1284 : decode cL_law 1284 = .ok (.iconst 2, 1) := by decide +kernel
theorem dL_law_1285 : decode cL_law 1285 = .ok (.iadd, 1) := by decide +kernel
theorem dL_law_1286 : decode cL_law 1286 = .ok (.iaload, 1) := by decide +kernel
theorem dL_law_1287 : decode cL_law 1287 = .ok (.aload_n 3, 1) := by decide +kernel
theorem tw_1229 : (Jvm.Cond.methodLink "MarshBellsLaw" (176 : Nat) ({ cls := "MarshBellsLaw", name := "room", desc := "(LMarshBells;II[J)I" } : Jvm.MethodName)) ∈ lw_tbl := tk_6 (List.mem_of_getElem? (i := 29) rfl)
theorem tw_1231 : (Jvm.Cond.codeWith ({ cls := "MarshBellsLaw", name := "room", desc := "(LMarshBells;II[J)I" } : Jvm.MethodName) method_17_code (5 : Nat) (Option.some Jvm.ClassFile.FieldType.int) [((0 : Nat), (10 : Nat), (13 : Nat), (18 : Nat))]) ∈ lw_tbl := tk_6 (List.mem_of_getElem? (i := 31) rfl)
theorem tw_1230 : (Jvm.Cond.static ({ cls := "MarshBellsLaw", name := "room", desc := "(LMarshBells;II[J)I" } : Jvm.MethodName)) ∈ lw_tbl := tk_6 (List.mem_of_getElem? (i := 30) rfl)
theorem li_L_176 : kLH RL 176 yL_room cL_room 5 (some .int) [(0, 10, 13, 18)] 4 := ⟨tw_1229, tw_1230, tw_1231, tw_0, by decide +kernel⟩
theorem dL_law_1288 : decode cL_law 1288 = .ok (.invokestatic 176, 3) := by decide +kernel
theorem dL_law_1291 : decode cL_law 1291 = .ok (.istore 5, 2) := by decide +kernel
theorem dL_law_1293 : decode cL_law 1293 = .ok (.aload_n 2, 1) := by decide +kernel
theorem dL_law_1294 : decode cL_law 1294 = .ok (.aload_n 0, 1) := by decide +kernel
theorem dL_law_1295 : decode cL_law 1295 = .ok (.iload 4, 2) := by decide +kernel
theorem dL_law_1297 : decode cL_law 1297 = .ok (.iconst 1, 1) := by decide +kernel
theorem dL_law_1298 : decode cL_law 1298 = .ok (.iadd, 1) := by decide +kernel
theorem dL_law_1299 : decode cL_law 1299 = .ok (.iaload, 1) := by decide +kernel
theorem dL_law_1300 : decode cL_law 1300 = .ok (.aload_n 0, 1) := by decide +kernel
theorem dL_law_1301 : decode cL_law 1301 = .ok (.iload 4, 2) := by decide +kernel
theorem dL_law_1303 : decode cL_law 1303 = .ok (.iconst 2, 1) := by decide +kernel
theorem dL_law_1304 : decode cL_law 1304 = .ok (.iadd, 1) := by decide +kernel
theorem dL_law_1305 : decode cL_law 1305 = .ok (.iaload, 1) := by decide +kernel
theorem tw_1982 : (Jvm.Cond.methodLink "MarshBellsLaw" (178 : Nat) ({ cls := "MarshBellsModel", name := "room", desc := "(II)I" } : Jvm.MethodName)) ∈ lw_tbl := tk_9 (List.mem_of_getElem? (i := 62) rfl)
theorem tw_1985 : (Jvm.Cond.code ({ cls := "MarshBellsModel", name := "room", desc := "(II)I" } : Jvm.MethodName) prog_14_method_79_code (3 : Nat) (Option.some Jvm.ClassFile.FieldType.int)) ∈ lw_tbl := tk_9 (List.mem_of_getElem? (i := 65) rfl)
theorem tw_1983 : (Jvm.Cond.instanceMethod ({ cls := "MarshBellsModel", name := "room", desc := "(II)I" } : Jvm.MethodName)) ∈ lw_tbl := tk_9 (List.mem_of_getElem? (i := 63) rfl)
theorem tw_1984 : (Jvm.Cond.selects "MarshBellsModel" ({ cls := "MarshBellsModel", name := "room", desc := "(II)I" } : Jvm.MethodName) ({ cls := "MarshBellsModel", name := "room", desc := "(II)I" } : Jvm.MethodName)) ∈ lw_tbl := tk_9 (List.mem_of_getElem? (i := 64) rfl)
theorem li_L_178 : kLV RL 178 RX12 yX12_room cX12_room 3 (some .int) 2 := ⟨tw_1982, tw_1983, tw_1984, tw_1985, tw_13, by decide +kernel⟩
theorem dL_law_1306 : decode cL_law 1306 = .ok (.invokevirtual 178, 3) := by decide +kernel
theorem dL_law_1309 : decode cL_law 1309 = .ok (.istore 6, 2) := by decide +kernel
theorem dL_law_1311 : decode cL_law 1311 = .ok (.aload_n 2, 1) := by decide +kernel
theorem dL_law_1312 : decode cL_law 1312 = .ok (.invokevirtual 118, 3) := by decide +kernel
theorem dL_law_1315 : decode cL_law 1315 = .ok (.iload 5, 2) := by decide +kernel
theorem dL_law_1317 : decode cL_law 1317 = .ok (.if_icmp .eq 5, 3) := by decide +kernel
theorem dL_law_1322 : decode cL_law 1322 = .ok (.iload 5, 2) := by decide +kernel
theorem dL_law_1324 : decode cL_law 1324 = .ok (.ifCond .ne 15, 3) := by decide +kernel
theorem dL_law_1339 : decode cL_law 1339 = .ok (.goto 926, 3) := by decide +kernel
theorem dL_law_1342 : decode cL_law 1342 = .ok (.aload_n 1, 1) := by decide +kernel
theorem dL_law_1343 : decode cL_law 1343 = .ok (.aload_n 0, 1) := by decide +kernel
theorem dL_law_1344 : decode cL_law 1344 = .ok (.iload 4, 2) := by decide +kernel
theorem dL_law_1346 : decode cL_law 1346 = .ok (.iconst 1, 1) := by decide +kernel
theorem dL_law_1347 : decode cL_law 1347 = .ok (.iadd, 1) := by decide +kernel
theorem dL_law_1348 : decode cL_law 1348 = .ok (.iaload, 1) := by decide +kernel
theorem dL_law_1349 : decode cL_law 1349 = .ok (.aload_n 0, 1) := by decide +kernel
theorem dL_law_1350 : decode cL_law 1350 = .ok (.iload 4, 2) := by decide +kernel
theorem dL_law_1352 : decode cL_law 1352 = .ok (.iconst 2, 1) := by decide +kernel
theorem dL_law_1353 : decode cL_law 1353 = .ok (.iadd, 1) := by decide +kernel
theorem dL_law_1354 : decode cL_law 1354 = .ok (.iaload, 1) := by decide +kernel
theorem dL_law_1355 : decode cL_law 1355 = .ok (.aload_n 3, 1) := by decide +kernel
theorem tw_1243 : (Jvm.Cond.methodLink "MarshBellsLaw" (179 : Nat) ({ cls := "MarshBellsLaw", name := "limit", desc := "(LMarshBells;II[J)I" } : Jvm.MethodName)) ∈ lw_tbl := tk_6 (List.mem_of_getElem? (i := 43) rfl)
theorem tw_1245 : (Jvm.Cond.codeWith ({ cls := "MarshBellsLaw", name := "limit", desc := "(LMarshBells;II[J)I" } : Jvm.MethodName) method_18_code (5 : Nat) (Option.some Jvm.ClassFile.FieldType.int) [((0 : Nat), (10 : Nat), (13 : Nat), (18 : Nat))]) ∈ lw_tbl := tk_6 (List.mem_of_getElem? (i := 45) rfl)
theorem tw_1244 : (Jvm.Cond.static ({ cls := "MarshBellsLaw", name := "limit", desc := "(LMarshBells;II[J)I" } : Jvm.MethodName)) ∈ lw_tbl := tk_6 (List.mem_of_getElem? (i := 44) rfl)
theorem li_L_179 : kLH RL 179 yL_limit cL_limit 5 (some .int) [(0, 10, 13, 18)] 4 := ⟨tw_1243, tw_1244, tw_1245, tw_0, by decide +kernel⟩
theorem dL_law_1356 : decode cL_law 1356 = .ok (.invokestatic 179, 3) := by decide +kernel
theorem dL_law_1359 : decode cL_law 1359 = .ok (.istore 5, 2) := by decide +kernel
theorem dL_law_1361 : decode cL_law 1361 = .ok (.aload_n 2, 1) := by decide +kernel
theorem dL_law_1362 : decode cL_law 1362 = .ok (.aload_n 0, 1) := by decide +kernel
theorem dL_law_1363 : decode cL_law 1363 = .ok (.iload 4, 2) := by decide +kernel
theorem dL_law_1365 : decode cL_law 1365 = .ok (.iconst 1, 1) := by decide +kernel
theorem dL_law_1366 : decode cL_law 1366 = .ok (.iadd, 1) := by decide +kernel
theorem dL_law_1367 : decode cL_law 1367 = .ok (.iaload, 1) := by decide +kernel
theorem dL_law_1368 : decode cL_law 1368 = .ok (.aload_n 0, 1) := by decide +kernel
theorem dL_law_1369 : decode cL_law 1369 = .ok (.iload 4, 2) := by decide +kernel
theorem dL_law_1371 : decode cL_law 1371 = .ok (.iconst 2, 1) := by decide +kernel
theorem dL_law_1372 : decode cL_law 1372 = .ok (.iadd, 1) := by decide +kernel
theorem dL_law_1373 : decode cL_law 1373 = .ok (.iaload, 1) := by decide +kernel
theorem tw_1990 : (Jvm.Cond.methodLink "MarshBellsLaw" (181 : Nat) ({ cls := "MarshBellsModel", name := "limit", desc := "(II)I" } : Jvm.MethodName)) ∈ lw_tbl := tk_9 (List.mem_of_getElem? (i := 70) rfl)
theorem tw_1993 : (Jvm.Cond.code ({ cls := "MarshBellsModel", name := "limit", desc := "(II)I" } : Jvm.MethodName) prog_14_method_80_code (3 : Nat) (Option.some Jvm.ClassFile.FieldType.int)) ∈ lw_tbl := tk_9 (List.mem_of_getElem? (i := 73) rfl)
theorem tw_1991 : (Jvm.Cond.instanceMethod ({ cls := "MarshBellsModel", name := "limit", desc := "(II)I" } : Jvm.MethodName)) ∈ lw_tbl := tk_9 (List.mem_of_getElem? (i := 71) rfl)
theorem tw_1992 : (Jvm.Cond.selects "MarshBellsModel" ({ cls := "MarshBellsModel", name := "limit", desc := "(II)I" } : Jvm.MethodName) ({ cls := "MarshBellsModel", name := "limit", desc := "(II)I" } : Jvm.MethodName)) ∈ lw_tbl := tk_9 (List.mem_of_getElem? (i := 72) rfl)
theorem li_L_181 : kLV RL 181 RX12 yX12_limit cX12_limit 3 (some .int) 2 := ⟨tw_1990, tw_1991, tw_1992, tw_1993, tw_13, by decide +kernel⟩
theorem dL_law_1374 : decode cL_law 1374 = .ok (.invokevirtual 181, 3) := by decide +kernel
theorem dL_law_1377 : decode cL_law 1377 = .ok (.istore 6, 2) := by decide +kernel
theorem dL_law_1379 : decode cL_law 1379 = .ok (.aload_n 2, 1) := by decide +kernel
theorem dL_law_1380 : decode cL_law 1380 = .ok (.invokevirtual 118, 3) := by decide +kernel
theorem dL_law_1383 : decode cL_law 1383 = .ok (.iload 5, 2) := by decide +kernel
theorem dL_law_1385 : decode cL_law 1385 = .ok (.if_icmp .eq 5, 3) := by decide +kernel
theorem dL_law_1390 : decode cL_law 1390 = .ok (.iload 5, 2) := by decide +kernel
theorem dL_law_1392 : decode cL_law 1392 = .ok (.ifCond .ne 15, 3) := by decide +kernel
theorem dL_law_1407 : decode cL_law 1407 = .ok (.goto 858, 3) := by decide +kernel
theorem dL_law_1410 : decode cL_law 1410 = .ok (.aload_n 1, 1) := by decide +kernel
theorem tw_584 : (Jvm.Cond.methodLink "MarshBellsLaw" (182 : Nat) ({ cls := "MarshBells", name := "last", desc := "()I" } : Jvm.MethodName)) ∈ lw_tbl := tk_3 (List.mem_of_getElem? (i := 104) rfl)
theorem tw_587 : (Jvm.Cond.code ({ cls := "MarshBells", name := "last", desc := "()I" } : Jvm.MethodName) prog_1_method_22_code (1 : Nat) (Option.some Jvm.ClassFile.FieldType.int)) ∈ lw_tbl := tk_3 (List.mem_of_getElem? (i := 107) rfl)
theorem tw_585 : (Jvm.Cond.instanceMethod ({ cls := "MarshBells", name := "last", desc := "()I" } : Jvm.MethodName)) ∈ lw_tbl := tk_3 (List.mem_of_getElem? (i := 105) rfl)
theorem tw_586 : (Jvm.Cond.selects "MarshBells" ({ cls := "MarshBells", name := "last", desc := "()I" } : Jvm.MethodName) ({ cls := "MarshBells", name := "last", desc := "()I" } : Jvm.MethodName)) ∈ lw_tbl := tk_3 (List.mem_of_getElem? (i := 106) rfl)
theorem li_L_182 : kLV RL 182 RX11 yX11_last cX11_last 1 (some .int) 0 := ⟨tw_584, tw_585, tw_586, tw_587, tw_1, by decide +kernel⟩
theorem dL_law_1411 : decode cL_law 1411 = .ok (.invokevirtual 182, 3) := by decide +kernel
theorem dL_law_1414 : decode cL_law 1414 = .ok (.aload_n 2, 1) := by decide +kernel
theorem tw_1994 : (Jvm.Cond.methodLink "MarshBellsLaw" (185 : Nat) ({ cls := "MarshBellsModel", name := "last", desc := "()I" } : Jvm.MethodName)) ∈ lw_tbl := tk_9 (List.mem_of_getElem? (i := 74) rfl)
theorem tw_1997 : (Jvm.Cond.code ({ cls := "MarshBellsModel", name := "last", desc := "()I" } : Jvm.MethodName) prog_14_method_81_code (6 : Nat) (Option.some Jvm.ClassFile.FieldType.int)) ∈ lw_tbl := tk_9 (List.mem_of_getElem? (i := 77) rfl)
theorem tw_1995 : (Jvm.Cond.instanceMethod ({ cls := "MarshBellsModel", name := "last", desc := "()I" } : Jvm.MethodName)) ∈ lw_tbl := tk_9 (List.mem_of_getElem? (i := 75) rfl)
theorem tw_1996 : (Jvm.Cond.selects "MarshBellsModel" ({ cls := "MarshBellsModel", name := "last", desc := "()I" } : Jvm.MethodName) ({ cls := "MarshBellsModel", name := "last", desc := "()I" } : Jvm.MethodName)) ∈ lw_tbl := tk_9 (List.mem_of_getElem? (i := 76) rfl)
theorem li_L_185 : kLV RL 185 RX12 yX12_last cX12_last 6 (some .int) 0 := ⟨tw_1994, tw_1995, tw_1996, tw_1997, tw_13, by decide +kernel⟩
theorem dL_law_1415 : decode cL_law 1415 = .ok (.invokevirtual 185, 3) := by decide +kernel
theorem dL_law_1418 : decode cL_law 1418 = .ok (.if_icmp .eq 847, 3) := by decide +kernel
theorem dL_law_1423 : decode cL_law 1423 = .ok (.aload_n 1, 1) := by decide +kernel
theorem dL_law_1424 : decode cL_law 1424 = .ok (.aload_n 0, 1) := by decide +kernel
theorem dL_law_1425 : decode cL_law 1425 = .ok (.iload 4, 2) := by decide +kernel
theorem dL_law_1427 : decode cL_law 1427 = .ok (.iconst 1, 1) := by decide +kernel
theorem dL_law_1428 : decode cL_law 1428 = .ok (.iadd, 1) := by decide +kernel
theorem dL_law_1429 : decode cL_law 1429 = .ok (.iaload, 1) := by decide +kernel
theorem dL_law_1430 : decode cL_law 1430 = .ok (.aload_n 3, 1) := by decide +kernel
theorem tw_1250 : (Jvm.Cond.methodLink "MarshBellsLaw" (186 : Nat) ({ cls := "MarshBellsLaw", name := "compare", desc := "(LMarshBells;I[J)I" } : Jvm.MethodName)) ∈ lw_tbl := tk_6 (List.mem_of_getElem? (i := 50) rfl)
theorem tw_1252 : (Jvm.Cond.codeWith ({ cls := "MarshBellsLaw", name := "compare", desc := "(LMarshBells;I[J)I" } : Jvm.MethodName) method_19_code (4 : Nat) (Option.some Jvm.ClassFile.FieldType.int) [((0 : Nat), (9 : Nat), (12 : Nat), (18 : Nat))]) ∈ lw_tbl := tk_6 (List.mem_of_getElem? (i := 52) rfl)
theorem tw_1251 : (Jvm.Cond.static ({ cls := "MarshBellsLaw", name := "compare", desc := "(LMarshBells;I[J)I" } : Jvm.MethodName)) ∈ lw_tbl := tk_6 (List.mem_of_getElem? (i := 51) rfl)
theorem li_L_186 : kLH RL 186 yL_compare cL_compare 4 (some .int) [(0, 9, 12, 18)] 3 := ⟨tw_1250, tw_1251, tw_1252, tw_0, by decide +kernel⟩
theorem dL_law_1431 : decode cL_law 1431 = .ok (.invokestatic 186, 3) := by decide +kernel
theorem dL_law_1434 : decode cL_law 1434 = .ok (.istore 5, 2) := by decide +kernel
theorem dL_law_1436 : decode cL_law 1436 = .ok (.aload_n 2, 1) := by decide +kernel
theorem dL_law_1437 : decode cL_law 1437 = .ok (.aload_n 0, 1) := by decide +kernel
theorem dL_law_1438 : decode cL_law 1438 = .ok (.iload 4, 2) := by decide +kernel
theorem dL_law_1440 : decode cL_law 1440 = .ok (.iconst 1, 1) := by decide +kernel
theorem dL_law_1441 : decode cL_law 1441 = .ok (.iadd, 1) := by decide +kernel
theorem dL_law_1442 : decode cL_law 1442 = .ok (.iaload, 1) := by decide +kernel
theorem tw_1998 : (Jvm.Cond.methodLink "MarshBellsLaw" (188 : Nat) ({ cls := "MarshBellsModel", name := "compare", desc := "(I)I" } : Jvm.MethodName)) ∈ lw_tbl := tk_9 (List.mem_of_getElem? (i := 78) rfl)
theorem tw_2001 : (Jvm.Cond.code ({ cls := "MarshBellsModel", name := "compare", desc := "(I)I" } : Jvm.MethodName) prog_14_method_83_code (2 : Nat) (Option.some Jvm.ClassFile.FieldType.int)) ∈ lw_tbl := tk_9 (List.mem_of_getElem? (i := 81) rfl)
theorem tw_1999 : (Jvm.Cond.instanceMethod ({ cls := "MarshBellsModel", name := "compare", desc := "(I)I" } : Jvm.MethodName)) ∈ lw_tbl := tk_9 (List.mem_of_getElem? (i := 79) rfl)
theorem tw_2000 : (Jvm.Cond.selects "MarshBellsModel" ({ cls := "MarshBellsModel", name := "compare", desc := "(I)I" } : Jvm.MethodName) ({ cls := "MarshBellsModel", name := "compare", desc := "(I)I" } : Jvm.MethodName)) ∈ lw_tbl := tk_9 (List.mem_of_getElem? (i := 80) rfl)
theorem li_L_188 : kLV RL 188 RX12 yX12_compare cX12_compare 2 (some .int) 1 := ⟨tw_1998, tw_1999, tw_2000, tw_2001, tw_13, by decide +kernel⟩
theorem dL_law_1443 : decode cL_law 1443 = .ok (.invokevirtual 188, 3) := by decide +kernel
theorem dL_law_1446 : decode cL_law 1446 = .ok (.istore 6, 2) := by decide +kernel
theorem dL_law_1448 : decode cL_law 1448 = .ok (.aload_n 2, 1) := by decide +kernel
theorem dL_law_1449 : decode cL_law 1449 = .ok (.invokevirtual 118, 3) := by decide +kernel
theorem dL_law_1452 : decode cL_law 1452 = .ok (.iload 5, 2) := by decide +kernel
theorem dL_law_1454 : decode cL_law 1454 = .ok (.if_icmp .eq 5, 3) := by decide +kernel
theorem dL_law_1459 : decode cL_law 1459 = .ok (.iload 5, 2) := by decide +kernel
theorem dL_law_1461 : decode cL_law 1461 = .ok (.ifCond .ne 15, 3) := by decide +kernel
theorem dL_law_1476 : decode cL_law 1476 = .ok (.goto 789, 3) := by decide +kernel
theorem dL_law_1457 : decode cL_law 1457 = .ok (.iconst 0, 1) := by decide +kernel
theorem dL_law_1464 : decode cL_law 1464 = .ok (.aload_n 3, 1) := by decide +kernel
theorem dL_law_1465 : decode cL_law 1465 = .ok (.iconst 0, 1) := by decide +kernel
theorem dL_law_1466 : decode cL_law 1466 = .ok (.laload, 1) := by decide +kernel
theorem dL_law_1467 : decode cL_law 1467 = .ok (.iload 6, 2) := by decide +kernel
theorem dL_law_1469 : decode cL_law 1469 = .ok (.i2l, 1) := by decide +kernel
theorem dL_law_1470 : decode cL_law 1470 = .ok (.lcmp, 1) := by decide +kernel
theorem dL_law_1471 : decode cL_law 1471 = .ok (.ifCond .eq 5, 3) := by decide +kernel
theorem dL_law_1479 : decode cL_law 1479 = .ok (.aload_n 1, 1) := by decide +kernel
theorem tw_668 : (Jvm.Cond.methodLink "MarshBellsLaw" (189 : Nat) ({ cls := "MarshBells", name := "best", desc := "()I" } : Jvm.MethodName)) ∈ lw_tbl := tk_3 (List.mem_of_getElem? (i := 188) rfl)
theorem tw_671 : (Jvm.Cond.code ({ cls := "MarshBells", name := "best", desc := "()I" } : Jvm.MethodName) prog_1_method_24_code (1 : Nat) (Option.some Jvm.ClassFile.FieldType.int)) ∈ lw_tbl := tk_3 (List.mem_of_getElem? (i := 191) rfl)
theorem tw_669 : (Jvm.Cond.instanceMethod ({ cls := "MarshBells", name := "best", desc := "()I" } : Jvm.MethodName)) ∈ lw_tbl := tk_3 (List.mem_of_getElem? (i := 189) rfl)
theorem tw_670 : (Jvm.Cond.selects "MarshBells" ({ cls := "MarshBells", name := "best", desc := "()I" } : Jvm.MethodName) ({ cls := "MarshBells", name := "best", desc := "()I" } : Jvm.MethodName)) ∈ lw_tbl := tk_3 (List.mem_of_getElem? (i := 190) rfl)
theorem li_L_189 : kLV RL 189 RX11 yX11_best cX11_best 1 (some .int) 0 := ⟨tw_668, tw_669, tw_670, tw_671, tw_1, by decide +kernel⟩
theorem dL_law_1480 : decode cL_law 1480 = .ok (.invokevirtual 189, 3) := by decide +kernel
theorem dL_law_1483 : decode cL_law 1483 = .ok (.aload_n 2, 1) := by decide +kernel
theorem tw_2006 : (Jvm.Cond.methodLink "MarshBellsLaw" (192 : Nat) ({ cls := "MarshBellsModel", name := "best", desc := "()I" } : Jvm.MethodName)) ∈ lw_tbl := tk_9 (List.mem_of_getElem? (i := 86) rfl)
theorem tw_2009 : (Jvm.Cond.code ({ cls := "MarshBellsModel", name := "best", desc := "()I" } : Jvm.MethodName) prog_14_method_84_code (3 : Nat) (Option.some Jvm.ClassFile.FieldType.int)) ∈ lw_tbl := tk_9 (List.mem_of_getElem? (i := 89) rfl)
theorem tw_2007 : (Jvm.Cond.instanceMethod ({ cls := "MarshBellsModel", name := "best", desc := "()I" } : Jvm.MethodName)) ∈ lw_tbl := tk_9 (List.mem_of_getElem? (i := 87) rfl)
theorem tw_2008 : (Jvm.Cond.selects "MarshBellsModel" ({ cls := "MarshBellsModel", name := "best", desc := "()I" } : Jvm.MethodName) ({ cls := "MarshBellsModel", name := "best", desc := "()I" } : Jvm.MethodName)) ∈ lw_tbl := tk_9 (List.mem_of_getElem? (i := 88) rfl)
theorem li_L_192 : kLV RL 192 RX12 yX12_best cX12_best 3 (some .int) 0 := ⟨tw_2006, tw_2007, tw_2008, tw_2009, tw_13, by decide +kernel⟩
theorem dL_law_1484 : decode cL_law 1484 = .ok (.invokevirtual 192, 3) := by decide +kernel
theorem dL_law_1487 : decode cL_law 1487 = .ok (.if_icmp .eq 778, 3) := by decide +kernel
theorem dL_law_1492 : decode cL_law 1492 = .ok (.aload_n 1, 1) := by decide +kernel
theorem dL_law_1493 : decode cL_law 1493 = .ok (.aload_n 0, 1) := by decide +kernel
theorem dL_law_1494 : decode cL_law 1494 = .ok (.iload 4, 2) := by decide +kernel
theorem dL_law_1496 : decode cL_law 1496 = .ok (.iconst 1, 1) := by decide +kernel
theorem dL_law_1497 : decode cL_law 1497 = .ok (.iadd, 1) := by decide +kernel
theorem dL_law_1498 : decode cL_law 1498 = .ok (.iaload, 1) := by decide +kernel
theorem dL_law_1499 : decode cL_law 1499 = .ok (.aload_n 3, 1) := by decide +kernel
theorem tw_1258 : (Jvm.Cond.methodLink "MarshBellsLaw" (193 : Nat) ({ cls := "MarshBellsLaw", name := "bell", desc := "(LMarshBells;I[J)I" } : Jvm.MethodName)) ∈ lw_tbl := tk_6 (List.mem_of_getElem? (i := 58) rfl)
theorem tw_1260 : (Jvm.Cond.codeWith ({ cls := "MarshBellsLaw", name := "bell", desc := "(LMarshBells;I[J)I" } : Jvm.MethodName) method_20_code (4 : Nat) (Option.some Jvm.ClassFile.FieldType.int) [((0 : Nat), (9 : Nat), (12 : Nat), (13 : Nat))]) ∈ lw_tbl := tk_6 (List.mem_of_getElem? (i := 60) rfl)
theorem tw_1259 : (Jvm.Cond.static ({ cls := "MarshBellsLaw", name := "bell", desc := "(LMarshBells;I[J)I" } : Jvm.MethodName)) ∈ lw_tbl := tk_6 (List.mem_of_getElem? (i := 59) rfl)
theorem li_L_193 : kLH RL 193 yL_bell cL_bell 4 (some .int) [(0, 9, 12, 13)] 3 := ⟨tw_1258, tw_1259, tw_1260, tw_0, by decide +kernel⟩
theorem dL_law_1500 : decode cL_law 1500 = .ok (.invokestatic 193, 3) := by decide +kernel
theorem dL_law_1503 : decode cL_law 1503 = .ok (.istore 5, 2) := by decide +kernel
theorem dL_law_1505 : decode cL_law 1505 = .ok (.aload_n 2, 1) := by decide +kernel
theorem dL_law_1506 : decode cL_law 1506 = .ok (.aload_n 0, 1) := by decide +kernel
theorem dL_law_1507 : decode cL_law 1507 = .ok (.iload 4, 2) := by decide +kernel
theorem dL_law_1509 : decode cL_law 1509 = .ok (.iconst 1, 1) := by decide +kernel
theorem dL_law_1510 : decode cL_law 1510 = .ok (.iadd, 1) := by decide +kernel
theorem dL_law_1511 : decode cL_law 1511 = .ok (.iaload, 1) := by decide +kernel
theorem tw_2010 : (Jvm.Cond.methodLink "MarshBellsLaw" (195 : Nat) ({ cls := "MarshBellsModel", name := "bell", desc := "(I)I" } : Jvm.MethodName)) ∈ lw_tbl := tk_9 (List.mem_of_getElem? (i := 90) rfl)
theorem tw_2013 : (Jvm.Cond.code ({ cls := "MarshBellsModel", name := "bell", desc := "(I)I" } : Jvm.MethodName) prog_14_method_85_code (4 : Nat) (Option.some Jvm.ClassFile.FieldType.int)) ∈ lw_tbl := tk_9 (List.mem_of_getElem? (i := 93) rfl)
theorem tw_2011 : (Jvm.Cond.instanceMethod ({ cls := "MarshBellsModel", name := "bell", desc := "(I)I" } : Jvm.MethodName)) ∈ lw_tbl := tk_9 (List.mem_of_getElem? (i := 91) rfl)
theorem tw_2012 : (Jvm.Cond.selects "MarshBellsModel" ({ cls := "MarshBellsModel", name := "bell", desc := "(I)I" } : Jvm.MethodName) ({ cls := "MarshBellsModel", name := "bell", desc := "(I)I" } : Jvm.MethodName)) ∈ lw_tbl := tk_9 (List.mem_of_getElem? (i := 92) rfl)
theorem li_L_195 : kLV RL 195 RX12 yX12_bell cX12_bell 4 (some .int) 1 := ⟨tw_2010, tw_2011, tw_2012, tw_2013, tw_13, by decide +kernel⟩
theorem dL_law_1512 : decode cL_law 1512 = .ok (.invokevirtual 195, 3) := by decide +kernel
theorem dL_law_1515 : decode cL_law 1515 = .ok (.istore 6, 2) := by decide +kernel
theorem dL_law_1517 : decode cL_law 1517 = .ok (.aload_n 2, 1) := by decide +kernel
theorem dL_law_1518 : decode cL_law 1518 = .ok (.invokevirtual 118, 3) := by decide +kernel
theorem dL_law_1521 : decode cL_law 1521 = .ok (.iload 5, 2) := by decide +kernel
theorem dL_law_1523 : decode cL_law 1523 = .ok (.if_icmp .eq 5, 3) := by decide +kernel
theorem dL_law_1528 : decode cL_law 1528 = .ok (.iload 5, 2) := by decide +kernel
theorem dL_law_1530 : decode cL_law 1530 = .ok (.ifCond .ne 15, 3) := by decide +kernel
theorem dL_law_1545 : decode cL_law 1545 = .ok (.goto 720, 3) := by decide +kernel
theorem dL_law_1526 : decode cL_law 1526 = .ok (.iconst 0, 1) := by decide +kernel
theorem dL_law_1533 : decode cL_law 1533 = .ok (.aload_n 3, 1) := by decide +kernel
theorem dL_law_1534 : decode cL_law 1534 = .ok (.iconst 0, 1) := by decide +kernel
theorem dL_law_1535 : decode cL_law 1535 = .ok (.laload, 1) := by decide +kernel
theorem dL_law_1536 : decode cL_law 1536 = .ok (.iload 6, 2) := by decide +kernel
theorem dL_law_1538 : decode cL_law 1538 = .ok (.i2l, 1) := by decide +kernel
theorem dL_law_1539 : decode cL_law 1539 = .ok (.lcmp, 1) := by decide +kernel
theorem dL_law_1540 : decode cL_law 1540 = .ok (.ifCond .eq 5, 3) := by decide +kernel
set_option maxHeartbeats 4000000 in
set_option maxRecDepth 100000 in
theorem law_16 {p : Program} {e : Env} {s : State} {m : MethodId} {below : List Frame} {meth : Method} {c : Code} {l : Launch} (hst : l.stackTraces = false) {b : Nat} {xs : Nat → Int32} {G : kG} {A : Nat → Prop} (C0 : lw_At p s m meth c b 6 xs) (hA : A = fun q : Nat => s.heap.size ≤ q) (C : kC G p s m c cL_law 8 RL A) {v1 : Int32} (hv1 : xs 1 = v1) {v2 : Int32} (hv2 : xs 2 = v2) {v3 : Int32} (hv3 : xs 3 = v3) {v4 : Int32} (hv4 : xs 4 = v4) {v5 : Int32} (hv5 : xs 5 = v5) {x0 : Nat} {Fx0 : Nat → Value} {x3 : Nat} {Fx3 : Nat → Value} {m0 : Nat} {Fm0 : Nat → Value} {aout : Nat} (e_x0_3 : Fx0 3 = .ref x3) (e_x3_2 : Fx3 2 = .int 0) (e_m0_1 : Fm0 1 = .int 0) {H : Heap} {locs : List Loc} {ls : Array Slot} (hP : va_P G.1 vwCl [(x0, .inr (11, ofL 17 Fx0)), (x3, .inr (7, ofL 5 Fx3)), (m0, .inr (12, ofL 88 Fm0)), (aout, .inl (G.2.2.2.2, 1, .inr (.inl (fun _ => 0))))] H) (hD : va_D A [(x0, .inr (11, ofL 17 Fx0)), (x3, .inr (7, ofL 5 Fx3)), (m0, .inr (12, ofL 88 Fm0)), (aout, .inl (G.2.2.2.2, 1, .inr (.inl (fun _ => 0))))]) (hS : va_S A s.heap H locs) (hl : lv_has ls 8 [(0, .ref b), (1, .ref x0), (2, .ref m0), (3, .ref aout), (4, .int 0)]) :
    W p l e room_1 s m #[Value.ref b] below meth c H locs 1000 20000 (lw_Z below #[Value.ref b] s) (F0 m 1151 ls []) := by
  obtain ⟨hx, hb, hr, -, -, -, hX, hbl, hlocks, -⟩ := id C0
  have hbA : ¬ A b := by rw [hA]; exact Nat.not_le.mpr hbl
  refine lv_aload_n hx hb dL_law_1151 rfl (lv_at hl 1 rfl) ?_
  refine lv_aload_n hx hb dL_law_1152 rfl (lv_at hl 0 rfl) ?_
  refine lv_iload hx hb dL_law_1153 (lv_at hl 4 rfl) ?_
  refine lv_iconst (v := 1) hx hb dL_law_1155 (by decide) ?_
  refine lv_iadd hx hb dL_law_1156 ?_
  refine k_eqi (y := 1) (by decide) ?_
  refine va_sld hx hb hX hbl hbA hS (k_in (by decide)) dL_law_1157 ?_
  refine k_eqi (y := v1) hv1 ?_
  refine lv_aload_n hx hb dL_law_1158 rfl (lv_at hl 0 rfl) ?_
  refine lv_iload hx hb dL_law_1159 (lv_at hl 4 rfl) ?_
  refine lv_iconst (v := 2) hx hb dL_law_1161 (by decide) ?_
  refine lv_iadd hx hb dL_law_1162 ?_
  refine k_eqi (y := 2) (by decide) ?_
  refine va_sld hx hb hX hbl hbA hS (k_in (by decide)) dL_law_1163 ?_
  refine k_eqi (y := v2) hv2 ?_
  refine lv_aload_n hx hb dL_law_1164 rfl (lv_at hl 3 rfl) ?_
  refine k_callHi (wr := [(m0, .inr (12, ofL 88 Fm0))]) (rest := []) li_L_170 C (c_L_mean l hst G H.size x0 v1 v2 aout Fx0 x3 Fx3 (fun _ => 0) e_x0_3 e_x3_2) (kR rfl) hP hD hS [0, 1, 3] [2] rfl rfl rfl rfl (by decide) rfl hl.1 rfl (Nat.le_of_ble_eq_true rfl) dL_law_1165 (fun rr2 uu3 H locs hw1 hP hD hS => ?_)
  rcases hw1 with ⟨rfl, rfl, c_4⟩ | ⟨rfl, rfl, c_5⟩
  ·
    have hP : va_P G.1 vwCl [(m0, .inr (12, ofL 88 Fm0)), (aout, .inl (G.2.2.2.2, 1, .inr (.inl ((fun _ => 0))))), (x0, .inr (11, ofL 17 Fx0)), (x3, .inr (7, ofL 5 Fx3))] H := hP
    have hD : va_D A [(m0, .inr (12, ofL 88 Fm0)), (aout, .inl (G.2.2.2.2, 1, .inr (.inl ((fun _ => 0))))), (x0, .inr (11, ofL 17 Fx0)), (x3, .inr (7, ofL 5 Fx3))] := hD
    refine lv_istore (lv' := [(5, .int 1), (0, .ref b), (1, .ref x0), (2, .ref m0), (3, .ref aout), (4, .int 0)]) hx hb dL_law_1168 hl (by decide) rfl (fun ls hl => ?_)
    refine lv_aload_n hx hb dL_law_1170 rfl (lv_at hl 3 rfl) ?_
    refine lv_aload_n hx hb dL_law_1171 rfl (lv_at hl 1 rfl) ?_
    refine lv_iload hx hb dL_law_1172 (lv_at hl 5 rfl) ?_
    refine lv_iconst (v := 1) hx hb dL_law_1174 (by decide) ?_
    refine lv_iadd hx hb dL_law_1175 ?_
    refine k_eqi (y := 1) (by decide) ?_
    refine va_sld hx hb hX hbl hbA hS (k_in (by decide)) dL_law_1176 ?_
    refine k_eqi (y := v1) hv1 ?_
    refine lv_aload_n hx hb dL_law_1177 rfl (lv_at hl 1 rfl) ?_
    refine lv_iload hx hb dL_law_1178 (lv_at hl 5 rfl) ?_
    refine lv_iconst (v := 2) hx hb dL_law_1180 (by decide) ?_
    refine lv_iadd hx hb dL_law_1181 ?_
    refine k_eqi (y := 2) (by decide) ?_
    refine va_sld hx hb hX hbl hbA hS (k_in (by decide)) dL_law_1182 ?_
    refine k_eqi (y := v2) hv2 ?_
    refine k_callVl (wr := [(aout, .inl (G.2.2.2.2, 1, .inr (.inl ((fun _ => 0))))), (x0, .inr (11, ofL 17 Fx0)), (x3, .inr (7, ofL 5 Fx3))]) (rest := []) li_L_172 C (c_X12_mean l G H.size m0 v1 v2 Fm0 e_m0_1) (kR rfl) hP hD hS [0] [1, 2, 3] rfl rfl rfl rfl (by decide) 0 12 rfl rfl rfl hl.1 rfl (Nat.le_of_ble_eq_true rfl) dL_law_1183 (fun rr7 uu8 H locs hw6 hP hD hS => ?_)
    rcases hw6 with ⟨rfl, rfl, c_9⟩ | ⟨rfl, rfl, c_10⟩
    ·
      have hP : va_P G.1 vwCl [(aout, .inl (G.2.2.2.2, 1, .inr (.inl ((fun _ => 0))))), (x0, .inr (11, ofL 17 Fx0)), (x3, .inr (7, ofL 5 Fx3)), (m0, .inr (12, ofL 88 (updV (updV Fm0 0 (.int 0)) 0 (.int 1))))] H := hP
      have hD : va_D A [(aout, .inl (G.2.2.2.2, 1, .inr (.inl ((fun _ => 0))))), (x0, .inr (11, ofL 17 Fx0)), (x3, .inr (7, ofL 5 Fx3)), (m0, .inr (12, ofL 88 (updV (updV Fm0 0 (.int 0)) 0 (.int 1))))] := hD
      refine lv_lstore (lv' := [(6, .long 0), (5, .int 1), (0, .ref b), (1, .ref x0), (2, .ref m0), (3, .ref aout), (4, .int 0)]) hx hb dL_law_1186 hl (by decide) rfl (fun ls hl => ?_)
      refine lv_aload_n hx hb dL_law_1188 rfl (lv_at hl 4 rfl) ?_
      refine k_callVi (wr := [(aout, .inl (G.2.2.2.2, 1, .inr (.inl ((fun _ => 0))))), (x0, .inr (11, ofL 17 Fx0)), (x3, .inr (7, ofL 5 Fx3))]) (rest := []) li_L_118 C (c_X12_thrown l G H.size m0 (updV (updV Fm0 0 (.int 0)) 0 (.int 1)) 1 rfl) (kR rfl) hP hD hS [3] [0, 1, 2] rfl rfl rfl rfl (by decide) 0 12 rfl rfl rfl hl.1 rfl (Nat.le_of_ble_eq_true rfl) dL_law_1189 (fun rr12 uu13 H locs hw11 hP hD hS => ?_)
      obtain rfl : rr12 = 1 := hw11
      have hP : va_P G.1 vwCl [(aout, .inl (G.2.2.2.2, 1, .inr (.inl ((fun _ => 0))))), (x0, .inr (11, ofL 17 Fx0)), (x3, .inr (7, ofL 5 Fx3)), (m0, .inr (12, ofL 88 (updV (updV Fm0 0 (.int 0)) 0 (.int 1))))] H := hP
      have hD : va_D A [(aout, .inl (G.2.2.2.2, 1, .inr (.inl ((fun _ => 0))))), (x0, .inr (11, ofL 17 Fx0)), (x3, .inr (7, ofL 5 Fx3)), (m0, .inr (12, ofL 88 (updV (updV Fm0 0 (.int 0)) 0 (.int 1))))] := hD
      refine lv_iload hx hb dL_law_1192 (lv_at hl 1 rfl) ?_
      refine lv_icmp_eq (x := 1) (y := 1) (tgt := 1199) hx hb dL_law_1194 (by decide) (fun c_14 => ?_) (fun c_14 => ?_)
      rotate_left
      · exact absurd (by decide) c_14
      refine lv_iload hx hb dL_law_1199 (lv_at hl 1 rfl) ?_
      refine lv_if_ne (x := 1) (tgt := 1215) hx hb dL_law_1201 (by decide) (fun c_15 => ?_) (fun c_15 => ?_)
      rotate_left
      · exact absurd c_15 (by decide)
      refine lv_goto (tgt := 2265) hx hb dL_law_1215 (by decide) ?_
      exact law_end hst C0 hA C hS (lv_sub hl [2, 6] rfl) (Nat.le_of_ble_eq_true rfl) (Nat.le_of_ble_eq_true rfl)
    ·
      have hP : va_P G.1 vwCl [(aout, .inl (G.2.2.2.2, 1, .inr (.inl ((fun _ => 0))))), (x0, .inr (11, ofL 17 Fx0)), (x3, .inr (7, ofL 5 Fx3)), (m0, .inr (12, ofL 88 (updV (updV Fm0 0 (.int 0)) 0 (.int 1))))] H := hP
      have hD : va_D A [(aout, .inl (G.2.2.2.2, 1, .inr (.inl ((fun _ => 0))))), (x0, .inr (11, ofL 17 Fx0)), (x3, .inr (7, ofL 5 Fx3)), (m0, .inr (12, ofL 88 (updV (updV Fm0 0 (.int 0)) 0 (.int 1))))] := hD
      refine lv_lstore (lv' := [(6, .long 0), (5, .int 1), (0, .ref b), (1, .ref x0), (2, .ref m0), (3, .ref aout), (4, .int 0)]) hx hb dL_law_1186 hl (by decide) rfl (fun ls hl => ?_)
      refine lv_aload_n hx hb dL_law_1188 rfl (lv_at hl 4 rfl) ?_
      refine k_callVi (wr := [(aout, .inl (G.2.2.2.2, 1, .inr (.inl ((fun _ => 0))))), (x0, .inr (11, ofL 17 Fx0)), (x3, .inr (7, ofL 5 Fx3))]) (rest := []) li_L_118 C (c_X12_thrown l G H.size m0 (updV (updV Fm0 0 (.int 0)) 0 (.int 1)) 1 rfl) (kR rfl) hP hD hS [3] [0, 1, 2] rfl rfl rfl rfl (by decide) 0 12 rfl rfl rfl hl.1 rfl (Nat.le_of_ble_eq_true rfl) dL_law_1189 (fun rr17 uu18 H locs hw16 hP hD hS => ?_)
      obtain rfl : rr17 = 1 := hw16
      have hP : va_P G.1 vwCl [(aout, .inl (G.2.2.2.2, 1, .inr (.inl ((fun _ => 0))))), (x0, .inr (11, ofL 17 Fx0)), (x3, .inr (7, ofL 5 Fx3)), (m0, .inr (12, ofL 88 (updV (updV Fm0 0 (.int 0)) 0 (.int 1))))] H := hP
      have hD : va_D A [(aout, .inl (G.2.2.2.2, 1, .inr (.inl ((fun _ => 0))))), (x0, .inr (11, ofL 17 Fx0)), (x3, .inr (7, ofL 5 Fx3)), (m0, .inr (12, ofL 88 (updV (updV Fm0 0 (.int 0)) 0 (.int 1))))] := hD
      refine lv_iload hx hb dL_law_1192 (lv_at hl 1 rfl) ?_
      refine lv_icmp_eq (x := 1) (y := 1) (tgt := 1199) hx hb dL_law_1194 (by decide) (fun c_19 => ?_) (fun c_19 => ?_)
      rotate_left
      · exact absurd (by decide) c_19
      refine lv_iload hx hb dL_law_1199 (lv_at hl 1 rfl) ?_
      refine lv_if_ne (x := 1) (tgt := 1215) hx hb dL_law_1201 (by decide) (fun c_20 => ?_) (fun c_20 => ?_)
      rotate_left
      · exact absurd c_20 (by decide)
      refine lv_goto (tgt := 2265) hx hb dL_law_1215 (by decide) ?_
      exact law_end hst C0 hA C hS (lv_sub hl [2, 6] rfl) (Nat.le_of_ble_eq_true rfl) (Nat.le_of_ble_eq_true rfl)
  ·
    have hP : va_P G.1 vwCl [(m0, .inr (12, ofL 88 Fm0)), (aout, .inl (G.2.2.2.2, 1, .inr (.inl ((fun _ => 0))))), (x0, .inr (11, ofL 17 Fx0)), (x3, .inr (7, ofL 5 Fx3))] H := hP
    have hD : va_D A [(m0, .inr (12, ofL 88 Fm0)), (aout, .inl (G.2.2.2.2, 1, .inr (.inl ((fun _ => 0))))), (x0, .inr (11, ofL 17 Fx0)), (x3, .inr (7, ofL 5 Fx3))] := hD
    refine lv_istore (lv' := [(5, .int 1), (0, .ref b), (1, .ref x0), (2, .ref m0), (3, .ref aout), (4, .int 0)]) hx hb dL_law_1168 hl (by decide) rfl (fun ls hl => ?_)
    refine lv_aload_n hx hb dL_law_1170 rfl (lv_at hl 3 rfl) ?_
    refine lv_aload_n hx hb dL_law_1171 rfl (lv_at hl 1 rfl) ?_
    refine lv_iload hx hb dL_law_1172 (lv_at hl 5 rfl) ?_
    refine lv_iconst (v := 1) hx hb dL_law_1174 (by decide) ?_
    refine lv_iadd hx hb dL_law_1175 ?_
    refine k_eqi (y := 1) (by decide) ?_
    refine va_sld hx hb hX hbl hbA hS (k_in (by decide)) dL_law_1176 ?_
    refine k_eqi (y := v1) hv1 ?_
    refine lv_aload_n hx hb dL_law_1177 rfl (lv_at hl 1 rfl) ?_
    refine lv_iload hx hb dL_law_1178 (lv_at hl 5 rfl) ?_
    refine lv_iconst (v := 2) hx hb dL_law_1180 (by decide) ?_
    refine lv_iadd hx hb dL_law_1181 ?_
    refine k_eqi (y := 2) (by decide) ?_
    refine va_sld hx hb hX hbl hbA hS (k_in (by decide)) dL_law_1182 ?_
    refine k_eqi (y := v2) hv2 ?_
    refine k_callVl (wr := [(aout, .inl (G.2.2.2.2, 1, .inr (.inl ((fun _ => 0))))), (x0, .inr (11, ofL 17 Fx0)), (x3, .inr (7, ofL 5 Fx3))]) (rest := []) li_L_172 C (c_X12_mean l G H.size m0 v1 v2 Fm0 e_m0_1) (kR rfl) hP hD hS [0] [1, 2, 3] rfl rfl rfl rfl (by decide) 0 12 rfl rfl rfl hl.1 rfl (Nat.le_of_ble_eq_true rfl) dL_law_1183 (fun rr22 uu23 H locs hw21 hP hD hS => ?_)
    rcases hw21 with ⟨rfl, rfl, c_24⟩ | ⟨rfl, rfl, c_25⟩
    ·
      have hP : va_P G.1 vwCl [(aout, .inl (G.2.2.2.2, 1, .inr (.inl ((fun _ => 0))))), (x0, .inr (11, ofL 17 Fx0)), (x3, .inr (7, ofL 5 Fx3)), (m0, .inr (12, ofL 88 (updV (updV Fm0 0 (.int 0)) 0 (.int 1))))] H := hP
      have hD : va_D A [(aout, .inl (G.2.2.2.2, 1, .inr (.inl ((fun _ => 0))))), (x0, .inr (11, ofL 17 Fx0)), (x3, .inr (7, ofL 5 Fx3)), (m0, .inr (12, ofL 88 (updV (updV Fm0 0 (.int 0)) 0 (.int 1))))] := hD
      refine lv_lstore (lv' := [(6, .long 0), (5, .int 1), (0, .ref b), (1, .ref x0), (2, .ref m0), (3, .ref aout), (4, .int 0)]) hx hb dL_law_1186 hl (by decide) rfl (fun ls hl => ?_)
      refine lv_aload_n hx hb dL_law_1188 rfl (lv_at hl 4 rfl) ?_
      refine k_callVi (wr := [(aout, .inl (G.2.2.2.2, 1, .inr (.inl ((fun _ => 0))))), (x0, .inr (11, ofL 17 Fx0)), (x3, .inr (7, ofL 5 Fx3))]) (rest := []) li_L_118 C (c_X12_thrown l G H.size m0 (updV (updV Fm0 0 (.int 0)) 0 (.int 1)) 1 rfl) (kR rfl) hP hD hS [3] [0, 1, 2] rfl rfl rfl rfl (by decide) 0 12 rfl rfl rfl hl.1 rfl (Nat.le_of_ble_eq_true rfl) dL_law_1189 (fun rr27 uu28 H locs hw26 hP hD hS => ?_)
      obtain rfl : rr27 = 1 := hw26
      have hP : va_P G.1 vwCl [(aout, .inl (G.2.2.2.2, 1, .inr (.inl ((fun _ => 0))))), (x0, .inr (11, ofL 17 Fx0)), (x3, .inr (7, ofL 5 Fx3)), (m0, .inr (12, ofL 88 (updV (updV Fm0 0 (.int 0)) 0 (.int 1))))] H := hP
      have hD : va_D A [(aout, .inl (G.2.2.2.2, 1, .inr (.inl ((fun _ => 0))))), (x0, .inr (11, ofL 17 Fx0)), (x3, .inr (7, ofL 5 Fx3)), (m0, .inr (12, ofL 88 (updV (updV Fm0 0 (.int 0)) 0 (.int 1))))] := hD
      refine lv_iload hx hb dL_law_1192 (lv_at hl 1 rfl) ?_
      refine lv_icmp_eq (x := 1) (y := 1) (tgt := 1199) hx hb dL_law_1194 (by decide) (fun c_29 => ?_) (fun c_29 => ?_)
      rotate_left
      · exact absurd (by decide) c_29
      refine lv_iload hx hb dL_law_1199 (lv_at hl 1 rfl) ?_
      refine lv_if_ne (x := 1) (tgt := 1215) hx hb dL_law_1201 (by decide) (fun c_30 => ?_) (fun c_30 => ?_)
      rotate_left
      · exact absurd c_30 (by decide)
      refine lv_goto (tgt := 2265) hx hb dL_law_1215 (by decide) ?_
      exact law_end hst C0 hA C hS (lv_sub hl [2, 6] rfl) (Nat.le_of_ble_eq_true rfl) (Nat.le_of_ble_eq_true rfl)
    ·
      have hP : va_P G.1 vwCl [(aout, .inl (G.2.2.2.2, 1, .inr (.inl ((fun _ => 0))))), (x0, .inr (11, ofL 17 Fx0)), (x3, .inr (7, ofL 5 Fx3)), (m0, .inr (12, ofL 88 (updV (updV Fm0 0 (.int 0)) 0 (.int 1))))] H := hP
      have hD : va_D A [(aout, .inl (G.2.2.2.2, 1, .inr (.inl ((fun _ => 0))))), (x0, .inr (11, ofL 17 Fx0)), (x3, .inr (7, ofL 5 Fx3)), (m0, .inr (12, ofL 88 (updV (updV Fm0 0 (.int 0)) 0 (.int 1))))] := hD
      refine lv_lstore (lv' := [(6, .long 0), (5, .int 1), (0, .ref b), (1, .ref x0), (2, .ref m0), (3, .ref aout), (4, .int 0)]) hx hb dL_law_1186 hl (by decide) rfl (fun ls hl => ?_)
      refine lv_aload_n hx hb dL_law_1188 rfl (lv_at hl 4 rfl) ?_
      refine k_callVi (wr := [(aout, .inl (G.2.2.2.2, 1, .inr (.inl ((fun _ => 0))))), (x0, .inr (11, ofL 17 Fx0)), (x3, .inr (7, ofL 5 Fx3))]) (rest := []) li_L_118 C (c_X12_thrown l G H.size m0 (updV (updV Fm0 0 (.int 0)) 0 (.int 1)) 1 rfl) (kR rfl) hP hD hS [3] [0, 1, 2] rfl rfl rfl rfl (by decide) 0 12 rfl rfl rfl hl.1 rfl (Nat.le_of_ble_eq_true rfl) dL_law_1189 (fun rr32 uu33 H locs hw31 hP hD hS => ?_)
      obtain rfl : rr32 = 1 := hw31
      have hP : va_P G.1 vwCl [(aout, .inl (G.2.2.2.2, 1, .inr (.inl ((fun _ => 0))))), (x0, .inr (11, ofL 17 Fx0)), (x3, .inr (7, ofL 5 Fx3)), (m0, .inr (12, ofL 88 (updV (updV Fm0 0 (.int 0)) 0 (.int 1))))] H := hP
      have hD : va_D A [(aout, .inl (G.2.2.2.2, 1, .inr (.inl ((fun _ => 0))))), (x0, .inr (11, ofL 17 Fx0)), (x3, .inr (7, ofL 5 Fx3)), (m0, .inr (12, ofL 88 (updV (updV Fm0 0 (.int 0)) 0 (.int 1))))] := hD
      refine lv_iload hx hb dL_law_1192 (lv_at hl 1 rfl) ?_
      refine lv_icmp_eq (x := 1) (y := 1) (tgt := 1199) hx hb dL_law_1194 (by decide) (fun c_34 => ?_) (fun c_34 => ?_)
      rotate_left
      · exact absurd (by decide) c_34
      refine lv_iload hx hb dL_law_1199 (lv_at hl 1 rfl) ?_
      refine lv_if_ne (x := 1) (tgt := 1215) hx hb dL_law_1201 (by decide) (fun c_35 => ?_) (fun c_35 => ?_)
      rotate_left
      · exact absurd c_35 (by decide)
      refine lv_goto (tgt := 2265) hx hb dL_law_1215 (by decide) ?_
      exact law_end hst C0 hA C hS (lv_sub hl [2, 6] rfl) (Nat.le_of_ble_eq_true rfl) (Nat.le_of_ble_eq_true rfl)
set_option maxHeartbeats 4000000 in
set_option maxRecDepth 100000 in
theorem law_17 {p : Program} {e : Env} {s : State} {m : MethodId} {below : List Frame} {meth : Method} {c : Code} {l : Launch} (hst : l.stackTraces = false) {b : Nat} {xs : Nat → Int32} {G : kG} {A : Nat → Prop} (C0 : lw_At p s m meth c b 6 xs) (hA : A = fun q : Nat => s.heap.size ≤ q) (C : kC G p s m c cL_law 8 RL A) {v1 : Int32} (hv1 : xs 1 = v1) {v2 : Int32} (hv2 : xs 2 = v2) {v3 : Int32} (hv3 : xs 3 = v3) {v4 : Int32} (hv4 : xs 4 = v4) {v5 : Int32} (hv5 : xs 5 = v5) {x0 : Nat} {Fx0 : Nat → Value} {x28 : Nat} {x3 : Nat} {Fx3 : Nat → Value} {Fx28 : Nat → Value} {x31 : Nat} {x29 : Nat} {Fx29 : Nat → Value} {Fx31 : Nat → Value} {m0 : Nat} {Fm0 : Nat → Value} {aout : Nat} (e_x0_9 : Fx0 9 = .ref x28) (e_x3_2 : Fx3 2 = .int 0) (e_x28_0 : Fx28 0 = .ref x31) (e_x28_2 : Fx28 2 = .ref x29) (e_x31_7 : Fx31 7 = .ref x3) (e_m0_1 : Fm0 1 = .int 0) {H : Heap} {locs : List Loc} {ls : Array Slot} (hP : va_P G.1 vwCl [(x0, .inr (11, ofL 17 Fx0)), (x3, .inr (7, ofL 5 Fx3)), (x28, .inr (10, ofL 7 Fx28)), (x29, .inr (4, ofL 3 Fx29)), (x31, .inr (1, ofL 10 Fx31)), (m0, .inr (12, ofL 88 Fm0)), (aout, .inl (G.2.2.2.2, 1, .inr (.inl (fun _ => 0))))] H) (hD : va_D A [(x0, .inr (11, ofL 17 Fx0)), (x3, .inr (7, ofL 5 Fx3)), (x28, .inr (10, ofL 7 Fx28)), (x29, .inr (4, ofL 3 Fx29)), (x31, .inr (1, ofL 10 Fx31)), (m0, .inr (12, ofL 88 Fm0)), (aout, .inl (G.2.2.2.2, 1, .inr (.inl (fun _ => 0))))]) (hS : va_S A s.heap H locs) (hl : lv_has ls 8 [(0, .ref b), (1, .ref x0), (2, .ref m0), (3, .ref aout), (4, .int 0)]) :
    W p l e room_1 s m #[Value.ref b] below meth c H locs 1000 20000 (lw_Z below #[Value.ref b] s) (F0 m 1218 ls []) := by
  obtain ⟨hx, hb, hr, -, -, -, hX, hbl, hlocks, -⟩ := id C0
  have hbA : ¬ A b := by rw [hA]; exact Nat.not_le.mpr hbl
  refine lv_aload_n hx hb dL_law_1218 rfl (lv_at hl 1 rfl) ?_
  refine lv_aload_n hx hb dL_law_1219 rfl (lv_at hl 0 rfl) ?_
  refine lv_iload hx hb dL_law_1220 (lv_at hl 4 rfl) ?_
  refine lv_iconst (v := 1) hx hb dL_law_1222 (by decide) ?_
  refine lv_iadd hx hb dL_law_1223 ?_
  refine k_eqi (y := 1) (by decide) ?_
  refine va_sld hx hb hX hbl hbA hS (k_in (by decide)) dL_law_1224 ?_
  refine k_eqi (y := v1) hv1 ?_
  refine lv_aload_n hx hb dL_law_1225 rfl (lv_at hl 3 rfl) ?_
  refine k_callHi (wr := [(m0, .inr (12, ofL 88 Fm0))]) (rest := []) li_L_173 C (c_L_swap l hst G H.size x0 v1 aout Fx0 x28 Fx28 x31 x29 Fx31 x3 Fx3 Fx29 (fun _ => 0) e_x0_9 e_x28_0 e_x28_2 e_x31_7 e_x3_2) (kR rfl) hP hD hS [0, 2, 4, 1, 3, 6] [5] rfl rfl rfl rfl (by decide) rfl hl.1 rfl (Nat.le_of_ble_eq_true rfl) dL_law_1226 (fun rr2 uu3 H locs hw1 hP hD hS => ?_)
  rcases hw1 with ⟨rfl, rfl, c_4⟩ | ⟨rfl, rfl, c_5, c_6⟩ | ⟨rfl, rfl, c_7, c_8⟩
  ·
    have hP : va_P G.1 vwCl [(m0, .inr (12, ofL 88 Fm0)), (aout, .inl (G.2.2.2.2, 1, .inr (.inl ((fun _ => 0))))), (x0, .inr (11, ofL 17 Fx0)), (x28, .inr (10, ofL 7 Fx28)), (x31, .inr (1, ofL 10 Fx31)), (x3, .inr (7, ofL 5 Fx3)), (x29, .inr (4, ofL 3 Fx29))] H := hP
    have hD : va_D A [(m0, .inr (12, ofL 88 Fm0)), (aout, .inl (G.2.2.2.2, 1, .inr (.inl ((fun _ => 0))))), (x0, .inr (11, ofL 17 Fx0)), (x28, .inr (10, ofL 7 Fx28)), (x31, .inr (1, ofL 10 Fx31)), (x3, .inr (7, ofL 5 Fx3)), (x29, .inr (4, ofL 3 Fx29))] := hD
    refine lv_istore (lv' := [(5, .int 1), (0, .ref b), (1, .ref x0), (2, .ref m0), (3, .ref aout), (4, .int 0)]) hx hb dL_law_1229 hl (by decide) rfl (fun ls hl => ?_)
    refine lv_aload_n hx hb dL_law_1231 rfl (lv_at hl 3 rfl) ?_
    refine lv_aload_n hx hb dL_law_1232 rfl (lv_at hl 1 rfl) ?_
    refine lv_iload hx hb dL_law_1233 (lv_at hl 5 rfl) ?_
    refine lv_iconst (v := 1) hx hb dL_law_1235 (by decide) ?_
    refine lv_iadd hx hb dL_law_1236 ?_
    refine k_eqi (y := 1) (by decide) ?_
    refine va_sld hx hb hX hbl hbA hS (k_in (by decide)) dL_law_1237 ?_
    refine k_eqi (y := v1) hv1 ?_
    refine k_callVi (wr := [(aout, .inl (G.2.2.2.2, 1, .inr (.inl ((fun _ => 0))))), (x0, .inr (11, ofL 17 Fx0)), (x28, .inr (10, ofL 7 Fx28)), (x31, .inr (1, ofL 10 Fx31)), (x3, .inr (7, ofL 5 Fx3)), (x29, .inr (4, ofL 3 Fx29))]) (rest := []) li_L_175 C (c_X12_swap l G H.size m0 v1 Fm0 e_m0_1) (kR rfl) hP hD hS [0] [1, 2, 3, 4, 5, 6] rfl rfl rfl rfl (by decide) 0 12 rfl rfl rfl hl.1 rfl (Nat.le_of_ble_eq_true rfl) dL_law_1238 (fun rr10 uu11 H locs hw9 hP hD hS => ?_)
    rcases hw9 with ⟨rfl, rfl, c_12⟩ | ⟨rfl, rfl, c_13, c_14⟩ | ⟨rfl, rfl, c_15, c_16⟩
    ·
      have hP : va_P G.1 vwCl [(aout, .inl (G.2.2.2.2, 1, .inr (.inl ((fun _ => 0))))), (x0, .inr (11, ofL 17 Fx0)), (x28, .inr (10, ofL 7 Fx28)), (x31, .inr (1, ofL 10 Fx31)), (x3, .inr (7, ofL 5 Fx3)), (x29, .inr (4, ofL 3 Fx29)), (m0, .inr (12, ofL 88 (updV (updV Fm0 0 (.int 0)) 0 (.int 1))))] H := hP
      have hD : va_D A [(aout, .inl (G.2.2.2.2, 1, .inr (.inl ((fun _ => 0))))), (x0, .inr (11, ofL 17 Fx0)), (x28, .inr (10, ofL 7 Fx28)), (x31, .inr (1, ofL 10 Fx31)), (x3, .inr (7, ofL 5 Fx3)), (x29, .inr (4, ofL 3 Fx29)), (m0, .inr (12, ofL 88 (updV (updV Fm0 0 (.int 0)) 0 (.int 1))))] := hD
      refine lv_istore (lv' := [(6, .int 0), (5, .int 1), (0, .ref b), (1, .ref x0), (2, .ref m0), (3, .ref aout), (4, .int 0)]) hx hb dL_law_1241 hl (by decide) rfl (fun ls hl => ?_)
      refine lv_aload_n hx hb dL_law_1243 rfl (lv_at hl 4 rfl) ?_
      refine k_callVi (wr := [(aout, .inl (G.2.2.2.2, 1, .inr (.inl ((fun _ => 0))))), (x0, .inr (11, ofL 17 Fx0)), (x28, .inr (10, ofL 7 Fx28)), (x31, .inr (1, ofL 10 Fx31)), (x3, .inr (7, ofL 5 Fx3)), (x29, .inr (4, ofL 3 Fx29))]) (rest := []) li_L_118 C (c_X12_thrown l G H.size m0 (updV (updV Fm0 0 (.int 0)) 0 (.int 1)) 1 rfl) (kR rfl) hP hD hS [6] [0, 1, 2, 3, 4, 5] rfl rfl rfl rfl (by decide) 0 12 rfl rfl rfl hl.1 rfl (Nat.le_of_ble_eq_true rfl) dL_law_1244 (fun rr18 uu19 H locs hw17 hP hD hS => ?_)
      obtain rfl : rr18 = 1 := hw17
      have hP : va_P G.1 vwCl [(aout, .inl (G.2.2.2.2, 1, .inr (.inl ((fun _ => 0))))), (x0, .inr (11, ofL 17 Fx0)), (x28, .inr (10, ofL 7 Fx28)), (x31, .inr (1, ofL 10 Fx31)), (x3, .inr (7, ofL 5 Fx3)), (x29, .inr (4, ofL 3 Fx29)), (m0, .inr (12, ofL 88 (updV (updV Fm0 0 (.int 0)) 0 (.int 1))))] H := hP
      have hD : va_D A [(aout, .inl (G.2.2.2.2, 1, .inr (.inl ((fun _ => 0))))), (x0, .inr (11, ofL 17 Fx0)), (x28, .inr (10, ofL 7 Fx28)), (x31, .inr (1, ofL 10 Fx31)), (x3, .inr (7, ofL 5 Fx3)), (x29, .inr (4, ofL 3 Fx29)), (m0, .inr (12, ofL 88 (updV (updV Fm0 0 (.int 0)) 0 (.int 1))))] := hD
      refine lv_iload hx hb dL_law_1247 (lv_at hl 1 rfl) ?_
      refine lv_icmp_eq (x := 1) (y := 1) (tgt := 1254) hx hb dL_law_1249 (by decide) (fun c_20 => ?_) (fun c_20 => ?_)
      rotate_left
      · exact absurd (by decide) c_20
      refine lv_iload hx hb dL_law_1254 (lv_at hl 1 rfl) ?_
      refine lv_if_ne (x := 1) (tgt := 1271) hx hb dL_law_1256 (by decide) (fun c_21 => ?_) (fun c_21 => ?_)
      rotate_left
      · exact absurd c_21 (by decide)
      refine lv_goto (tgt := 2265) hx hb dL_law_1271 (by decide) ?_
      exact law_end hst C0 hA C hS (lv_sub hl [2, 6] rfl) (Nat.le_of_ble_eq_true rfl) (Nat.le_of_ble_eq_true rfl)
    ·
      have hP : va_P G.1 vwCl [(aout, .inl (G.2.2.2.2, 1, .inr (.inl ((fun _ => 0))))), (x0, .inr (11, ofL 17 Fx0)), (x28, .inr (10, ofL 7 Fx28)), (x31, .inr (1, ofL 10 Fx31)), (x3, .inr (7, ofL 5 Fx3)), (x29, .inr (4, ofL 3 Fx29)), (m0, .inr (12, ofL 88 (updV (updV Fm0 0 (.int 0)) 0 (.int 1))))] H := hP
      have hD : va_D A [(aout, .inl (G.2.2.2.2, 1, .inr (.inl ((fun _ => 0))))), (x0, .inr (11, ofL 17 Fx0)), (x28, .inr (10, ofL 7 Fx28)), (x31, .inr (1, ofL 10 Fx31)), (x3, .inr (7, ofL 5 Fx3)), (x29, .inr (4, ofL 3 Fx29)), (m0, .inr (12, ofL 88 (updV (updV Fm0 0 (.int 0)) 0 (.int 1))))] := hD
      refine lv_istore (lv' := [(6, .int 0), (5, .int 1), (0, .ref b), (1, .ref x0), (2, .ref m0), (3, .ref aout), (4, .int 0)]) hx hb dL_law_1241 hl (by decide) rfl (fun ls hl => ?_)
      refine lv_aload_n hx hb dL_law_1243 rfl (lv_at hl 4 rfl) ?_
      refine k_callVi (wr := [(aout, .inl (G.2.2.2.2, 1, .inr (.inl ((fun _ => 0))))), (x0, .inr (11, ofL 17 Fx0)), (x28, .inr (10, ofL 7 Fx28)), (x31, .inr (1, ofL 10 Fx31)), (x3, .inr (7, ofL 5 Fx3)), (x29, .inr (4, ofL 3 Fx29))]) (rest := []) li_L_118 C (c_X12_thrown l G H.size m0 (updV (updV Fm0 0 (.int 0)) 0 (.int 1)) 1 rfl) (kR rfl) hP hD hS [6] [0, 1, 2, 3, 4, 5] rfl rfl rfl rfl (by decide) 0 12 rfl rfl rfl hl.1 rfl (Nat.le_of_ble_eq_true rfl) dL_law_1244 (fun rr23 uu24 H locs hw22 hP hD hS => ?_)
      obtain rfl : rr23 = 1 := hw22
      have hP : va_P G.1 vwCl [(aout, .inl (G.2.2.2.2, 1, .inr (.inl ((fun _ => 0))))), (x0, .inr (11, ofL 17 Fx0)), (x28, .inr (10, ofL 7 Fx28)), (x31, .inr (1, ofL 10 Fx31)), (x3, .inr (7, ofL 5 Fx3)), (x29, .inr (4, ofL 3 Fx29)), (m0, .inr (12, ofL 88 (updV (updV Fm0 0 (.int 0)) 0 (.int 1))))] H := hP
      have hD : va_D A [(aout, .inl (G.2.2.2.2, 1, .inr (.inl ((fun _ => 0))))), (x0, .inr (11, ofL 17 Fx0)), (x28, .inr (10, ofL 7 Fx28)), (x31, .inr (1, ofL 10 Fx31)), (x3, .inr (7, ofL 5 Fx3)), (x29, .inr (4, ofL 3 Fx29)), (m0, .inr (12, ofL 88 (updV (updV Fm0 0 (.int 0)) 0 (.int 1))))] := hD
      refine lv_iload hx hb dL_law_1247 (lv_at hl 1 rfl) ?_
      refine lv_icmp_eq (x := 1) (y := 1) (tgt := 1254) hx hb dL_law_1249 (by decide) (fun c_25 => ?_) (fun c_25 => ?_)
      rotate_left
      · exact absurd (by decide) c_25
      refine lv_iload hx hb dL_law_1254 (lv_at hl 1 rfl) ?_
      refine lv_if_ne (x := 1) (tgt := 1271) hx hb dL_law_1256 (by decide) (fun c_26 => ?_) (fun c_26 => ?_)
      rotate_left
      · exact absurd c_26 (by decide)
      refine lv_goto (tgt := 2265) hx hb dL_law_1271 (by decide) ?_
      exact law_end hst C0 hA C hS (lv_sub hl [2, 6] rfl) (Nat.le_of_ble_eq_true rfl) (Nat.le_of_ble_eq_true rfl)
    ·
      have hP : va_P G.1 vwCl [(aout, .inl (G.2.2.2.2, 1, .inr (.inl ((fun _ => 0))))), (x0, .inr (11, ofL 17 Fx0)), (x28, .inr (10, ofL 7 Fx28)), (x31, .inr (1, ofL 10 Fx31)), (x3, .inr (7, ofL 5 Fx3)), (x29, .inr (4, ofL 3 Fx29)), (m0, .inr (12, ofL 88 (updV Fm0 0 (.int 0))))] H := hP
      have hD : va_D A [(aout, .inl (G.2.2.2.2, 1, .inr (.inl ((fun _ => 0))))), (x0, .inr (11, ofL 17 Fx0)), (x28, .inr (10, ofL 7 Fx28)), (x31, .inr (1, ofL 10 Fx31)), (x3, .inr (7, ofL 5 Fx3)), (x29, .inr (4, ofL 3 Fx29)), (m0, .inr (12, ofL 88 (updV Fm0 0 (.int 0))))] := hD
      refine lv_istore (lv' := [(6, .int (-1)), (5, .int 1), (0, .ref b), (1, .ref x0), (2, .ref m0), (3, .ref aout), (4, .int 0)]) hx hb dL_law_1241 hl (by decide) rfl (fun ls hl => ?_)
      refine lv_aload_n hx hb dL_law_1243 rfl (lv_at hl 4 rfl) ?_
      refine k_callVi (wr := [(aout, .inl (G.2.2.2.2, 1, .inr (.inl ((fun _ => 0))))), (x0, .inr (11, ofL 17 Fx0)), (x28, .inr (10, ofL 7 Fx28)), (x31, .inr (1, ofL 10 Fx31)), (x3, .inr (7, ofL 5 Fx3)), (x29, .inr (4, ofL 3 Fx29))]) (rest := []) li_L_118 C (c_X12_thrown l G H.size m0 (updV Fm0 0 (.int 0)) 0 rfl) (kR rfl) hP hD hS [6] [0, 1, 2, 3, 4, 5] rfl rfl rfl rfl (by decide) 0 12 rfl rfl rfl hl.1 rfl (Nat.le_of_ble_eq_true rfl) dL_law_1244 (fun rr28 uu29 H locs hw27 hP hD hS => ?_)
      obtain rfl : rr28 = 0 := hw27
      have hP : va_P G.1 vwCl [(aout, .inl (G.2.2.2.2, 1, .inr (.inl ((fun _ => 0))))), (x0, .inr (11, ofL 17 Fx0)), (x28, .inr (10, ofL 7 Fx28)), (x31, .inr (1, ofL 10 Fx31)), (x3, .inr (7, ofL 5 Fx3)), (x29, .inr (4, ofL 3 Fx29)), (m0, .inr (12, ofL 88 (updV Fm0 0 (.int 0))))] H := hP
      have hD : va_D A [(aout, .inl (G.2.2.2.2, 1, .inr (.inl ((fun _ => 0))))), (x0, .inr (11, ofL 17 Fx0)), (x28, .inr (10, ofL 7 Fx28)), (x31, .inr (1, ofL 10 Fx31)), (x3, .inr (7, ofL 5 Fx3)), (x29, .inr (4, ofL 3 Fx29)), (m0, .inr (12, ofL 88 (updV Fm0 0 (.int 0))))] := hD
      refine lv_iload hx hb dL_law_1247 (lv_at hl 1 rfl) ?_
      refine lv_icmp_eq (x := 0) (y := 1) (tgt := 1254) hx hb dL_law_1249 (by decide) (fun c_30 => ?_) (fun c_30 => ?_)
      · exact absurd c_30 (by decide)
      refine lv_iconst (v := 0) hx hb dL_law_1252 (by decide) ?_
      exfalso
      have e9_0 : (0 : Int32).toInt = 0 := by decide
      have e9_1 : (1 : Int32).toInt = 1 := by decide
      simp only [Int32.lt_iff_toInt_lt, Int32.le_iff_toInt_le] at c_4 c_15 c_16
      omega
  ·
    have hP : va_P G.1 vwCl [(m0, .inr (12, ofL 88 Fm0)), (aout, .inl (G.2.2.2.2, 1, .inr (.inl ((fun _ => 0))))), (x0, .inr (11, ofL 17 Fx0)), (x28, .inr (10, ofL 7 Fx28)), (x31, .inr (1, ofL 10 Fx31)), (x3, .inr (7, ofL 5 Fx3)), (x29, .inr (4, ofL 3 Fx29))] H := hP
    have hD : va_D A [(m0, .inr (12, ofL 88 Fm0)), (aout, .inl (G.2.2.2.2, 1, .inr (.inl ((fun _ => 0))))), (x0, .inr (11, ofL 17 Fx0)), (x28, .inr (10, ofL 7 Fx28)), (x31, .inr (1, ofL 10 Fx31)), (x3, .inr (7, ofL 5 Fx3)), (x29, .inr (4, ofL 3 Fx29))] := hD
    refine lv_istore (lv' := [(5, .int 1), (0, .ref b), (1, .ref x0), (2, .ref m0), (3, .ref aout), (4, .int 0)]) hx hb dL_law_1229 hl (by decide) rfl (fun ls hl => ?_)
    refine lv_aload_n hx hb dL_law_1231 rfl (lv_at hl 3 rfl) ?_
    refine lv_aload_n hx hb dL_law_1232 rfl (lv_at hl 1 rfl) ?_
    refine lv_iload hx hb dL_law_1233 (lv_at hl 5 rfl) ?_
    refine lv_iconst (v := 1) hx hb dL_law_1235 (by decide) ?_
    refine lv_iadd hx hb dL_law_1236 ?_
    refine k_eqi (y := 1) (by decide) ?_
    refine va_sld hx hb hX hbl hbA hS (k_in (by decide)) dL_law_1237 ?_
    refine k_eqi (y := v1) hv1 ?_
    refine k_callVi (wr := [(aout, .inl (G.2.2.2.2, 1, .inr (.inl ((fun _ => 0))))), (x0, .inr (11, ofL 17 Fx0)), (x28, .inr (10, ofL 7 Fx28)), (x31, .inr (1, ofL 10 Fx31)), (x3, .inr (7, ofL 5 Fx3)), (x29, .inr (4, ofL 3 Fx29))]) (rest := []) li_L_175 C (c_X12_swap l G H.size m0 v1 Fm0 e_m0_1) (kR rfl) hP hD hS [0] [1, 2, 3, 4, 5, 6] rfl rfl rfl rfl (by decide) 0 12 rfl rfl rfl hl.1 rfl (Nat.le_of_ble_eq_true rfl) dL_law_1238 (fun rr32 uu33 H locs hw31 hP hD hS => ?_)
    rcases hw31 with ⟨rfl, rfl, c_34⟩ | ⟨rfl, rfl, c_35, c_36⟩ | ⟨rfl, rfl, c_37, c_38⟩
    ·
      have hP : va_P G.1 vwCl [(aout, .inl (G.2.2.2.2, 1, .inr (.inl ((fun _ => 0))))), (x0, .inr (11, ofL 17 Fx0)), (x28, .inr (10, ofL 7 Fx28)), (x31, .inr (1, ofL 10 Fx31)), (x3, .inr (7, ofL 5 Fx3)), (x29, .inr (4, ofL 3 Fx29)), (m0, .inr (12, ofL 88 (updV (updV Fm0 0 (.int 0)) 0 (.int 1))))] H := hP
      have hD : va_D A [(aout, .inl (G.2.2.2.2, 1, .inr (.inl ((fun _ => 0))))), (x0, .inr (11, ofL 17 Fx0)), (x28, .inr (10, ofL 7 Fx28)), (x31, .inr (1, ofL 10 Fx31)), (x3, .inr (7, ofL 5 Fx3)), (x29, .inr (4, ofL 3 Fx29)), (m0, .inr (12, ofL 88 (updV (updV Fm0 0 (.int 0)) 0 (.int 1))))] := hD
      refine lv_istore (lv' := [(6, .int 0), (5, .int 1), (0, .ref b), (1, .ref x0), (2, .ref m0), (3, .ref aout), (4, .int 0)]) hx hb dL_law_1241 hl (by decide) rfl (fun ls hl => ?_)
      refine lv_aload_n hx hb dL_law_1243 rfl (lv_at hl 4 rfl) ?_
      refine k_callVi (wr := [(aout, .inl (G.2.2.2.2, 1, .inr (.inl ((fun _ => 0))))), (x0, .inr (11, ofL 17 Fx0)), (x28, .inr (10, ofL 7 Fx28)), (x31, .inr (1, ofL 10 Fx31)), (x3, .inr (7, ofL 5 Fx3)), (x29, .inr (4, ofL 3 Fx29))]) (rest := []) li_L_118 C (c_X12_thrown l G H.size m0 (updV (updV Fm0 0 (.int 0)) 0 (.int 1)) 1 rfl) (kR rfl) hP hD hS [6] [0, 1, 2, 3, 4, 5] rfl rfl rfl rfl (by decide) 0 12 rfl rfl rfl hl.1 rfl (Nat.le_of_ble_eq_true rfl) dL_law_1244 (fun rr40 uu41 H locs hw39 hP hD hS => ?_)
      obtain rfl : rr40 = 1 := hw39
      have hP : va_P G.1 vwCl [(aout, .inl (G.2.2.2.2, 1, .inr (.inl ((fun _ => 0))))), (x0, .inr (11, ofL 17 Fx0)), (x28, .inr (10, ofL 7 Fx28)), (x31, .inr (1, ofL 10 Fx31)), (x3, .inr (7, ofL 5 Fx3)), (x29, .inr (4, ofL 3 Fx29)), (m0, .inr (12, ofL 88 (updV (updV Fm0 0 (.int 0)) 0 (.int 1))))] H := hP
      have hD : va_D A [(aout, .inl (G.2.2.2.2, 1, .inr (.inl ((fun _ => 0))))), (x0, .inr (11, ofL 17 Fx0)), (x28, .inr (10, ofL 7 Fx28)), (x31, .inr (1, ofL 10 Fx31)), (x3, .inr (7, ofL 5 Fx3)), (x29, .inr (4, ofL 3 Fx29)), (m0, .inr (12, ofL 88 (updV (updV Fm0 0 (.int 0)) 0 (.int 1))))] := hD
      refine lv_iload hx hb dL_law_1247 (lv_at hl 1 rfl) ?_
      refine lv_icmp_eq (x := 1) (y := 1) (tgt := 1254) hx hb dL_law_1249 (by decide) (fun c_42 => ?_) (fun c_42 => ?_)
      rotate_left
      · exact absurd (by decide) c_42
      refine lv_iload hx hb dL_law_1254 (lv_at hl 1 rfl) ?_
      refine lv_if_ne (x := 1) (tgt := 1271) hx hb dL_law_1256 (by decide) (fun c_43 => ?_) (fun c_43 => ?_)
      rotate_left
      · exact absurd c_43 (by decide)
      refine lv_goto (tgt := 2265) hx hb dL_law_1271 (by decide) ?_
      exact law_end hst C0 hA C hS (lv_sub hl [2, 6] rfl) (Nat.le_of_ble_eq_true rfl) (Nat.le_of_ble_eq_true rfl)
    ·
      have hP : va_P G.1 vwCl [(aout, .inl (G.2.2.2.2, 1, .inr (.inl ((fun _ => 0))))), (x0, .inr (11, ofL 17 Fx0)), (x28, .inr (10, ofL 7 Fx28)), (x31, .inr (1, ofL 10 Fx31)), (x3, .inr (7, ofL 5 Fx3)), (x29, .inr (4, ofL 3 Fx29)), (m0, .inr (12, ofL 88 (updV (updV Fm0 0 (.int 0)) 0 (.int 1))))] H := hP
      have hD : va_D A [(aout, .inl (G.2.2.2.2, 1, .inr (.inl ((fun _ => 0))))), (x0, .inr (11, ofL 17 Fx0)), (x28, .inr (10, ofL 7 Fx28)), (x31, .inr (1, ofL 10 Fx31)), (x3, .inr (7, ofL 5 Fx3)), (x29, .inr (4, ofL 3 Fx29)), (m0, .inr (12, ofL 88 (updV (updV Fm0 0 (.int 0)) 0 (.int 1))))] := hD
      refine lv_istore (lv' := [(6, .int 0), (5, .int 1), (0, .ref b), (1, .ref x0), (2, .ref m0), (3, .ref aout), (4, .int 0)]) hx hb dL_law_1241 hl (by decide) rfl (fun ls hl => ?_)
      refine lv_aload_n hx hb dL_law_1243 rfl (lv_at hl 4 rfl) ?_
      refine k_callVi (wr := [(aout, .inl (G.2.2.2.2, 1, .inr (.inl ((fun _ => 0))))), (x0, .inr (11, ofL 17 Fx0)), (x28, .inr (10, ofL 7 Fx28)), (x31, .inr (1, ofL 10 Fx31)), (x3, .inr (7, ofL 5 Fx3)), (x29, .inr (4, ofL 3 Fx29))]) (rest := []) li_L_118 C (c_X12_thrown l G H.size m0 (updV (updV Fm0 0 (.int 0)) 0 (.int 1)) 1 rfl) (kR rfl) hP hD hS [6] [0, 1, 2, 3, 4, 5] rfl rfl rfl rfl (by decide) 0 12 rfl rfl rfl hl.1 rfl (Nat.le_of_ble_eq_true rfl) dL_law_1244 (fun rr45 uu46 H locs hw44 hP hD hS => ?_)
      obtain rfl : rr45 = 1 := hw44
      have hP : va_P G.1 vwCl [(aout, .inl (G.2.2.2.2, 1, .inr (.inl ((fun _ => 0))))), (x0, .inr (11, ofL 17 Fx0)), (x28, .inr (10, ofL 7 Fx28)), (x31, .inr (1, ofL 10 Fx31)), (x3, .inr (7, ofL 5 Fx3)), (x29, .inr (4, ofL 3 Fx29)), (m0, .inr (12, ofL 88 (updV (updV Fm0 0 (.int 0)) 0 (.int 1))))] H := hP
      have hD : va_D A [(aout, .inl (G.2.2.2.2, 1, .inr (.inl ((fun _ => 0))))), (x0, .inr (11, ofL 17 Fx0)), (x28, .inr (10, ofL 7 Fx28)), (x31, .inr (1, ofL 10 Fx31)), (x3, .inr (7, ofL 5 Fx3)), (x29, .inr (4, ofL 3 Fx29)), (m0, .inr (12, ofL 88 (updV (updV Fm0 0 (.int 0)) 0 (.int 1))))] := hD
      refine lv_iload hx hb dL_law_1247 (lv_at hl 1 rfl) ?_
      refine lv_icmp_eq (x := 1) (y := 1) (tgt := 1254) hx hb dL_law_1249 (by decide) (fun c_47 => ?_) (fun c_47 => ?_)
      rotate_left
      · exact absurd (by decide) c_47
      refine lv_iload hx hb dL_law_1254 (lv_at hl 1 rfl) ?_
      refine lv_if_ne (x := 1) (tgt := 1271) hx hb dL_law_1256 (by decide) (fun c_48 => ?_) (fun c_48 => ?_)
      rotate_left
      · exact absurd c_48 (by decide)
      refine lv_goto (tgt := 2265) hx hb dL_law_1271 (by decide) ?_
      exact law_end hst C0 hA C hS (lv_sub hl [2, 6] rfl) (Nat.le_of_ble_eq_true rfl) (Nat.le_of_ble_eq_true rfl)
    ·
      have hP : va_P G.1 vwCl [(aout, .inl (G.2.2.2.2, 1, .inr (.inl ((fun _ => 0))))), (x0, .inr (11, ofL 17 Fx0)), (x28, .inr (10, ofL 7 Fx28)), (x31, .inr (1, ofL 10 Fx31)), (x3, .inr (7, ofL 5 Fx3)), (x29, .inr (4, ofL 3 Fx29)), (m0, .inr (12, ofL 88 (updV Fm0 0 (.int 0))))] H := hP
      have hD : va_D A [(aout, .inl (G.2.2.2.2, 1, .inr (.inl ((fun _ => 0))))), (x0, .inr (11, ofL 17 Fx0)), (x28, .inr (10, ofL 7 Fx28)), (x31, .inr (1, ofL 10 Fx31)), (x3, .inr (7, ofL 5 Fx3)), (x29, .inr (4, ofL 3 Fx29)), (m0, .inr (12, ofL 88 (updV Fm0 0 (.int 0))))] := hD
      refine lv_istore (lv' := [(6, .int (-1)), (5, .int 1), (0, .ref b), (1, .ref x0), (2, .ref m0), (3, .ref aout), (4, .int 0)]) hx hb dL_law_1241 hl (by decide) rfl (fun ls hl => ?_)
      refine lv_aload_n hx hb dL_law_1243 rfl (lv_at hl 4 rfl) ?_
      refine k_callVi (wr := [(aout, .inl (G.2.2.2.2, 1, .inr (.inl ((fun _ => 0))))), (x0, .inr (11, ofL 17 Fx0)), (x28, .inr (10, ofL 7 Fx28)), (x31, .inr (1, ofL 10 Fx31)), (x3, .inr (7, ofL 5 Fx3)), (x29, .inr (4, ofL 3 Fx29))]) (rest := []) li_L_118 C (c_X12_thrown l G H.size m0 (updV Fm0 0 (.int 0)) 0 rfl) (kR rfl) hP hD hS [6] [0, 1, 2, 3, 4, 5] rfl rfl rfl rfl (by decide) 0 12 rfl rfl rfl hl.1 rfl (Nat.le_of_ble_eq_true rfl) dL_law_1244 (fun rr50 uu51 H locs hw49 hP hD hS => ?_)
      obtain rfl : rr50 = 0 := hw49
      have hP : va_P G.1 vwCl [(aout, .inl (G.2.2.2.2, 1, .inr (.inl ((fun _ => 0))))), (x0, .inr (11, ofL 17 Fx0)), (x28, .inr (10, ofL 7 Fx28)), (x31, .inr (1, ofL 10 Fx31)), (x3, .inr (7, ofL 5 Fx3)), (x29, .inr (4, ofL 3 Fx29)), (m0, .inr (12, ofL 88 (updV Fm0 0 (.int 0))))] H := hP
      have hD : va_D A [(aout, .inl (G.2.2.2.2, 1, .inr (.inl ((fun _ => 0))))), (x0, .inr (11, ofL 17 Fx0)), (x28, .inr (10, ofL 7 Fx28)), (x31, .inr (1, ofL 10 Fx31)), (x3, .inr (7, ofL 5 Fx3)), (x29, .inr (4, ofL 3 Fx29)), (m0, .inr (12, ofL 88 (updV Fm0 0 (.int 0))))] := hD
      refine lv_iload hx hb dL_law_1247 (lv_at hl 1 rfl) ?_
      refine lv_icmp_eq (x := 0) (y := 1) (tgt := 1254) hx hb dL_law_1249 (by decide) (fun c_52 => ?_) (fun c_52 => ?_)
      · exact absurd c_52 (by decide)
      refine lv_iconst (v := 0) hx hb dL_law_1252 (by decide) ?_
      exfalso
      have e9_0 : (0 : Int32).toInt = 0 := by decide
      have e9_1 : (1 : Int32).toInt = 1 := by decide
      have e9_2 : (2 : Int32).toInt = 2 := by decide
      simp only [Int32.lt_iff_toInt_lt, Int32.le_iff_toInt_le] at c_5 c_6 c_37 c_38
      omega
  ·
    have hP : va_P G.1 vwCl [(m0, .inr (12, ofL 88 Fm0)), (aout, .inl (G.2.2.2.2, 1, .inr (.inl (vp_updL (fun _ => 0) 0 (-1))))), (x0, .inr (11, ofL 17 Fx0)), (x29, .inr (4, ofL 3 (updV Fx29 0 (.int 0)))), (x28, .inr (10, ofL 7 Fx28)), (x31, .inr (1, ofL 10 Fx31)), (x3, .inr (7, ofL 5 Fx3))] H := hP
    have hD : va_D A [(m0, .inr (12, ofL 88 Fm0)), (aout, .inl (G.2.2.2.2, 1, .inr (.inl (vp_updL (fun _ => 0) 0 (-1))))), (x0, .inr (11, ofL 17 Fx0)), (x29, .inr (4, ofL 3 (updV Fx29 0 (.int 0)))), (x28, .inr (10, ofL 7 Fx28)), (x31, .inr (1, ofL 10 Fx31)), (x3, .inr (7, ofL 5 Fx3))] := hD
    refine lv_istore (lv' := [(5, .int 0), (0, .ref b), (1, .ref x0), (2, .ref m0), (3, .ref aout), (4, .int 0)]) hx hb dL_law_1229 hl (by decide) rfl (fun ls hl => ?_)
    refine lv_aload_n hx hb dL_law_1231 rfl (lv_at hl 3 rfl) ?_
    refine lv_aload_n hx hb dL_law_1232 rfl (lv_at hl 1 rfl) ?_
    refine lv_iload hx hb dL_law_1233 (lv_at hl 5 rfl) ?_
    refine lv_iconst (v := 1) hx hb dL_law_1235 (by decide) ?_
    refine lv_iadd hx hb dL_law_1236 ?_
    refine k_eqi (y := 1) (by decide) ?_
    refine va_sld hx hb hX hbl hbA hS (k_in (by decide)) dL_law_1237 ?_
    refine k_eqi (y := v1) hv1 ?_
    refine k_callVi (wr := [(aout, .inl (G.2.2.2.2, 1, .inr (.inl (vp_updL (fun _ => 0) 0 (-1))))), (x0, .inr (11, ofL 17 Fx0)), (x29, .inr (4, ofL 3 (updV Fx29 0 (.int 0)))), (x28, .inr (10, ofL 7 Fx28)), (x31, .inr (1, ofL 10 Fx31)), (x3, .inr (7, ofL 5 Fx3))]) (rest := []) li_L_175 C (c_X12_swap l G H.size m0 v1 Fm0 e_m0_1) (kR rfl) hP hD hS [0] [1, 2, 3, 4, 5, 6] rfl rfl rfl rfl (by decide) 0 12 rfl rfl rfl hl.1 rfl (Nat.le_of_ble_eq_true rfl) dL_law_1238 (fun rr54 uu55 H locs hw53 hP hD hS => ?_)
    rcases hw53 with ⟨rfl, rfl, c_56⟩ | ⟨rfl, rfl, c_57, c_58⟩ | ⟨rfl, rfl, c_59, c_60⟩
    ·
      have hP : va_P G.1 vwCl [(aout, .inl (G.2.2.2.2, 1, .inr (.inl (vp_updL (fun _ => 0) 0 (-1))))), (x0, .inr (11, ofL 17 Fx0)), (x29, .inr (4, ofL 3 (updV Fx29 0 (.int 0)))), (x28, .inr (10, ofL 7 Fx28)), (x31, .inr (1, ofL 10 Fx31)), (x3, .inr (7, ofL 5 Fx3)), (m0, .inr (12, ofL 88 (updV (updV Fm0 0 (.int 0)) 0 (.int 1))))] H := hP
      have hD : va_D A [(aout, .inl (G.2.2.2.2, 1, .inr (.inl (vp_updL (fun _ => 0) 0 (-1))))), (x0, .inr (11, ofL 17 Fx0)), (x29, .inr (4, ofL 3 (updV Fx29 0 (.int 0)))), (x28, .inr (10, ofL 7 Fx28)), (x31, .inr (1, ofL 10 Fx31)), (x3, .inr (7, ofL 5 Fx3)), (m0, .inr (12, ofL 88 (updV (updV Fm0 0 (.int 0)) 0 (.int 1))))] := hD
      refine lv_istore (lv' := [(6, .int 0), (5, .int 0), (0, .ref b), (1, .ref x0), (2, .ref m0), (3, .ref aout), (4, .int 0)]) hx hb dL_law_1241 hl (by decide) rfl (fun ls hl => ?_)
      refine lv_aload_n hx hb dL_law_1243 rfl (lv_at hl 4 rfl) ?_
      refine k_callVi (wr := [(aout, .inl (G.2.2.2.2, 1, .inr (.inl (vp_updL (fun _ => 0) 0 (-1))))), (x0, .inr (11, ofL 17 Fx0)), (x29, .inr (4, ofL 3 (updV Fx29 0 (.int 0)))), (x28, .inr (10, ofL 7 Fx28)), (x31, .inr (1, ofL 10 Fx31)), (x3, .inr (7, ofL 5 Fx3))]) (rest := []) li_L_118 C (c_X12_thrown l G H.size m0 (updV (updV Fm0 0 (.int 0)) 0 (.int 1)) 1 rfl) (kR rfl) hP hD hS [6] [0, 1, 2, 3, 4, 5] rfl rfl rfl rfl (by decide) 0 12 rfl rfl rfl hl.1 rfl (Nat.le_of_ble_eq_true rfl) dL_law_1244 (fun rr62 uu63 H locs hw61 hP hD hS => ?_)
      obtain rfl : rr62 = 1 := hw61
      have hP : va_P G.1 vwCl [(aout, .inl (G.2.2.2.2, 1, .inr (.inl (vp_updL (fun _ => 0) 0 (-1))))), (x0, .inr (11, ofL 17 Fx0)), (x29, .inr (4, ofL 3 (updV Fx29 0 (.int 0)))), (x28, .inr (10, ofL 7 Fx28)), (x31, .inr (1, ofL 10 Fx31)), (x3, .inr (7, ofL 5 Fx3)), (m0, .inr (12, ofL 88 (updV (updV Fm0 0 (.int 0)) 0 (.int 1))))] H := hP
      have hD : va_D A [(aout, .inl (G.2.2.2.2, 1, .inr (.inl (vp_updL (fun _ => 0) 0 (-1))))), (x0, .inr (11, ofL 17 Fx0)), (x29, .inr (4, ofL 3 (updV Fx29 0 (.int 0)))), (x28, .inr (10, ofL 7 Fx28)), (x31, .inr (1, ofL 10 Fx31)), (x3, .inr (7, ofL 5 Fx3)), (m0, .inr (12, ofL 88 (updV (updV Fm0 0 (.int 0)) 0 (.int 1))))] := hD
      refine lv_iload hx hb dL_law_1247 (lv_at hl 1 rfl) ?_
      refine lv_icmp_eq (x := 1) (y := 0) (tgt := 1254) hx hb dL_law_1249 (by decide) (fun c_64 => ?_) (fun c_64 => ?_)
      · exact absurd c_64 (by decide)
      refine lv_iconst (v := 0) hx hb dL_law_1252 (by decide) ?_
      exfalso
      have e9_0 : (0 : Int32).toInt = 0 := by decide
      have e9_2 : (2 : Int32).toInt = 2 := by decide
      simp only [Int32.lt_iff_toInt_lt, Int32.le_iff_toInt_le] at c_7 c_8 c_56
      omega
    ·
      have hP : va_P G.1 vwCl [(aout, .inl (G.2.2.2.2, 1, .inr (.inl (vp_updL (fun _ => 0) 0 (-1))))), (x0, .inr (11, ofL 17 Fx0)), (x29, .inr (4, ofL 3 (updV Fx29 0 (.int 0)))), (x28, .inr (10, ofL 7 Fx28)), (x31, .inr (1, ofL 10 Fx31)), (x3, .inr (7, ofL 5 Fx3)), (m0, .inr (12, ofL 88 (updV (updV Fm0 0 (.int 0)) 0 (.int 1))))] H := hP
      have hD : va_D A [(aout, .inl (G.2.2.2.2, 1, .inr (.inl (vp_updL (fun _ => 0) 0 (-1))))), (x0, .inr (11, ofL 17 Fx0)), (x29, .inr (4, ofL 3 (updV Fx29 0 (.int 0)))), (x28, .inr (10, ofL 7 Fx28)), (x31, .inr (1, ofL 10 Fx31)), (x3, .inr (7, ofL 5 Fx3)), (m0, .inr (12, ofL 88 (updV (updV Fm0 0 (.int 0)) 0 (.int 1))))] := hD
      refine lv_istore (lv' := [(6, .int 0), (5, .int 0), (0, .ref b), (1, .ref x0), (2, .ref m0), (3, .ref aout), (4, .int 0)]) hx hb dL_law_1241 hl (by decide) rfl (fun ls hl => ?_)
      refine lv_aload_n hx hb dL_law_1243 rfl (lv_at hl 4 rfl) ?_
      refine k_callVi (wr := [(aout, .inl (G.2.2.2.2, 1, .inr (.inl (vp_updL (fun _ => 0) 0 (-1))))), (x0, .inr (11, ofL 17 Fx0)), (x29, .inr (4, ofL 3 (updV Fx29 0 (.int 0)))), (x28, .inr (10, ofL 7 Fx28)), (x31, .inr (1, ofL 10 Fx31)), (x3, .inr (7, ofL 5 Fx3))]) (rest := []) li_L_118 C (c_X12_thrown l G H.size m0 (updV (updV Fm0 0 (.int 0)) 0 (.int 1)) 1 rfl) (kR rfl) hP hD hS [6] [0, 1, 2, 3, 4, 5] rfl rfl rfl rfl (by decide) 0 12 rfl rfl rfl hl.1 rfl (Nat.le_of_ble_eq_true rfl) dL_law_1244 (fun rr66 uu67 H locs hw65 hP hD hS => ?_)
      obtain rfl : rr66 = 1 := hw65
      have hP : va_P G.1 vwCl [(aout, .inl (G.2.2.2.2, 1, .inr (.inl (vp_updL (fun _ => 0) 0 (-1))))), (x0, .inr (11, ofL 17 Fx0)), (x29, .inr (4, ofL 3 (updV Fx29 0 (.int 0)))), (x28, .inr (10, ofL 7 Fx28)), (x31, .inr (1, ofL 10 Fx31)), (x3, .inr (7, ofL 5 Fx3)), (m0, .inr (12, ofL 88 (updV (updV Fm0 0 (.int 0)) 0 (.int 1))))] H := hP
      have hD : va_D A [(aout, .inl (G.2.2.2.2, 1, .inr (.inl (vp_updL (fun _ => 0) 0 (-1))))), (x0, .inr (11, ofL 17 Fx0)), (x29, .inr (4, ofL 3 (updV Fx29 0 (.int 0)))), (x28, .inr (10, ofL 7 Fx28)), (x31, .inr (1, ofL 10 Fx31)), (x3, .inr (7, ofL 5 Fx3)), (m0, .inr (12, ofL 88 (updV (updV Fm0 0 (.int 0)) 0 (.int 1))))] := hD
      refine lv_iload hx hb dL_law_1247 (lv_at hl 1 rfl) ?_
      refine lv_icmp_eq (x := 1) (y := 0) (tgt := 1254) hx hb dL_law_1249 (by decide) (fun c_68 => ?_) (fun c_68 => ?_)
      · exact absurd c_68 (by decide)
      refine lv_iconst (v := 0) hx hb dL_law_1252 (by decide) ?_
      exfalso
      have e9_0 : (0 : Int32).toInt = 0 := by decide
      have e9_1 : (1 : Int32).toInt = 1 := by decide
      have e9_2 : (2 : Int32).toInt = 2 := by decide
      simp only [Int32.lt_iff_toInt_lt, Int32.le_iff_toInt_le] at c_7 c_8 c_57 c_58
      omega
    ·
      have hP : va_P G.1 vwCl [(aout, .inl (G.2.2.2.2, 1, .inr (.inl (vp_updL (fun _ => 0) 0 (-1))))), (x0, .inr (11, ofL 17 Fx0)), (x29, .inr (4, ofL 3 (updV Fx29 0 (.int 0)))), (x28, .inr (10, ofL 7 Fx28)), (x31, .inr (1, ofL 10 Fx31)), (x3, .inr (7, ofL 5 Fx3)), (m0, .inr (12, ofL 88 (updV Fm0 0 (.int 0))))] H := hP
      have hD : va_D A [(aout, .inl (G.2.2.2.2, 1, .inr (.inl (vp_updL (fun _ => 0) 0 (-1))))), (x0, .inr (11, ofL 17 Fx0)), (x29, .inr (4, ofL 3 (updV Fx29 0 (.int 0)))), (x28, .inr (10, ofL 7 Fx28)), (x31, .inr (1, ofL 10 Fx31)), (x3, .inr (7, ofL 5 Fx3)), (m0, .inr (12, ofL 88 (updV Fm0 0 (.int 0))))] := hD
      refine lv_istore (lv' := [(6, .int (-1)), (5, .int 0), (0, .ref b), (1, .ref x0), (2, .ref m0), (3, .ref aout), (4, .int 0)]) hx hb dL_law_1241 hl (by decide) rfl (fun ls hl => ?_)
      refine lv_aload_n hx hb dL_law_1243 rfl (lv_at hl 4 rfl) ?_
      refine k_callVi (wr := [(aout, .inl (G.2.2.2.2, 1, .inr (.inl (vp_updL (fun _ => 0) 0 (-1))))), (x0, .inr (11, ofL 17 Fx0)), (x29, .inr (4, ofL 3 (updV Fx29 0 (.int 0)))), (x28, .inr (10, ofL 7 Fx28)), (x31, .inr (1, ofL 10 Fx31)), (x3, .inr (7, ofL 5 Fx3))]) (rest := []) li_L_118 C (c_X12_thrown l G H.size m0 (updV Fm0 0 (.int 0)) 0 rfl) (kR rfl) hP hD hS [6] [0, 1, 2, 3, 4, 5] rfl rfl rfl rfl (by decide) 0 12 rfl rfl rfl hl.1 rfl (Nat.le_of_ble_eq_true rfl) dL_law_1244 (fun rr70 uu71 H locs hw69 hP hD hS => ?_)
      obtain rfl : rr70 = 0 := hw69
      have hP : va_P G.1 vwCl [(aout, .inl (G.2.2.2.2, 1, .inr (.inl (vp_updL (fun _ => 0) 0 (-1))))), (x0, .inr (11, ofL 17 Fx0)), (x29, .inr (4, ofL 3 (updV Fx29 0 (.int 0)))), (x28, .inr (10, ofL 7 Fx28)), (x31, .inr (1, ofL 10 Fx31)), (x3, .inr (7, ofL 5 Fx3)), (m0, .inr (12, ofL 88 (updV Fm0 0 (.int 0))))] H := hP
      have hD : va_D A [(aout, .inl (G.2.2.2.2, 1, .inr (.inl (vp_updL (fun _ => 0) 0 (-1))))), (x0, .inr (11, ofL 17 Fx0)), (x29, .inr (4, ofL 3 (updV Fx29 0 (.int 0)))), (x28, .inr (10, ofL 7 Fx28)), (x31, .inr (1, ofL 10 Fx31)), (x3, .inr (7, ofL 5 Fx3)), (m0, .inr (12, ofL 88 (updV Fm0 0 (.int 0))))] := hD
      refine lv_iload hx hb dL_law_1247 (lv_at hl 1 rfl) ?_
      refine lv_icmp_eq (x := 0) (y := 0) (tgt := 1254) hx hb dL_law_1249 (by decide) (fun c_72 => ?_) (fun c_72 => ?_)
      rotate_left
      · exact absurd (by decide) c_72
      refine lv_iload hx hb dL_law_1254 (lv_at hl 1 rfl) ?_
      refine lv_if_ne (x := 0) (tgt := 1271) hx hb dL_law_1256 (by decide) (fun c_73 => ?_) (fun c_73 => ?_)
      · exact absurd (by decide) c_73
      refine lv_aload_n hx hb dL_law_1259 rfl (lv_at hl 5 rfl) ?_
      refine lv_iconst (v := 0) hx hb dL_law_1260 (by decide) ?_
      refine k_lald C hP 0 rfl (k_in (by decide)) dL_law_1261 ?_
      refine k_eql (y := -1) rfl ?_
      refine lv_iload hx hb dL_law_1262 (lv_at hl 0 rfl) ?_
      refine lv_i2l (v := -1) hx hb dL_law_1264 (by decide) ?_
      refine W.lcmp hx hb dL_law_1265 ?_
      refine k_eqi (y := 0) (by decide) ?_
      refine lv_if_eq (x := 0) (tgt := 1271) hx hb dL_law_1266 (by decide) (fun c_74 => ?_) (fun c_74 => ?_)
      rotate_left
      · exact absurd (by decide) c_74
      refine lv_goto (tgt := 2265) hx hb dL_law_1271 (by decide) ?_
      exact law_end hst C0 hA C hS (lv_sub hl [2, 6] rfl) (Nat.le_of_ble_eq_true rfl) (Nat.le_of_ble_eq_true rfl)
set_option maxHeartbeats 4000000 in
set_option maxRecDepth 100000 in
theorem law_18 {p : Program} {e : Env} {s : State} {m : MethodId} {below : List Frame} {meth : Method} {c : Code} {l : Launch} (hst : l.stackTraces = false) {b : Nat} {xs : Nat → Int32} {G : kG} {A : Nat → Prop} (C0 : lw_At p s m meth c b 6 xs) (hA : A = fun q : Nat => s.heap.size ≤ q) (C : kC G p s m c cL_law 8 RL A) {v1 : Int32} (hv1 : xs 1 = v1) {v2 : Int32} (hv2 : xs 2 = v2) {v3 : Int32} (hv3 : xs 3 = v3) {v4 : Int32} (hv4 : xs 4 = v4) {v5 : Int32} (hv5 : xs 5 = v5) {x0 : Nat} {Fx0 : Nat → Value} {x3 : Nat} {Fx3 : Nat → Value} {m0 : Nat} {Fm0 : Nat → Value} {aout : Nat} (e_x0_3 : Fx0 3 = .ref x3) (e_x3_2 : Fx3 2 = .int 0) (e_m0_1 : Fm0 1 = .int 0) {H : Heap} {locs : List Loc} {ls : Array Slot} (hP : va_P G.1 vwCl [(x0, .inr (11, ofL 17 Fx0)), (x3, .inr (7, ofL 5 Fx3)), (m0, .inr (12, ofL 88 Fm0)), (aout, .inl (G.2.2.2.2, 1, .inr (.inl (fun _ => 0))))] H) (hD : va_D A [(x0, .inr (11, ofL 17 Fx0)), (x3, .inr (7, ofL 5 Fx3)), (m0, .inr (12, ofL 88 Fm0)), (aout, .inl (G.2.2.2.2, 1, .inr (.inl (fun _ => 0))))]) (hS : va_S A s.heap H locs) (hl : lv_has ls 8 [(0, .ref b), (1, .ref x0), (2, .ref m0), (3, .ref aout), (4, .int 0)]) :
    W p l e room_1 s m #[Value.ref b] below meth c H locs 1000 20000 (lw_Z below #[Value.ref b] s) (F0 m 1274 ls []) := by
  obtain ⟨hx, hb, hr, -, -, -, hX, hbl, hlocks, -⟩ := id C0
  have hbA : ¬ A b := by rw [hA]; exact Nat.not_le.mpr hbl
  refine lv_aload_n hx hb dL_law_1274 rfl (lv_at hl 1 rfl) ?_
  refine lv_aload_n hx hb dL_law_1275 rfl (lv_at hl 0 rfl) ?_
  refine lv_iload hx hb dL_law_1276 (lv_at hl 4 rfl) ?_
  refine lv_iconst (v := 1) hx hb dL_law_1278 (by decide) ?_
  refine lv_iadd hx hb dL_law_1279 ?_
  refine k_eqi (y := 1) (by decide) ?_
  refine va_sld hx hb hX hbl hbA hS (k_in (by decide)) dL_law_1280 ?_
  refine k_eqi (y := v1) hv1 ?_
  refine lv_aload_n hx hb dL_law_1281 rfl (lv_at hl 0 rfl) ?_
  refine lv_iload hx hb dL_law_1282 (lv_at hl 4 rfl) ?_
  refine lv_iconst (v := 2) hx hb dL_law_1284 (by decide) ?_
  refine lv_iadd hx hb dL_law_1285 ?_
  refine k_eqi (y := 2) (by decide) ?_
  refine va_sld hx hb hX hbl hbA hS (k_in (by decide)) dL_law_1286 ?_
  refine k_eqi (y := v2) hv2 ?_
  refine lv_aload_n hx hb dL_law_1287 rfl (lv_at hl 3 rfl) ?_
  refine k_callHi (wr := [(m0, .inr (12, ofL 88 Fm0))]) (rest := []) li_L_176 C (c_L_room l hst G H.size x0 v1 v2 aout Fx0 x3 Fx3 (fun _ => 0) e_x0_3 e_x3_2) (kR rfl) hP hD hS [0, 1, 3] [2] rfl rfl rfl rfl (by decide) rfl hl.1 rfl (Nat.le_of_ble_eq_true rfl) dL_law_1288 (fun rr2 uu3 H locs hw1 hP hD hS => ?_)
  rcases hw1 with ⟨rfl, rfl, c_4⟩ | ⟨rfl, rfl, c_5⟩
  ·
    have hP : va_P G.1 vwCl [(m0, .inr (12, ofL 88 Fm0)), (aout, .inl (G.2.2.2.2, 1, .inr (.inl ((fun _ => 0))))), (x0, .inr (11, ofL 17 Fx0)), (x3, .inr (7, ofL 5 Fx3))] H := hP
    have hD : va_D A [(m0, .inr (12, ofL 88 Fm0)), (aout, .inl (G.2.2.2.2, 1, .inr (.inl ((fun _ => 0))))), (x0, .inr (11, ofL 17 Fx0)), (x3, .inr (7, ofL 5 Fx3))] := hD
    refine lv_istore (lv' := [(5, .int 1), (0, .ref b), (1, .ref x0), (2, .ref m0), (3, .ref aout), (4, .int 0)]) hx hb dL_law_1291 hl (by decide) rfl (fun ls hl => ?_)
    refine lv_aload_n hx hb dL_law_1293 rfl (lv_at hl 3 rfl) ?_
    refine lv_aload_n hx hb dL_law_1294 rfl (lv_at hl 1 rfl) ?_
    refine lv_iload hx hb dL_law_1295 (lv_at hl 5 rfl) ?_
    refine lv_iconst (v := 1) hx hb dL_law_1297 (by decide) ?_
    refine lv_iadd hx hb dL_law_1298 ?_
    refine k_eqi (y := 1) (by decide) ?_
    refine va_sld hx hb hX hbl hbA hS (k_in (by decide)) dL_law_1299 ?_
    refine k_eqi (y := v1) hv1 ?_
    refine lv_aload_n hx hb dL_law_1300 rfl (lv_at hl 1 rfl) ?_
    refine lv_iload hx hb dL_law_1301 (lv_at hl 5 rfl) ?_
    refine lv_iconst (v := 2) hx hb dL_law_1303 (by decide) ?_
    refine lv_iadd hx hb dL_law_1304 ?_
    refine k_eqi (y := 2) (by decide) ?_
    refine va_sld hx hb hX hbl hbA hS (k_in (by decide)) dL_law_1305 ?_
    refine k_eqi (y := v2) hv2 ?_
    refine k_callVi (wr := [(aout, .inl (G.2.2.2.2, 1, .inr (.inl ((fun _ => 0))))), (x0, .inr (11, ofL 17 Fx0)), (x3, .inr (7, ofL 5 Fx3))]) (rest := []) li_L_178 C (c_X12_room l G H.size m0 v1 v2 Fm0 e_m0_1) (kR rfl) hP hD hS [0] [1, 2, 3] rfl rfl rfl rfl (by decide) 0 12 rfl rfl rfl hl.1 rfl (Nat.le_of_ble_eq_true rfl) dL_law_1306 (fun rr7 uu8 H locs hw6 hP hD hS => ?_)
    rcases hw6 with ⟨rfl, rfl, c_9⟩ | ⟨rfl, rfl, c_10⟩
    ·
      have hP : va_P G.1 vwCl [(aout, .inl (G.2.2.2.2, 1, .inr (.inl ((fun _ => 0))))), (x0, .inr (11, ofL 17 Fx0)), (x3, .inr (7, ofL 5 Fx3)), (m0, .inr (12, ofL 88 (updV (updV Fm0 0 (.int 0)) 0 (.int 1))))] H := hP
      have hD : va_D A [(aout, .inl (G.2.2.2.2, 1, .inr (.inl ((fun _ => 0))))), (x0, .inr (11, ofL 17 Fx0)), (x3, .inr (7, ofL 5 Fx3)), (m0, .inr (12, ofL 88 (updV (updV Fm0 0 (.int 0)) 0 (.int 1))))] := hD
      refine lv_istore (lv' := [(6, .int 0), (5, .int 1), (0, .ref b), (1, .ref x0), (2, .ref m0), (3, .ref aout), (4, .int 0)]) hx hb dL_law_1309 hl (by decide) rfl (fun ls hl => ?_)
      refine lv_aload_n hx hb dL_law_1311 rfl (lv_at hl 4 rfl) ?_
      refine k_callVi (wr := [(aout, .inl (G.2.2.2.2, 1, .inr (.inl ((fun _ => 0))))), (x0, .inr (11, ofL 17 Fx0)), (x3, .inr (7, ofL 5 Fx3))]) (rest := []) li_L_118 C (c_X12_thrown l G H.size m0 (updV (updV Fm0 0 (.int 0)) 0 (.int 1)) 1 rfl) (kR rfl) hP hD hS [3] [0, 1, 2] rfl rfl rfl rfl (by decide) 0 12 rfl rfl rfl hl.1 rfl (Nat.le_of_ble_eq_true rfl) dL_law_1312 (fun rr12 uu13 H locs hw11 hP hD hS => ?_)
      obtain rfl : rr12 = 1 := hw11
      have hP : va_P G.1 vwCl [(aout, .inl (G.2.2.2.2, 1, .inr (.inl ((fun _ => 0))))), (x0, .inr (11, ofL 17 Fx0)), (x3, .inr (7, ofL 5 Fx3)), (m0, .inr (12, ofL 88 (updV (updV Fm0 0 (.int 0)) 0 (.int 1))))] H := hP
      have hD : va_D A [(aout, .inl (G.2.2.2.2, 1, .inr (.inl ((fun _ => 0))))), (x0, .inr (11, ofL 17 Fx0)), (x3, .inr (7, ofL 5 Fx3)), (m0, .inr (12, ofL 88 (updV (updV Fm0 0 (.int 0)) 0 (.int 1))))] := hD
      refine lv_iload hx hb dL_law_1315 (lv_at hl 1 rfl) ?_
      refine lv_icmp_eq (x := 1) (y := 1) (tgt := 1322) hx hb dL_law_1317 (by decide) (fun c_14 => ?_) (fun c_14 => ?_)
      rotate_left
      · exact absurd (by decide) c_14
      refine lv_iload hx hb dL_law_1322 (lv_at hl 1 rfl) ?_
      refine lv_if_ne (x := 1) (tgt := 1339) hx hb dL_law_1324 (by decide) (fun c_15 => ?_) (fun c_15 => ?_)
      rotate_left
      · exact absurd c_15 (by decide)
      refine lv_goto (tgt := 2265) hx hb dL_law_1339 (by decide) ?_
      exact law_end hst C0 hA C hS (lv_sub hl [2, 6] rfl) (Nat.le_of_ble_eq_true rfl) (Nat.le_of_ble_eq_true rfl)
    ·
      have hP : va_P G.1 vwCl [(aout, .inl (G.2.2.2.2, 1, .inr (.inl ((fun _ => 0))))), (x0, .inr (11, ofL 17 Fx0)), (x3, .inr (7, ofL 5 Fx3)), (m0, .inr (12, ofL 88 (updV (updV Fm0 0 (.int 0)) 0 (.int 1))))] H := hP
      have hD : va_D A [(aout, .inl (G.2.2.2.2, 1, .inr (.inl ((fun _ => 0))))), (x0, .inr (11, ofL 17 Fx0)), (x3, .inr (7, ofL 5 Fx3)), (m0, .inr (12, ofL 88 (updV (updV Fm0 0 (.int 0)) 0 (.int 1))))] := hD
      refine lv_istore (lv' := [(6, .int 0), (5, .int 1), (0, .ref b), (1, .ref x0), (2, .ref m0), (3, .ref aout), (4, .int 0)]) hx hb dL_law_1309 hl (by decide) rfl (fun ls hl => ?_)
      refine lv_aload_n hx hb dL_law_1311 rfl (lv_at hl 4 rfl) ?_
      refine k_callVi (wr := [(aout, .inl (G.2.2.2.2, 1, .inr (.inl ((fun _ => 0))))), (x0, .inr (11, ofL 17 Fx0)), (x3, .inr (7, ofL 5 Fx3))]) (rest := []) li_L_118 C (c_X12_thrown l G H.size m0 (updV (updV Fm0 0 (.int 0)) 0 (.int 1)) 1 rfl) (kR rfl) hP hD hS [3] [0, 1, 2] rfl rfl rfl rfl (by decide) 0 12 rfl rfl rfl hl.1 rfl (Nat.le_of_ble_eq_true rfl) dL_law_1312 (fun rr17 uu18 H locs hw16 hP hD hS => ?_)
      obtain rfl : rr17 = 1 := hw16
      have hP : va_P G.1 vwCl [(aout, .inl (G.2.2.2.2, 1, .inr (.inl ((fun _ => 0))))), (x0, .inr (11, ofL 17 Fx0)), (x3, .inr (7, ofL 5 Fx3)), (m0, .inr (12, ofL 88 (updV (updV Fm0 0 (.int 0)) 0 (.int 1))))] H := hP
      have hD : va_D A [(aout, .inl (G.2.2.2.2, 1, .inr (.inl ((fun _ => 0))))), (x0, .inr (11, ofL 17 Fx0)), (x3, .inr (7, ofL 5 Fx3)), (m0, .inr (12, ofL 88 (updV (updV Fm0 0 (.int 0)) 0 (.int 1))))] := hD
      refine lv_iload hx hb dL_law_1315 (lv_at hl 1 rfl) ?_
      refine lv_icmp_eq (x := 1) (y := 1) (tgt := 1322) hx hb dL_law_1317 (by decide) (fun c_19 => ?_) (fun c_19 => ?_)
      rotate_left
      · exact absurd (by decide) c_19
      refine lv_iload hx hb dL_law_1322 (lv_at hl 1 rfl) ?_
      refine lv_if_ne (x := 1) (tgt := 1339) hx hb dL_law_1324 (by decide) (fun c_20 => ?_) (fun c_20 => ?_)
      rotate_left
      · exact absurd c_20 (by decide)
      refine lv_goto (tgt := 2265) hx hb dL_law_1339 (by decide) ?_
      exact law_end hst C0 hA C hS (lv_sub hl [2, 6] rfl) (Nat.le_of_ble_eq_true rfl) (Nat.le_of_ble_eq_true rfl)
  ·
    have hP : va_P G.1 vwCl [(m0, .inr (12, ofL 88 Fm0)), (aout, .inl (G.2.2.2.2, 1, .inr (.inl ((fun _ => 0))))), (x0, .inr (11, ofL 17 Fx0)), (x3, .inr (7, ofL 5 Fx3))] H := hP
    have hD : va_D A [(m0, .inr (12, ofL 88 Fm0)), (aout, .inl (G.2.2.2.2, 1, .inr (.inl ((fun _ => 0))))), (x0, .inr (11, ofL 17 Fx0)), (x3, .inr (7, ofL 5 Fx3))] := hD
    refine lv_istore (lv' := [(5, .int 1), (0, .ref b), (1, .ref x0), (2, .ref m0), (3, .ref aout), (4, .int 0)]) hx hb dL_law_1291 hl (by decide) rfl (fun ls hl => ?_)
    refine lv_aload_n hx hb dL_law_1293 rfl (lv_at hl 3 rfl) ?_
    refine lv_aload_n hx hb dL_law_1294 rfl (lv_at hl 1 rfl) ?_
    refine lv_iload hx hb dL_law_1295 (lv_at hl 5 rfl) ?_
    refine lv_iconst (v := 1) hx hb dL_law_1297 (by decide) ?_
    refine lv_iadd hx hb dL_law_1298 ?_
    refine k_eqi (y := 1) (by decide) ?_
    refine va_sld hx hb hX hbl hbA hS (k_in (by decide)) dL_law_1299 ?_
    refine k_eqi (y := v1) hv1 ?_
    refine lv_aload_n hx hb dL_law_1300 rfl (lv_at hl 1 rfl) ?_
    refine lv_iload hx hb dL_law_1301 (lv_at hl 5 rfl) ?_
    refine lv_iconst (v := 2) hx hb dL_law_1303 (by decide) ?_
    refine lv_iadd hx hb dL_law_1304 ?_
    refine k_eqi (y := 2) (by decide) ?_
    refine va_sld hx hb hX hbl hbA hS (k_in (by decide)) dL_law_1305 ?_
    refine k_eqi (y := v2) hv2 ?_
    refine k_callVi (wr := [(aout, .inl (G.2.2.2.2, 1, .inr (.inl ((fun _ => 0))))), (x0, .inr (11, ofL 17 Fx0)), (x3, .inr (7, ofL 5 Fx3))]) (rest := []) li_L_178 C (c_X12_room l G H.size m0 v1 v2 Fm0 e_m0_1) (kR rfl) hP hD hS [0] [1, 2, 3] rfl rfl rfl rfl (by decide) 0 12 rfl rfl rfl hl.1 rfl (Nat.le_of_ble_eq_true rfl) dL_law_1306 (fun rr22 uu23 H locs hw21 hP hD hS => ?_)
    rcases hw21 with ⟨rfl, rfl, c_24⟩ | ⟨rfl, rfl, c_25⟩
    ·
      have hP : va_P G.1 vwCl [(aout, .inl (G.2.2.2.2, 1, .inr (.inl ((fun _ => 0))))), (x0, .inr (11, ofL 17 Fx0)), (x3, .inr (7, ofL 5 Fx3)), (m0, .inr (12, ofL 88 (updV (updV Fm0 0 (.int 0)) 0 (.int 1))))] H := hP
      have hD : va_D A [(aout, .inl (G.2.2.2.2, 1, .inr (.inl ((fun _ => 0))))), (x0, .inr (11, ofL 17 Fx0)), (x3, .inr (7, ofL 5 Fx3)), (m0, .inr (12, ofL 88 (updV (updV Fm0 0 (.int 0)) 0 (.int 1))))] := hD
      refine lv_istore (lv' := [(6, .int 0), (5, .int 1), (0, .ref b), (1, .ref x0), (2, .ref m0), (3, .ref aout), (4, .int 0)]) hx hb dL_law_1309 hl (by decide) rfl (fun ls hl => ?_)
      refine lv_aload_n hx hb dL_law_1311 rfl (lv_at hl 4 rfl) ?_
      refine k_callVi (wr := [(aout, .inl (G.2.2.2.2, 1, .inr (.inl ((fun _ => 0))))), (x0, .inr (11, ofL 17 Fx0)), (x3, .inr (7, ofL 5 Fx3))]) (rest := []) li_L_118 C (c_X12_thrown l G H.size m0 (updV (updV Fm0 0 (.int 0)) 0 (.int 1)) 1 rfl) (kR rfl) hP hD hS [3] [0, 1, 2] rfl rfl rfl rfl (by decide) 0 12 rfl rfl rfl hl.1 rfl (Nat.le_of_ble_eq_true rfl) dL_law_1312 (fun rr27 uu28 H locs hw26 hP hD hS => ?_)
      obtain rfl : rr27 = 1 := hw26
      have hP : va_P G.1 vwCl [(aout, .inl (G.2.2.2.2, 1, .inr (.inl ((fun _ => 0))))), (x0, .inr (11, ofL 17 Fx0)), (x3, .inr (7, ofL 5 Fx3)), (m0, .inr (12, ofL 88 (updV (updV Fm0 0 (.int 0)) 0 (.int 1))))] H := hP
      have hD : va_D A [(aout, .inl (G.2.2.2.2, 1, .inr (.inl ((fun _ => 0))))), (x0, .inr (11, ofL 17 Fx0)), (x3, .inr (7, ofL 5 Fx3)), (m0, .inr (12, ofL 88 (updV (updV Fm0 0 (.int 0)) 0 (.int 1))))] := hD
      refine lv_iload hx hb dL_law_1315 (lv_at hl 1 rfl) ?_
      refine lv_icmp_eq (x := 1) (y := 1) (tgt := 1322) hx hb dL_law_1317 (by decide) (fun c_29 => ?_) (fun c_29 => ?_)
      rotate_left
      · exact absurd (by decide) c_29
      refine lv_iload hx hb dL_law_1322 (lv_at hl 1 rfl) ?_
      refine lv_if_ne (x := 1) (tgt := 1339) hx hb dL_law_1324 (by decide) (fun c_30 => ?_) (fun c_30 => ?_)
      rotate_left
      · exact absurd c_30 (by decide)
      refine lv_goto (tgt := 2265) hx hb dL_law_1339 (by decide) ?_
      exact law_end hst C0 hA C hS (lv_sub hl [2, 6] rfl) (Nat.le_of_ble_eq_true rfl) (Nat.le_of_ble_eq_true rfl)
    ·
      have hP : va_P G.1 vwCl [(aout, .inl (G.2.2.2.2, 1, .inr (.inl ((fun _ => 0))))), (x0, .inr (11, ofL 17 Fx0)), (x3, .inr (7, ofL 5 Fx3)), (m0, .inr (12, ofL 88 (updV (updV Fm0 0 (.int 0)) 0 (.int 1))))] H := hP
      have hD : va_D A [(aout, .inl (G.2.2.2.2, 1, .inr (.inl ((fun _ => 0))))), (x0, .inr (11, ofL 17 Fx0)), (x3, .inr (7, ofL 5 Fx3)), (m0, .inr (12, ofL 88 (updV (updV Fm0 0 (.int 0)) 0 (.int 1))))] := hD
      refine lv_istore (lv' := [(6, .int 0), (5, .int 1), (0, .ref b), (1, .ref x0), (2, .ref m0), (3, .ref aout), (4, .int 0)]) hx hb dL_law_1309 hl (by decide) rfl (fun ls hl => ?_)
      refine lv_aload_n hx hb dL_law_1311 rfl (lv_at hl 4 rfl) ?_
      refine k_callVi (wr := [(aout, .inl (G.2.2.2.2, 1, .inr (.inl ((fun _ => 0))))), (x0, .inr (11, ofL 17 Fx0)), (x3, .inr (7, ofL 5 Fx3))]) (rest := []) li_L_118 C (c_X12_thrown l G H.size m0 (updV (updV Fm0 0 (.int 0)) 0 (.int 1)) 1 rfl) (kR rfl) hP hD hS [3] [0, 1, 2] rfl rfl rfl rfl (by decide) 0 12 rfl rfl rfl hl.1 rfl (Nat.le_of_ble_eq_true rfl) dL_law_1312 (fun rr32 uu33 H locs hw31 hP hD hS => ?_)
      obtain rfl : rr32 = 1 := hw31
      have hP : va_P G.1 vwCl [(aout, .inl (G.2.2.2.2, 1, .inr (.inl ((fun _ => 0))))), (x0, .inr (11, ofL 17 Fx0)), (x3, .inr (7, ofL 5 Fx3)), (m0, .inr (12, ofL 88 (updV (updV Fm0 0 (.int 0)) 0 (.int 1))))] H := hP
      have hD : va_D A [(aout, .inl (G.2.2.2.2, 1, .inr (.inl ((fun _ => 0))))), (x0, .inr (11, ofL 17 Fx0)), (x3, .inr (7, ofL 5 Fx3)), (m0, .inr (12, ofL 88 (updV (updV Fm0 0 (.int 0)) 0 (.int 1))))] := hD
      refine lv_iload hx hb dL_law_1315 (lv_at hl 1 rfl) ?_
      refine lv_icmp_eq (x := 1) (y := 1) (tgt := 1322) hx hb dL_law_1317 (by decide) (fun c_34 => ?_) (fun c_34 => ?_)
      rotate_left
      · exact absurd (by decide) c_34
      refine lv_iload hx hb dL_law_1322 (lv_at hl 1 rfl) ?_
      refine lv_if_ne (x := 1) (tgt := 1339) hx hb dL_law_1324 (by decide) (fun c_35 => ?_) (fun c_35 => ?_)
      rotate_left
      · exact absurd c_35 (by decide)
      refine lv_goto (tgt := 2265) hx hb dL_law_1339 (by decide) ?_
      exact law_end hst C0 hA C hS (lv_sub hl [2, 6] rfl) (Nat.le_of_ble_eq_true rfl) (Nat.le_of_ble_eq_true rfl)
set_option maxHeartbeats 4000000 in
set_option maxRecDepth 100000 in
theorem law_19 {p : Program} {e : Env} {s : State} {m : MethodId} {below : List Frame} {meth : Method} {c : Code} {l : Launch} (hst : l.stackTraces = false) {b : Nat} {xs : Nat → Int32} {G : kG} {A : Nat → Prop} (C0 : lw_At p s m meth c b 6 xs) (hA : A = fun q : Nat => s.heap.size ≤ q) (C : kC G p s m c cL_law 8 RL A) {v1 : Int32} (hv1 : xs 1 = v1) {v2 : Int32} (hv2 : xs 2 = v2) {v3 : Int32} (hv3 : xs 3 = v3) {v4 : Int32} (hv4 : xs 4 = v4) {v5 : Int32} (hv5 : xs 5 = v5) {x0 : Nat} {Fx0 : Nat → Value} {x3 : Nat} {Fx3 : Nat → Value} {m0 : Nat} {Fm0 : Nat → Value} {aout : Nat} (e_x0_3 : Fx0 3 = .ref x3) (e_x3_2 : Fx3 2 = .int 0) (e_m0_1 : Fm0 1 = .int 0) {H : Heap} {locs : List Loc} {ls : Array Slot} (hP : va_P G.1 vwCl [(x0, .inr (11, ofL 17 Fx0)), (x3, .inr (7, ofL 5 Fx3)), (m0, .inr (12, ofL 88 Fm0)), (aout, .inl (G.2.2.2.2, 1, .inr (.inl (fun _ => 0))))] H) (hD : va_D A [(x0, .inr (11, ofL 17 Fx0)), (x3, .inr (7, ofL 5 Fx3)), (m0, .inr (12, ofL 88 Fm0)), (aout, .inl (G.2.2.2.2, 1, .inr (.inl (fun _ => 0))))]) (hS : va_S A s.heap H locs) (hl : lv_has ls 8 [(0, .ref b), (1, .ref x0), (2, .ref m0), (3, .ref aout), (4, .int 0)]) :
    W p l e room_1 s m #[Value.ref b] below meth c H locs 1000 20000 (lw_Z below #[Value.ref b] s) (F0 m 1342 ls []) := by
  obtain ⟨hx, hb, hr, -, -, -, hX, hbl, hlocks, -⟩ := id C0
  have hbA : ¬ A b := by rw [hA]; exact Nat.not_le.mpr hbl
  refine lv_aload_n hx hb dL_law_1342 rfl (lv_at hl 1 rfl) ?_
  refine lv_aload_n hx hb dL_law_1343 rfl (lv_at hl 0 rfl) ?_
  refine lv_iload hx hb dL_law_1344 (lv_at hl 4 rfl) ?_
  refine lv_iconst (v := 1) hx hb dL_law_1346 (by decide) ?_
  refine lv_iadd hx hb dL_law_1347 ?_
  refine k_eqi (y := 1) (by decide) ?_
  refine va_sld hx hb hX hbl hbA hS (k_in (by decide)) dL_law_1348 ?_
  refine k_eqi (y := v1) hv1 ?_
  refine lv_aload_n hx hb dL_law_1349 rfl (lv_at hl 0 rfl) ?_
  refine lv_iload hx hb dL_law_1350 (lv_at hl 4 rfl) ?_
  refine lv_iconst (v := 2) hx hb dL_law_1352 (by decide) ?_
  refine lv_iadd hx hb dL_law_1353 ?_
  refine k_eqi (y := 2) (by decide) ?_
  refine va_sld hx hb hX hbl hbA hS (k_in (by decide)) dL_law_1354 ?_
  refine k_eqi (y := v2) hv2 ?_
  refine lv_aload_n hx hb dL_law_1355 rfl (lv_at hl 3 rfl) ?_
  refine k_callHi (wr := [(m0, .inr (12, ofL 88 Fm0))]) (rest := []) li_L_179 C (c_L_limit l hst G H.size x0 v1 v2 aout Fx0 x3 Fx3 (fun _ => 0) e_x0_3 e_x3_2) (kR rfl) hP hD hS [0, 1, 3] [2] rfl rfl rfl rfl (by decide) rfl hl.1 rfl (Nat.le_of_ble_eq_true rfl) dL_law_1356 (fun rr2 uu3 H locs hw1 hP hD hS => ?_)
  rcases hw1 with ⟨rfl, rfl, c_4⟩ | ⟨rfl, rfl, c_5⟩
  ·
    have hP : va_P G.1 vwCl [(m0, .inr (12, ofL 88 Fm0)), (aout, .inl (G.2.2.2.2, 1, .inr (.inl ((fun _ => 0))))), (x0, .inr (11, ofL 17 Fx0)), (x3, .inr (7, ofL 5 Fx3))] H := hP
    have hD : va_D A [(m0, .inr (12, ofL 88 Fm0)), (aout, .inl (G.2.2.2.2, 1, .inr (.inl ((fun _ => 0))))), (x0, .inr (11, ofL 17 Fx0)), (x3, .inr (7, ofL 5 Fx3))] := hD
    refine lv_istore (lv' := [(5, .int 1), (0, .ref b), (1, .ref x0), (2, .ref m0), (3, .ref aout), (4, .int 0)]) hx hb dL_law_1359 hl (by decide) rfl (fun ls hl => ?_)
    refine lv_aload_n hx hb dL_law_1361 rfl (lv_at hl 3 rfl) ?_
    refine lv_aload_n hx hb dL_law_1362 rfl (lv_at hl 1 rfl) ?_
    refine lv_iload hx hb dL_law_1363 (lv_at hl 5 rfl) ?_
    refine lv_iconst (v := 1) hx hb dL_law_1365 (by decide) ?_
    refine lv_iadd hx hb dL_law_1366 ?_
    refine k_eqi (y := 1) (by decide) ?_
    refine va_sld hx hb hX hbl hbA hS (k_in (by decide)) dL_law_1367 ?_
    refine k_eqi (y := v1) hv1 ?_
    refine lv_aload_n hx hb dL_law_1368 rfl (lv_at hl 1 rfl) ?_
    refine lv_iload hx hb dL_law_1369 (lv_at hl 5 rfl) ?_
    refine lv_iconst (v := 2) hx hb dL_law_1371 (by decide) ?_
    refine lv_iadd hx hb dL_law_1372 ?_
    refine k_eqi (y := 2) (by decide) ?_
    refine va_sld hx hb hX hbl hbA hS (k_in (by decide)) dL_law_1373 ?_
    refine k_eqi (y := v2) hv2 ?_
    refine k_callVi (wr := [(aout, .inl (G.2.2.2.2, 1, .inr (.inl ((fun _ => 0))))), (x0, .inr (11, ofL 17 Fx0)), (x3, .inr (7, ofL 5 Fx3))]) (rest := []) li_L_181 C (c_X12_limit l G H.size m0 v1 v2 Fm0 e_m0_1) (kR rfl) hP hD hS [0] [1, 2, 3] rfl rfl rfl rfl (by decide) 0 12 rfl rfl rfl hl.1 rfl (Nat.le_of_ble_eq_true rfl) dL_law_1374 (fun rr7 uu8 H locs hw6 hP hD hS => ?_)
    rcases hw6 with ⟨rfl, rfl, c_9⟩ | ⟨rfl, rfl, c_10⟩
    ·
      have hP : va_P G.1 vwCl [(aout, .inl (G.2.2.2.2, 1, .inr (.inl ((fun _ => 0))))), (x0, .inr (11, ofL 17 Fx0)), (x3, .inr (7, ofL 5 Fx3)), (m0, .inr (12, ofL 88 (updV (updV Fm0 0 (.int 0)) 0 (.int 1))))] H := hP
      have hD : va_D A [(aout, .inl (G.2.2.2.2, 1, .inr (.inl ((fun _ => 0))))), (x0, .inr (11, ofL 17 Fx0)), (x3, .inr (7, ofL 5 Fx3)), (m0, .inr (12, ofL 88 (updV (updV Fm0 0 (.int 0)) 0 (.int 1))))] := hD
      refine lv_istore (lv' := [(6, .int 0), (5, .int 1), (0, .ref b), (1, .ref x0), (2, .ref m0), (3, .ref aout), (4, .int 0)]) hx hb dL_law_1377 hl (by decide) rfl (fun ls hl => ?_)
      refine lv_aload_n hx hb dL_law_1379 rfl (lv_at hl 4 rfl) ?_
      refine k_callVi (wr := [(aout, .inl (G.2.2.2.2, 1, .inr (.inl ((fun _ => 0))))), (x0, .inr (11, ofL 17 Fx0)), (x3, .inr (7, ofL 5 Fx3))]) (rest := []) li_L_118 C (c_X12_thrown l G H.size m0 (updV (updV Fm0 0 (.int 0)) 0 (.int 1)) 1 rfl) (kR rfl) hP hD hS [3] [0, 1, 2] rfl rfl rfl rfl (by decide) 0 12 rfl rfl rfl hl.1 rfl (Nat.le_of_ble_eq_true rfl) dL_law_1380 (fun rr12 uu13 H locs hw11 hP hD hS => ?_)
      obtain rfl : rr12 = 1 := hw11
      have hP : va_P G.1 vwCl [(aout, .inl (G.2.2.2.2, 1, .inr (.inl ((fun _ => 0))))), (x0, .inr (11, ofL 17 Fx0)), (x3, .inr (7, ofL 5 Fx3)), (m0, .inr (12, ofL 88 (updV (updV Fm0 0 (.int 0)) 0 (.int 1))))] H := hP
      have hD : va_D A [(aout, .inl (G.2.2.2.2, 1, .inr (.inl ((fun _ => 0))))), (x0, .inr (11, ofL 17 Fx0)), (x3, .inr (7, ofL 5 Fx3)), (m0, .inr (12, ofL 88 (updV (updV Fm0 0 (.int 0)) 0 (.int 1))))] := hD
      refine lv_iload hx hb dL_law_1383 (lv_at hl 1 rfl) ?_
      refine lv_icmp_eq (x := 1) (y := 1) (tgt := 1390) hx hb dL_law_1385 (by decide) (fun c_14 => ?_) (fun c_14 => ?_)
      rotate_left
      · exact absurd (by decide) c_14
      refine lv_iload hx hb dL_law_1390 (lv_at hl 1 rfl) ?_
      refine lv_if_ne (x := 1) (tgt := 1407) hx hb dL_law_1392 (by decide) (fun c_15 => ?_) (fun c_15 => ?_)
      rotate_left
      · exact absurd c_15 (by decide)
      refine lv_goto (tgt := 2265) hx hb dL_law_1407 (by decide) ?_
      exact law_end hst C0 hA C hS (lv_sub hl [2, 6] rfl) (Nat.le_of_ble_eq_true rfl) (Nat.le_of_ble_eq_true rfl)
    ·
      have hP : va_P G.1 vwCl [(aout, .inl (G.2.2.2.2, 1, .inr (.inl ((fun _ => 0))))), (x0, .inr (11, ofL 17 Fx0)), (x3, .inr (7, ofL 5 Fx3)), (m0, .inr (12, ofL 88 (updV (updV Fm0 0 (.int 0)) 0 (.int 1))))] H := hP
      have hD : va_D A [(aout, .inl (G.2.2.2.2, 1, .inr (.inl ((fun _ => 0))))), (x0, .inr (11, ofL 17 Fx0)), (x3, .inr (7, ofL 5 Fx3)), (m0, .inr (12, ofL 88 (updV (updV Fm0 0 (.int 0)) 0 (.int 1))))] := hD
      refine lv_istore (lv' := [(6, .int 0), (5, .int 1), (0, .ref b), (1, .ref x0), (2, .ref m0), (3, .ref aout), (4, .int 0)]) hx hb dL_law_1377 hl (by decide) rfl (fun ls hl => ?_)
      refine lv_aload_n hx hb dL_law_1379 rfl (lv_at hl 4 rfl) ?_
      refine k_callVi (wr := [(aout, .inl (G.2.2.2.2, 1, .inr (.inl ((fun _ => 0))))), (x0, .inr (11, ofL 17 Fx0)), (x3, .inr (7, ofL 5 Fx3))]) (rest := []) li_L_118 C (c_X12_thrown l G H.size m0 (updV (updV Fm0 0 (.int 0)) 0 (.int 1)) 1 rfl) (kR rfl) hP hD hS [3] [0, 1, 2] rfl rfl rfl rfl (by decide) 0 12 rfl rfl rfl hl.1 rfl (Nat.le_of_ble_eq_true rfl) dL_law_1380 (fun rr17 uu18 H locs hw16 hP hD hS => ?_)
      obtain rfl : rr17 = 1 := hw16
      have hP : va_P G.1 vwCl [(aout, .inl (G.2.2.2.2, 1, .inr (.inl ((fun _ => 0))))), (x0, .inr (11, ofL 17 Fx0)), (x3, .inr (7, ofL 5 Fx3)), (m0, .inr (12, ofL 88 (updV (updV Fm0 0 (.int 0)) 0 (.int 1))))] H := hP
      have hD : va_D A [(aout, .inl (G.2.2.2.2, 1, .inr (.inl ((fun _ => 0))))), (x0, .inr (11, ofL 17 Fx0)), (x3, .inr (7, ofL 5 Fx3)), (m0, .inr (12, ofL 88 (updV (updV Fm0 0 (.int 0)) 0 (.int 1))))] := hD
      refine lv_iload hx hb dL_law_1383 (lv_at hl 1 rfl) ?_
      refine lv_icmp_eq (x := 1) (y := 1) (tgt := 1390) hx hb dL_law_1385 (by decide) (fun c_19 => ?_) (fun c_19 => ?_)
      rotate_left
      · exact absurd (by decide) c_19
      refine lv_iload hx hb dL_law_1390 (lv_at hl 1 rfl) ?_
      refine lv_if_ne (x := 1) (tgt := 1407) hx hb dL_law_1392 (by decide) (fun c_20 => ?_) (fun c_20 => ?_)
      rotate_left
      · exact absurd c_20 (by decide)
      refine lv_goto (tgt := 2265) hx hb dL_law_1407 (by decide) ?_
      exact law_end hst C0 hA C hS (lv_sub hl [2, 6] rfl) (Nat.le_of_ble_eq_true rfl) (Nat.le_of_ble_eq_true rfl)
  ·
    have hP : va_P G.1 vwCl [(m0, .inr (12, ofL 88 Fm0)), (aout, .inl (G.2.2.2.2, 1, .inr (.inl ((fun _ => 0))))), (x0, .inr (11, ofL 17 Fx0)), (x3, .inr (7, ofL 5 Fx3))] H := hP
    have hD : va_D A [(m0, .inr (12, ofL 88 Fm0)), (aout, .inl (G.2.2.2.2, 1, .inr (.inl ((fun _ => 0))))), (x0, .inr (11, ofL 17 Fx0)), (x3, .inr (7, ofL 5 Fx3))] := hD
    refine lv_istore (lv' := [(5, .int 1), (0, .ref b), (1, .ref x0), (2, .ref m0), (3, .ref aout), (4, .int 0)]) hx hb dL_law_1359 hl (by decide) rfl (fun ls hl => ?_)
    refine lv_aload_n hx hb dL_law_1361 rfl (lv_at hl 3 rfl) ?_
    refine lv_aload_n hx hb dL_law_1362 rfl (lv_at hl 1 rfl) ?_
    refine lv_iload hx hb dL_law_1363 (lv_at hl 5 rfl) ?_
    refine lv_iconst (v := 1) hx hb dL_law_1365 (by decide) ?_
    refine lv_iadd hx hb dL_law_1366 ?_
    refine k_eqi (y := 1) (by decide) ?_
    refine va_sld hx hb hX hbl hbA hS (k_in (by decide)) dL_law_1367 ?_
    refine k_eqi (y := v1) hv1 ?_
    refine lv_aload_n hx hb dL_law_1368 rfl (lv_at hl 1 rfl) ?_
    refine lv_iload hx hb dL_law_1369 (lv_at hl 5 rfl) ?_
    refine lv_iconst (v := 2) hx hb dL_law_1371 (by decide) ?_
    refine lv_iadd hx hb dL_law_1372 ?_
    refine k_eqi (y := 2) (by decide) ?_
    refine va_sld hx hb hX hbl hbA hS (k_in (by decide)) dL_law_1373 ?_
    refine k_eqi (y := v2) hv2 ?_
    refine k_callVi (wr := [(aout, .inl (G.2.2.2.2, 1, .inr (.inl ((fun _ => 0))))), (x0, .inr (11, ofL 17 Fx0)), (x3, .inr (7, ofL 5 Fx3))]) (rest := []) li_L_181 C (c_X12_limit l G H.size m0 v1 v2 Fm0 e_m0_1) (kR rfl) hP hD hS [0] [1, 2, 3] rfl rfl rfl rfl (by decide) 0 12 rfl rfl rfl hl.1 rfl (Nat.le_of_ble_eq_true rfl) dL_law_1374 (fun rr22 uu23 H locs hw21 hP hD hS => ?_)
    rcases hw21 with ⟨rfl, rfl, c_24⟩ | ⟨rfl, rfl, c_25⟩
    ·
      have hP : va_P G.1 vwCl [(aout, .inl (G.2.2.2.2, 1, .inr (.inl ((fun _ => 0))))), (x0, .inr (11, ofL 17 Fx0)), (x3, .inr (7, ofL 5 Fx3)), (m0, .inr (12, ofL 88 (updV (updV Fm0 0 (.int 0)) 0 (.int 1))))] H := hP
      have hD : va_D A [(aout, .inl (G.2.2.2.2, 1, .inr (.inl ((fun _ => 0))))), (x0, .inr (11, ofL 17 Fx0)), (x3, .inr (7, ofL 5 Fx3)), (m0, .inr (12, ofL 88 (updV (updV Fm0 0 (.int 0)) 0 (.int 1))))] := hD
      refine lv_istore (lv' := [(6, .int 0), (5, .int 1), (0, .ref b), (1, .ref x0), (2, .ref m0), (3, .ref aout), (4, .int 0)]) hx hb dL_law_1377 hl (by decide) rfl (fun ls hl => ?_)
      refine lv_aload_n hx hb dL_law_1379 rfl (lv_at hl 4 rfl) ?_
      refine k_callVi (wr := [(aout, .inl (G.2.2.2.2, 1, .inr (.inl ((fun _ => 0))))), (x0, .inr (11, ofL 17 Fx0)), (x3, .inr (7, ofL 5 Fx3))]) (rest := []) li_L_118 C (c_X12_thrown l G H.size m0 (updV (updV Fm0 0 (.int 0)) 0 (.int 1)) 1 rfl) (kR rfl) hP hD hS [3] [0, 1, 2] rfl rfl rfl rfl (by decide) 0 12 rfl rfl rfl hl.1 rfl (Nat.le_of_ble_eq_true rfl) dL_law_1380 (fun rr27 uu28 H locs hw26 hP hD hS => ?_)
      obtain rfl : rr27 = 1 := hw26
      have hP : va_P G.1 vwCl [(aout, .inl (G.2.2.2.2, 1, .inr (.inl ((fun _ => 0))))), (x0, .inr (11, ofL 17 Fx0)), (x3, .inr (7, ofL 5 Fx3)), (m0, .inr (12, ofL 88 (updV (updV Fm0 0 (.int 0)) 0 (.int 1))))] H := hP
      have hD : va_D A [(aout, .inl (G.2.2.2.2, 1, .inr (.inl ((fun _ => 0))))), (x0, .inr (11, ofL 17 Fx0)), (x3, .inr (7, ofL 5 Fx3)), (m0, .inr (12, ofL 88 (updV (updV Fm0 0 (.int 0)) 0 (.int 1))))] := hD
      refine lv_iload hx hb dL_law_1383 (lv_at hl 1 rfl) ?_
      refine lv_icmp_eq (x := 1) (y := 1) (tgt := 1390) hx hb dL_law_1385 (by decide) (fun c_29 => ?_) (fun c_29 => ?_)
      rotate_left
      · exact absurd (by decide) c_29
      refine lv_iload hx hb dL_law_1390 (lv_at hl 1 rfl) ?_
      refine lv_if_ne (x := 1) (tgt := 1407) hx hb dL_law_1392 (by decide) (fun c_30 => ?_) (fun c_30 => ?_)
      rotate_left
      · exact absurd c_30 (by decide)
      refine lv_goto (tgt := 2265) hx hb dL_law_1407 (by decide) ?_
      exact law_end hst C0 hA C hS (lv_sub hl [2, 6] rfl) (Nat.le_of_ble_eq_true rfl) (Nat.le_of_ble_eq_true rfl)
    ·
      have hP : va_P G.1 vwCl [(aout, .inl (G.2.2.2.2, 1, .inr (.inl ((fun _ => 0))))), (x0, .inr (11, ofL 17 Fx0)), (x3, .inr (7, ofL 5 Fx3)), (m0, .inr (12, ofL 88 (updV (updV Fm0 0 (.int 0)) 0 (.int 1))))] H := hP
      have hD : va_D A [(aout, .inl (G.2.2.2.2, 1, .inr (.inl ((fun _ => 0))))), (x0, .inr (11, ofL 17 Fx0)), (x3, .inr (7, ofL 5 Fx3)), (m0, .inr (12, ofL 88 (updV (updV Fm0 0 (.int 0)) 0 (.int 1))))] := hD
      refine lv_istore (lv' := [(6, .int 0), (5, .int 1), (0, .ref b), (1, .ref x0), (2, .ref m0), (3, .ref aout), (4, .int 0)]) hx hb dL_law_1377 hl (by decide) rfl (fun ls hl => ?_)
      refine lv_aload_n hx hb dL_law_1379 rfl (lv_at hl 4 rfl) ?_
      refine k_callVi (wr := [(aout, .inl (G.2.2.2.2, 1, .inr (.inl ((fun _ => 0))))), (x0, .inr (11, ofL 17 Fx0)), (x3, .inr (7, ofL 5 Fx3))]) (rest := []) li_L_118 C (c_X12_thrown l G H.size m0 (updV (updV Fm0 0 (.int 0)) 0 (.int 1)) 1 rfl) (kR rfl) hP hD hS [3] [0, 1, 2] rfl rfl rfl rfl (by decide) 0 12 rfl rfl rfl hl.1 rfl (Nat.le_of_ble_eq_true rfl) dL_law_1380 (fun rr32 uu33 H locs hw31 hP hD hS => ?_)
      obtain rfl : rr32 = 1 := hw31
      have hP : va_P G.1 vwCl [(aout, .inl (G.2.2.2.2, 1, .inr (.inl ((fun _ => 0))))), (x0, .inr (11, ofL 17 Fx0)), (x3, .inr (7, ofL 5 Fx3)), (m0, .inr (12, ofL 88 (updV (updV Fm0 0 (.int 0)) 0 (.int 1))))] H := hP
      have hD : va_D A [(aout, .inl (G.2.2.2.2, 1, .inr (.inl ((fun _ => 0))))), (x0, .inr (11, ofL 17 Fx0)), (x3, .inr (7, ofL 5 Fx3)), (m0, .inr (12, ofL 88 (updV (updV Fm0 0 (.int 0)) 0 (.int 1))))] := hD
      refine lv_iload hx hb dL_law_1383 (lv_at hl 1 rfl) ?_
      refine lv_icmp_eq (x := 1) (y := 1) (tgt := 1390) hx hb dL_law_1385 (by decide) (fun c_34 => ?_) (fun c_34 => ?_)
      rotate_left
      · exact absurd (by decide) c_34
      refine lv_iload hx hb dL_law_1390 (lv_at hl 1 rfl) ?_
      refine lv_if_ne (x := 1) (tgt := 1407) hx hb dL_law_1392 (by decide) (fun c_35 => ?_) (fun c_35 => ?_)
      rotate_left
      · exact absurd c_35 (by decide)
      refine lv_goto (tgt := 2265) hx hb dL_law_1407 (by decide) ?_
      exact law_end hst C0 hA C hS (lv_sub hl [2, 6] rfl) (Nat.le_of_ble_eq_true rfl) (Nat.le_of_ble_eq_true rfl)
set_option maxHeartbeats 4000000 in
set_option maxRecDepth 100000 in
theorem law_20 {p : Program} {e : Env} {s : State} {m : MethodId} {below : List Frame} {meth : Method} {c : Code} {l : Launch} (hst : l.stackTraces = false) {b : Nat} {xs : Nat → Int32} {G : kG} {A : Nat → Prop} (C0 : lw_At p s m meth c b 6 xs) (hA : A = fun q : Nat => s.heap.size ≤ q) (C : kC G p s m c cL_law 8 RL A) {v1 : Int32} (hv1 : xs 1 = v1) {v2 : Int32} (hv2 : xs 2 = v2) {v3 : Int32} (hv3 : xs 3 = v3) {v4 : Int32} (hv4 : xs 4 = v4) {v5 : Int32} (hv5 : xs 5 = v5) {x0 : Nat} {Fx0 : Nat → Value} {x28 : Nat} {x3 : Nat} {Fx3 : Nat → Value} {Fx28 : Nat → Value} {x31 : Nat} {x29 : Nat} {Fx29 : Nat → Value} {Fx31 : Nat → Value} {m0 : Nat} {Fm0 : Nat → Value} {aout : Nat} (e_x0_9 : Fx0 9 = .ref x28) (e_x3_2 : Fx3 2 = .int 0) (e_x28_0 : Fx28 0 = .ref x31) (e_x28_2 : Fx28 2 = .ref x29) (e_x31_7 : Fx31 7 = .ref x3) (e_m0_1 : Fm0 1 = .int 0) {H : Heap} {locs : List Loc} {ls : Array Slot} (hP : va_P G.1 vwCl [(x0, .inr (11, ofL 17 Fx0)), (x3, .inr (7, ofL 5 Fx3)), (x28, .inr (10, ofL 7 Fx28)), (x29, .inr (4, ofL 3 Fx29)), (x31, .inr (1, ofL 10 Fx31)), (m0, .inr (12, ofL 88 Fm0))] H) (hD : va_D A [(x0, .inr (11, ofL 17 Fx0)), (x3, .inr (7, ofL 5 Fx3)), (x28, .inr (10, ofL 7 Fx28)), (x29, .inr (4, ofL 3 Fx29)), (x31, .inr (1, ofL 10 Fx31)), (m0, .inr (12, ofL 88 Fm0))]) (hS : va_S A s.heap H locs) (hl : lv_has ls 8 [(0, .ref b), (1, .ref x0), (2, .ref m0), (3, .ref aout), (4, .int 0)]) :
    W p l e room_1 s m #[Value.ref b] below meth c H locs 1000 20000 (lw_Z below #[Value.ref b] s) (F0 m 1410 ls []) := by
  obtain ⟨hx, hb, hr, -, -, -, hX, hbl, hlocks, -⟩ := id C0
  have hbA : ¬ A b := by rw [hA]; exact Nat.not_le.mpr hbl
  refine lv_aload_n hx hb dL_law_1410 rfl (lv_at hl 1 rfl) ?_
  refine k_callVi (wr := [(m0, .inr (12, ofL 88 Fm0))]) (rest := []) li_L_182 C (c_X11_last l G H.size x0 Fx0 x28 Fx28 x31 x29 Fx31 x3 Fx3 Fx29 e_x0_9 e_x28_0 e_x28_2 e_x31_7 e_x3_2) (kR rfl) hP hD hS [0, 2, 4, 1, 3] [5] rfl rfl rfl rfl (by decide) 0 11 rfl rfl rfl hl.1 rfl (Nat.le_of_ble_eq_true rfl) dL_law_1411 (fun rr2 uu3 H locs hw1 hP hD hS => ?_)
  obtain rfl : rr2 = -1 := hw1
  have hP : va_P G.1 vwCl [(m0, .inr (12, ofL 88 Fm0)), (x0, .inr (11, ofL 17 Fx0)), (x28, .inr (10, ofL 7 Fx28)), (x31, .inr (1, ofL 10 Fx31)), (x3, .inr (7, ofL 5 Fx3)), (x29, .inr (4, ofL 3 (updV Fx29 0 (.int 0))))] H := hP
  have hD : va_D A [(m0, .inr (12, ofL 88 Fm0)), (x0, .inr (11, ofL 17 Fx0)), (x28, .inr (10, ofL 7 Fx28)), (x31, .inr (1, ofL 10 Fx31)), (x3, .inr (7, ofL 5 Fx3)), (x29, .inr (4, ofL 3 (updV Fx29 0 (.int 0))))] := hD
  refine lv_aload_n hx hb dL_law_1414 rfl (lv_at hl 2 rfl) ?_
  refine k_callVi (wr := [(x0, .inr (11, ofL 17 Fx0)), (x28, .inr (10, ofL 7 Fx28)), (x31, .inr (1, ofL 10 Fx31)), (x3, .inr (7, ofL 5 Fx3)), (x29, .inr (4, ofL 3 (updV Fx29 0 (.int 0))))]) (rest := [.int (-1)]) li_L_185 C (c_X12_last l G H.size m0 Fm0 e_m0_1) (kR rfl) hP hD hS [0] [1, 2, 3, 4, 5] rfl rfl rfl rfl (by decide) 0 12 rfl rfl rfl hl.1 rfl (Nat.le_of_ble_eq_true rfl) dL_law_1415 (fun rr5 uu6 H locs hw4 hP hD hS => ?_)
  obtain rfl : rr5 = -1 := hw4
  have hP : va_P G.1 vwCl [(x0, .inr (11, ofL 17 Fx0)), (x28, .inr (10, ofL 7 Fx28)), (x31, .inr (1, ofL 10 Fx31)), (x3, .inr (7, ofL 5 Fx3)), (x29, .inr (4, ofL 3 (updV Fx29 0 (.int 0)))), (m0, .inr (12, ofL 88 (updV Fm0 0 (.int 0))))] H := hP
  have hD : va_D A [(x0, .inr (11, ofL 17 Fx0)), (x28, .inr (10, ofL 7 Fx28)), (x31, .inr (1, ofL 10 Fx31)), (x3, .inr (7, ofL 5 Fx3)), (x29, .inr (4, ofL 3 (updV Fx29 0 (.int 0)))), (m0, .inr (12, ofL 88 (updV Fm0 0 (.int 0))))] := hD
  refine lv_icmp_eq (x := -1) (y := -1) (tgt := 2265) hx hb dL_law_1418 (by decide) (fun c_7 => ?_) (fun c_7 => ?_)
  rotate_left
  · exact absurd (by decide) c_7
  exact law_end hst C0 hA C hS (lv_sub hl [0, 4] rfl) (Nat.le_of_ble_eq_true rfl) (Nat.le_of_ble_eq_true rfl)
set_option maxHeartbeats 4000000 in
set_option maxRecDepth 100000 in
theorem law_21 {p : Program} {e : Env} {s : State} {m : MethodId} {below : List Frame} {meth : Method} {c : Code} {l : Launch} (hst : l.stackTraces = false) {b : Nat} {xs : Nat → Int32} {G : kG} {A : Nat → Prop} (C0 : lw_At p s m meth c b 6 xs) (hA : A = fun q : Nat => s.heap.size ≤ q) (C : kC G p s m c cL_law 8 RL A) {v1 : Int32} (hv1 : xs 1 = v1) {v2 : Int32} (hv2 : xs 2 = v2) {v3 : Int32} (hv3 : xs 3 = v3) {v4 : Int32} (hv4 : xs 4 = v4) {v5 : Int32} (hv5 : xs 5 = v5) {x0 : Nat} {Fx0 : Nat → Value} {x3 : Nat} {x28 : Nat} {Fx3 : Nat → Value} {x4 : Nat} {Fx4 : Nat → Value} {x8 : Nat} {Fx8 : Nat → Value} {Fx28 : Nat → Value} {x31 : Nat} {x29 : Nat} {Fx29 : Nat → Value} {Fx31 : Nat → Value} {m0 : Nat} {Fm0 : Nat → Value} {aout : Nat} (e_x0_3 : Fx0 3 = .ref x3) (e_x0_9 : Fx0 9 = .ref x28) (e_x3_1 : Fx3 1 = .ref x4) (e_x3_2 : Fx3 2 = .int 0) (e_x4_3 : Fx4 3 = .int 0) (e_x8_11 : Fx8 11 = .int (-1)) (e_x28_0 : Fx28 0 = .ref x31) (e_x28_1 : Fx28 1 = .ref x8) (e_x28_2 : Fx28 2 = .ref x29) (e_x31_7 : Fx31 7 = .ref x3) (e_m0_1 : Fm0 1 = .int 0) (e_m0_2 : Fm0 2 = .int 0) (e_m0_52 : Fm0 52 = .int (-1)) {H : Heap} {locs : List Loc} {ls : Array Slot} (hP : va_P G.1 vwCl [(x0, .inr (11, ofL 17 Fx0)), (x3, .inr (7, ofL 5 Fx3)), (x4, .inr (8, ofL 5 Fx4)), (x8, .inr (3, ofL 12 Fx8)), (x28, .inr (10, ofL 7 Fx28)), (x29, .inr (4, ofL 3 Fx29)), (x31, .inr (1, ofL 10 Fx31)), (m0, .inr (12, ofL 88 Fm0)), (aout, .inl (G.2.2.2.2, 1, .inr (.inl (fun _ => 0))))] H) (hD : va_D A [(x0, .inr (11, ofL 17 Fx0)), (x3, .inr (7, ofL 5 Fx3)), (x4, .inr (8, ofL 5 Fx4)), (x8, .inr (3, ofL 12 Fx8)), (x28, .inr (10, ofL 7 Fx28)), (x29, .inr (4, ofL 3 Fx29)), (x31, .inr (1, ofL 10 Fx31)), (m0, .inr (12, ofL 88 Fm0)), (aout, .inl (G.2.2.2.2, 1, .inr (.inl (fun _ => 0))))]) (hS : va_S A s.heap H locs) (hl : lv_has ls 8 [(0, .ref b), (1, .ref x0), (2, .ref m0), (3, .ref aout), (4, .int 0)]) :
    W p l e room_1 s m #[Value.ref b] below meth c H locs 1000 20000 (lw_Z below #[Value.ref b] s) (F0 m 1423 ls []) := by
  obtain ⟨hx, hb, hr, -, -, -, hX, hbl, hlocks, -⟩ := id C0
  have hbA : ¬ A b := by rw [hA]; exact Nat.not_le.mpr hbl
  refine lv_aload_n hx hb dL_law_1423 rfl (lv_at hl 1 rfl) ?_
  refine lv_aload_n hx hb dL_law_1424 rfl (lv_at hl 0 rfl) ?_
  refine lv_iload hx hb dL_law_1425 (lv_at hl 4 rfl) ?_
  refine lv_iconst (v := 1) hx hb dL_law_1427 (by decide) ?_
  refine lv_iadd hx hb dL_law_1428 ?_
  refine k_eqi (y := 1) (by decide) ?_
  refine va_sld hx hb hX hbl hbA hS (k_in (by decide)) dL_law_1429 ?_
  refine k_eqi (y := v1) hv1 ?_
  refine lv_aload_n hx hb dL_law_1430 rfl (lv_at hl 3 rfl) ?_
  refine k_callHi (wr := [(m0, .inr (12, ofL 88 Fm0))]) (rest := []) li_L_186 C (c_L_compare l hst G H.size x0 v1 aout Fx0 x3 x28 Fx28 x31 x8 x29 Fx31 Fx3 x4 Fx8 (-1) Fx29 Fx4 (fun _ => 0) e_x0_3 e_x0_9 e_x28_0 e_x28_1 e_x28_2 e_x31_7 e_x3_1 e_x3_2 e_x8_11 e_x4_3) (kR rfl) hP hD hS [0, 4, 6, 1, 3, 5, 2, 8] [7] rfl rfl rfl rfl (by decide) rfl hl.1 rfl (Nat.le_of_ble_eq_true rfl) dL_law_1431 (fun rr2 uu3 H locs hw1 hP hD hS => ?_)
  rcases hw1 with ⟨rfl, rfl, c_4⟩ | ⟨rfl, rfl, c_5, c_6⟩ | ⟨rfl, rfl, c_7, c_8⟩
  ·
    have hP : va_P G.1 vwCl [(m0, .inr (12, ofL 88 Fm0)), (aout, .inl (G.2.2.2.2, 1, .inr (.inl ((fun _ => 0))))), (x28, .inr (10, ofL 7 Fx28)), (x31, .inr (1, ofL 10 Fx31)), (x8, .inr (3, ofL 12 Fx8)), (x29, .inr (4, ofL 3 Fx29)), (x0, .inr (11, ofL 17 Fx0)), (x3, .inr (7, ofL 5 Fx3)), (x4, .inr (8, ofL 5 Fx4))] H := hP
    have hD : va_D A [(m0, .inr (12, ofL 88 Fm0)), (aout, .inl (G.2.2.2.2, 1, .inr (.inl ((fun _ => 0))))), (x28, .inr (10, ofL 7 Fx28)), (x31, .inr (1, ofL 10 Fx31)), (x8, .inr (3, ofL 12 Fx8)), (x29, .inr (4, ofL 3 Fx29)), (x0, .inr (11, ofL 17 Fx0)), (x3, .inr (7, ofL 5 Fx3)), (x4, .inr (8, ofL 5 Fx4))] := hD
    refine lv_istore (lv' := [(5, .int 1), (0, .ref b), (1, .ref x0), (2, .ref m0), (3, .ref aout), (4, .int 0)]) hx hb dL_law_1434 hl (by decide) rfl (fun ls hl => ?_)
    refine lv_aload_n hx hb dL_law_1436 rfl (lv_at hl 3 rfl) ?_
    refine lv_aload_n hx hb dL_law_1437 rfl (lv_at hl 1 rfl) ?_
    refine lv_iload hx hb dL_law_1438 (lv_at hl 5 rfl) ?_
    refine lv_iconst (v := 1) hx hb dL_law_1440 (by decide) ?_
    refine lv_iadd hx hb dL_law_1441 ?_
    refine k_eqi (y := 1) (by decide) ?_
    refine va_sld hx hb hX hbl hbA hS (k_in (by decide)) dL_law_1442 ?_
    refine k_eqi (y := v1) hv1 ?_
    refine k_callVi (wr := [(aout, .inl (G.2.2.2.2, 1, .inr (.inl ((fun _ => 0))))), (x28, .inr (10, ofL 7 Fx28)), (x31, .inr (1, ofL 10 Fx31)), (x8, .inr (3, ofL 12 Fx8)), (x29, .inr (4, ofL 3 Fx29)), (x0, .inr (11, ofL 17 Fx0)), (x3, .inr (7, ofL 5 Fx3)), (x4, .inr (8, ofL 5 Fx4))]) (rest := []) li_L_188 C (c_X12_compare l G H.size m0 v1 Fm0 (-1) e_m0_1 e_m0_2 e_m0_52) (kR rfl) hP hD hS [0] [1, 2, 3, 4, 5, 6, 7, 8] rfl rfl rfl rfl (by decide) 0 12 rfl rfl rfl hl.1 rfl (Nat.le_of_ble_eq_true rfl) dL_law_1443 (fun rr10 uu11 H locs hw9 hP hD hS => ?_)
    rcases hw9 with ⟨rfl, rfl, c_12⟩ | ⟨rfl, rfl, c_13, c_14⟩ | ⟨rfl, rfl, c_15, c_16⟩
    ·
      have hP : va_P G.1 vwCl [(aout, .inl (G.2.2.2.2, 1, .inr (.inl ((fun _ => 0))))), (x28, .inr (10, ofL 7 Fx28)), (x31, .inr (1, ofL 10 Fx31)), (x8, .inr (3, ofL 12 Fx8)), (x29, .inr (4, ofL 3 Fx29)), (x0, .inr (11, ofL 17 Fx0)), (x3, .inr (7, ofL 5 Fx3)), (x4, .inr (8, ofL 5 Fx4)), (m0, .inr (12, ofL 88 (updV (updV Fm0 0 (.int 0)) 0 (.int 1))))] H := hP
      have hD : va_D A [(aout, .inl (G.2.2.2.2, 1, .inr (.inl ((fun _ => 0))))), (x28, .inr (10, ofL 7 Fx28)), (x31, .inr (1, ofL 10 Fx31)), (x8, .inr (3, ofL 12 Fx8)), (x29, .inr (4, ofL 3 Fx29)), (x0, .inr (11, ofL 17 Fx0)), (x3, .inr (7, ofL 5 Fx3)), (x4, .inr (8, ofL 5 Fx4)), (m0, .inr (12, ofL 88 (updV (updV Fm0 0 (.int 0)) 0 (.int 1))))] := hD
      refine lv_istore (lv' := [(6, .int 0), (5, .int 1), (0, .ref b), (1, .ref x0), (2, .ref m0), (3, .ref aout), (4, .int 0)]) hx hb dL_law_1446 hl (by decide) rfl (fun ls hl => ?_)
      refine lv_aload_n hx hb dL_law_1448 rfl (lv_at hl 4 rfl) ?_
      refine k_callVi (wr := [(aout, .inl (G.2.2.2.2, 1, .inr (.inl ((fun _ => 0))))), (x28, .inr (10, ofL 7 Fx28)), (x31, .inr (1, ofL 10 Fx31)), (x8, .inr (3, ofL 12 Fx8)), (x29, .inr (4, ofL 3 Fx29)), (x0, .inr (11, ofL 17 Fx0)), (x3, .inr (7, ofL 5 Fx3)), (x4, .inr (8, ofL 5 Fx4))]) (rest := []) li_L_118 C (c_X12_thrown l G H.size m0 (updV (updV Fm0 0 (.int 0)) 0 (.int 1)) 1 rfl) (kR rfl) hP hD hS [8] [0, 1, 2, 3, 4, 5, 6, 7] rfl rfl rfl rfl (by decide) 0 12 rfl rfl rfl hl.1 rfl (Nat.le_of_ble_eq_true rfl) dL_law_1449 (fun rr18 uu19 H locs hw17 hP hD hS => ?_)
      obtain rfl : rr18 = 1 := hw17
      have hP : va_P G.1 vwCl [(aout, .inl (G.2.2.2.2, 1, .inr (.inl ((fun _ => 0))))), (x28, .inr (10, ofL 7 Fx28)), (x31, .inr (1, ofL 10 Fx31)), (x8, .inr (3, ofL 12 Fx8)), (x29, .inr (4, ofL 3 Fx29)), (x0, .inr (11, ofL 17 Fx0)), (x3, .inr (7, ofL 5 Fx3)), (x4, .inr (8, ofL 5 Fx4)), (m0, .inr (12, ofL 88 (updV (updV Fm0 0 (.int 0)) 0 (.int 1))))] H := hP
      have hD : va_D A [(aout, .inl (G.2.2.2.2, 1, .inr (.inl ((fun _ => 0))))), (x28, .inr (10, ofL 7 Fx28)), (x31, .inr (1, ofL 10 Fx31)), (x8, .inr (3, ofL 12 Fx8)), (x29, .inr (4, ofL 3 Fx29)), (x0, .inr (11, ofL 17 Fx0)), (x3, .inr (7, ofL 5 Fx3)), (x4, .inr (8, ofL 5 Fx4)), (m0, .inr (12, ofL 88 (updV (updV Fm0 0 (.int 0)) 0 (.int 1))))] := hD
      refine lv_iload hx hb dL_law_1452 (lv_at hl 1 rfl) ?_
      refine lv_icmp_eq (x := 1) (y := 1) (tgt := 1459) hx hb dL_law_1454 (by decide) (fun c_20 => ?_) (fun c_20 => ?_)
      rotate_left
      · exact absurd (by decide) c_20
      refine lv_iload hx hb dL_law_1459 (lv_at hl 1 rfl) ?_
      refine lv_if_ne (x := 1) (tgt := 1476) hx hb dL_law_1461 (by decide) (fun c_21 => ?_) (fun c_21 => ?_)
      rotate_left
      · exact absurd c_21 (by decide)
      refine lv_goto (tgt := 2265) hx hb dL_law_1476 (by decide) ?_
      exact law_end hst C0 hA C hS (lv_sub hl [2, 6] rfl) (Nat.le_of_ble_eq_true rfl) (Nat.le_of_ble_eq_true rfl)
    ·
      have hP : va_P G.1 vwCl [(aout, .inl (G.2.2.2.2, 1, .inr (.inl ((fun _ => 0))))), (x28, .inr (10, ofL 7 Fx28)), (x31, .inr (1, ofL 10 Fx31)), (x8, .inr (3, ofL 12 Fx8)), (x29, .inr (4, ofL 3 Fx29)), (x0, .inr (11, ofL 17 Fx0)), (x3, .inr (7, ofL 5 Fx3)), (x4, .inr (8, ofL 5 Fx4)), (m0, .inr (12, ofL 88 (updV (updV Fm0 0 (.int 0)) 0 (.int 1))))] H := hP
      have hD : va_D A [(aout, .inl (G.2.2.2.2, 1, .inr (.inl ((fun _ => 0))))), (x28, .inr (10, ofL 7 Fx28)), (x31, .inr (1, ofL 10 Fx31)), (x8, .inr (3, ofL 12 Fx8)), (x29, .inr (4, ofL 3 Fx29)), (x0, .inr (11, ofL 17 Fx0)), (x3, .inr (7, ofL 5 Fx3)), (x4, .inr (8, ofL 5 Fx4)), (m0, .inr (12, ofL 88 (updV (updV Fm0 0 (.int 0)) 0 (.int 1))))] := hD
      refine lv_istore (lv' := [(6, .int 0), (5, .int 1), (0, .ref b), (1, .ref x0), (2, .ref m0), (3, .ref aout), (4, .int 0)]) hx hb dL_law_1446 hl (by decide) rfl (fun ls hl => ?_)
      refine lv_aload_n hx hb dL_law_1448 rfl (lv_at hl 4 rfl) ?_
      refine k_callVi (wr := [(aout, .inl (G.2.2.2.2, 1, .inr (.inl ((fun _ => 0))))), (x28, .inr (10, ofL 7 Fx28)), (x31, .inr (1, ofL 10 Fx31)), (x8, .inr (3, ofL 12 Fx8)), (x29, .inr (4, ofL 3 Fx29)), (x0, .inr (11, ofL 17 Fx0)), (x3, .inr (7, ofL 5 Fx3)), (x4, .inr (8, ofL 5 Fx4))]) (rest := []) li_L_118 C (c_X12_thrown l G H.size m0 (updV (updV Fm0 0 (.int 0)) 0 (.int 1)) 1 rfl) (kR rfl) hP hD hS [8] [0, 1, 2, 3, 4, 5, 6, 7] rfl rfl rfl rfl (by decide) 0 12 rfl rfl rfl hl.1 rfl (Nat.le_of_ble_eq_true rfl) dL_law_1449 (fun rr23 uu24 H locs hw22 hP hD hS => ?_)
      obtain rfl : rr23 = 1 := hw22
      have hP : va_P G.1 vwCl [(aout, .inl (G.2.2.2.2, 1, .inr (.inl ((fun _ => 0))))), (x28, .inr (10, ofL 7 Fx28)), (x31, .inr (1, ofL 10 Fx31)), (x8, .inr (3, ofL 12 Fx8)), (x29, .inr (4, ofL 3 Fx29)), (x0, .inr (11, ofL 17 Fx0)), (x3, .inr (7, ofL 5 Fx3)), (x4, .inr (8, ofL 5 Fx4)), (m0, .inr (12, ofL 88 (updV (updV Fm0 0 (.int 0)) 0 (.int 1))))] H := hP
      have hD : va_D A [(aout, .inl (G.2.2.2.2, 1, .inr (.inl ((fun _ => 0))))), (x28, .inr (10, ofL 7 Fx28)), (x31, .inr (1, ofL 10 Fx31)), (x8, .inr (3, ofL 12 Fx8)), (x29, .inr (4, ofL 3 Fx29)), (x0, .inr (11, ofL 17 Fx0)), (x3, .inr (7, ofL 5 Fx3)), (x4, .inr (8, ofL 5 Fx4)), (m0, .inr (12, ofL 88 (updV (updV Fm0 0 (.int 0)) 0 (.int 1))))] := hD
      refine lv_iload hx hb dL_law_1452 (lv_at hl 1 rfl) ?_
      refine lv_icmp_eq (x := 1) (y := 1) (tgt := 1459) hx hb dL_law_1454 (by decide) (fun c_25 => ?_) (fun c_25 => ?_)
      rotate_left
      · exact absurd (by decide) c_25
      refine lv_iload hx hb dL_law_1459 (lv_at hl 1 rfl) ?_
      refine lv_if_ne (x := 1) (tgt := 1476) hx hb dL_law_1461 (by decide) (fun c_26 => ?_) (fun c_26 => ?_)
      rotate_left
      · exact absurd c_26 (by decide)
      refine lv_goto (tgt := 2265) hx hb dL_law_1476 (by decide) ?_
      exact law_end hst C0 hA C hS (lv_sub hl [2, 6] rfl) (Nat.le_of_ble_eq_true rfl) (Nat.le_of_ble_eq_true rfl)
    ·
      have hP : va_P G.1 vwCl [(aout, .inl (G.2.2.2.2, 1, .inr (.inl ((fun _ => 0))))), (x28, .inr (10, ofL 7 Fx28)), (x31, .inr (1, ofL 10 Fx31)), (x8, .inr (3, ofL 12 Fx8)), (x29, .inr (4, ofL 3 Fx29)), (x0, .inr (11, ofL 17 Fx0)), (x3, .inr (7, ofL 5 Fx3)), (x4, .inr (8, ofL 5 Fx4)), (m0, .inr (12, ofL 88 (updV (updV (updV Fm0 0 (.int 0)) 52 (.int v1)) 52 (.int (-1)))))] H := hP
      have hD : va_D A [(aout, .inl (G.2.2.2.2, 1, .inr (.inl ((fun _ => 0))))), (x28, .inr (10, ofL 7 Fx28)), (x31, .inr (1, ofL 10 Fx31)), (x8, .inr (3, ofL 12 Fx8)), (x29, .inr (4, ofL 3 Fx29)), (x0, .inr (11, ofL 17 Fx0)), (x3, .inr (7, ofL 5 Fx3)), (x4, .inr (8, ofL 5 Fx4)), (m0, .inr (12, ofL 88 (updV (updV (updV Fm0 0 (.int 0)) 52 (.int v1)) 52 (.int (-1)))))] := hD
      refine lv_istore (lv' := [(6, .int 0), (5, .int 1), (0, .ref b), (1, .ref x0), (2, .ref m0), (3, .ref aout), (4, .int 0)]) hx hb dL_law_1446 hl (by decide) rfl (fun ls hl => ?_)
      refine lv_aload_n hx hb dL_law_1448 rfl (lv_at hl 4 rfl) ?_
      refine k_callVi (wr := [(aout, .inl (G.2.2.2.2, 1, .inr (.inl ((fun _ => 0))))), (x28, .inr (10, ofL 7 Fx28)), (x31, .inr (1, ofL 10 Fx31)), (x8, .inr (3, ofL 12 Fx8)), (x29, .inr (4, ofL 3 Fx29)), (x0, .inr (11, ofL 17 Fx0)), (x3, .inr (7, ofL 5 Fx3)), (x4, .inr (8, ofL 5 Fx4))]) (rest := []) li_L_118 C (c_X12_thrown l G H.size m0 (updV (updV (updV Fm0 0 (.int 0)) 52 (.int v1)) 52 (.int (-1))) 0 rfl) (kR rfl) hP hD hS [8] [0, 1, 2, 3, 4, 5, 6, 7] rfl rfl rfl rfl (by decide) 0 12 rfl rfl rfl hl.1 rfl (Nat.le_of_ble_eq_true rfl) dL_law_1449 (fun rr28 uu29 H locs hw27 hP hD hS => ?_)
      obtain rfl : rr28 = 0 := hw27
      have hP : va_P G.1 vwCl [(aout, .inl (G.2.2.2.2, 1, .inr (.inl ((fun _ => 0))))), (x28, .inr (10, ofL 7 Fx28)), (x31, .inr (1, ofL 10 Fx31)), (x8, .inr (3, ofL 12 Fx8)), (x29, .inr (4, ofL 3 Fx29)), (x0, .inr (11, ofL 17 Fx0)), (x3, .inr (7, ofL 5 Fx3)), (x4, .inr (8, ofL 5 Fx4)), (m0, .inr (12, ofL 88 (updV (updV (updV Fm0 0 (.int 0)) 52 (.int v1)) 52 (.int (-1)))))] H := hP
      have hD : va_D A [(aout, .inl (G.2.2.2.2, 1, .inr (.inl ((fun _ => 0))))), (x28, .inr (10, ofL 7 Fx28)), (x31, .inr (1, ofL 10 Fx31)), (x8, .inr (3, ofL 12 Fx8)), (x29, .inr (4, ofL 3 Fx29)), (x0, .inr (11, ofL 17 Fx0)), (x3, .inr (7, ofL 5 Fx3)), (x4, .inr (8, ofL 5 Fx4)), (m0, .inr (12, ofL 88 (updV (updV (updV Fm0 0 (.int 0)) 52 (.int v1)) 52 (.int (-1)))))] := hD
      refine lv_iload hx hb dL_law_1452 (lv_at hl 1 rfl) ?_
      refine lv_icmp_eq (x := 0) (y := 1) (tgt := 1459) hx hb dL_law_1454 (by decide) (fun c_30 => ?_) (fun c_30 => ?_)
      · exact absurd c_30 (by decide)
      refine lv_iconst (v := 0) hx hb dL_law_1457 (by decide) ?_
      exfalso
      have e9_m1 : (-1 : Int32).toInt = -1 := by decide
      have e9_0 : (0 : Int32).toInt = 0 := by decide
      simp only [Int32.lt_iff_toInt_lt, Int32.le_iff_toInt_le] at c_4 c_15 c_16
      omega
  ·
    have hP : va_P G.1 vwCl [(m0, .inr (12, ofL 88 Fm0)), (aout, .inl (G.2.2.2.2, 1, .inr (.inl ((fun _ => 0))))), (x28, .inr (10, ofL 7 Fx28)), (x31, .inr (1, ofL 10 Fx31)), (x8, .inr (3, ofL 12 Fx8)), (x29, .inr (4, ofL 3 Fx29)), (x0, .inr (11, ofL 17 Fx0)), (x3, .inr (7, ofL 5 Fx3)), (x4, .inr (8, ofL 5 Fx4))] H := hP
    have hD : va_D A [(m0, .inr (12, ofL 88 Fm0)), (aout, .inl (G.2.2.2.2, 1, .inr (.inl ((fun _ => 0))))), (x28, .inr (10, ofL 7 Fx28)), (x31, .inr (1, ofL 10 Fx31)), (x8, .inr (3, ofL 12 Fx8)), (x29, .inr (4, ofL 3 Fx29)), (x0, .inr (11, ofL 17 Fx0)), (x3, .inr (7, ofL 5 Fx3)), (x4, .inr (8, ofL 5 Fx4))] := hD
    refine lv_istore (lv' := [(5, .int 1), (0, .ref b), (1, .ref x0), (2, .ref m0), (3, .ref aout), (4, .int 0)]) hx hb dL_law_1434 hl (by decide) rfl (fun ls hl => ?_)
    refine lv_aload_n hx hb dL_law_1436 rfl (lv_at hl 3 rfl) ?_
    refine lv_aload_n hx hb dL_law_1437 rfl (lv_at hl 1 rfl) ?_
    refine lv_iload hx hb dL_law_1438 (lv_at hl 5 rfl) ?_
    refine lv_iconst (v := 1) hx hb dL_law_1440 (by decide) ?_
    refine lv_iadd hx hb dL_law_1441 ?_
    refine k_eqi (y := 1) (by decide) ?_
    refine va_sld hx hb hX hbl hbA hS (k_in (by decide)) dL_law_1442 ?_
    refine k_eqi (y := v1) hv1 ?_
    refine k_callVi (wr := [(aout, .inl (G.2.2.2.2, 1, .inr (.inl ((fun _ => 0))))), (x28, .inr (10, ofL 7 Fx28)), (x31, .inr (1, ofL 10 Fx31)), (x8, .inr (3, ofL 12 Fx8)), (x29, .inr (4, ofL 3 Fx29)), (x0, .inr (11, ofL 17 Fx0)), (x3, .inr (7, ofL 5 Fx3)), (x4, .inr (8, ofL 5 Fx4))]) (rest := []) li_L_188 C (c_X12_compare l G H.size m0 v1 Fm0 (-1) e_m0_1 e_m0_2 e_m0_52) (kR rfl) hP hD hS [0] [1, 2, 3, 4, 5, 6, 7, 8] rfl rfl rfl rfl (by decide) 0 12 rfl rfl rfl hl.1 rfl (Nat.le_of_ble_eq_true rfl) dL_law_1443 (fun rr32 uu33 H locs hw31 hP hD hS => ?_)
    rcases hw31 with ⟨rfl, rfl, c_34⟩ | ⟨rfl, rfl, c_35, c_36⟩ | ⟨rfl, rfl, c_37, c_38⟩
    ·
      have hP : va_P G.1 vwCl [(aout, .inl (G.2.2.2.2, 1, .inr (.inl ((fun _ => 0))))), (x28, .inr (10, ofL 7 Fx28)), (x31, .inr (1, ofL 10 Fx31)), (x8, .inr (3, ofL 12 Fx8)), (x29, .inr (4, ofL 3 Fx29)), (x0, .inr (11, ofL 17 Fx0)), (x3, .inr (7, ofL 5 Fx3)), (x4, .inr (8, ofL 5 Fx4)), (m0, .inr (12, ofL 88 (updV (updV Fm0 0 (.int 0)) 0 (.int 1))))] H := hP
      have hD : va_D A [(aout, .inl (G.2.2.2.2, 1, .inr (.inl ((fun _ => 0))))), (x28, .inr (10, ofL 7 Fx28)), (x31, .inr (1, ofL 10 Fx31)), (x8, .inr (3, ofL 12 Fx8)), (x29, .inr (4, ofL 3 Fx29)), (x0, .inr (11, ofL 17 Fx0)), (x3, .inr (7, ofL 5 Fx3)), (x4, .inr (8, ofL 5 Fx4)), (m0, .inr (12, ofL 88 (updV (updV Fm0 0 (.int 0)) 0 (.int 1))))] := hD
      refine lv_istore (lv' := [(6, .int 0), (5, .int 1), (0, .ref b), (1, .ref x0), (2, .ref m0), (3, .ref aout), (4, .int 0)]) hx hb dL_law_1446 hl (by decide) rfl (fun ls hl => ?_)
      refine lv_aload_n hx hb dL_law_1448 rfl (lv_at hl 4 rfl) ?_
      refine k_callVi (wr := [(aout, .inl (G.2.2.2.2, 1, .inr (.inl ((fun _ => 0))))), (x28, .inr (10, ofL 7 Fx28)), (x31, .inr (1, ofL 10 Fx31)), (x8, .inr (3, ofL 12 Fx8)), (x29, .inr (4, ofL 3 Fx29)), (x0, .inr (11, ofL 17 Fx0)), (x3, .inr (7, ofL 5 Fx3)), (x4, .inr (8, ofL 5 Fx4))]) (rest := []) li_L_118 C (c_X12_thrown l G H.size m0 (updV (updV Fm0 0 (.int 0)) 0 (.int 1)) 1 rfl) (kR rfl) hP hD hS [8] [0, 1, 2, 3, 4, 5, 6, 7] rfl rfl rfl rfl (by decide) 0 12 rfl rfl rfl hl.1 rfl (Nat.le_of_ble_eq_true rfl) dL_law_1449 (fun rr40 uu41 H locs hw39 hP hD hS => ?_)
      obtain rfl : rr40 = 1 := hw39
      have hP : va_P G.1 vwCl [(aout, .inl (G.2.2.2.2, 1, .inr (.inl ((fun _ => 0))))), (x28, .inr (10, ofL 7 Fx28)), (x31, .inr (1, ofL 10 Fx31)), (x8, .inr (3, ofL 12 Fx8)), (x29, .inr (4, ofL 3 Fx29)), (x0, .inr (11, ofL 17 Fx0)), (x3, .inr (7, ofL 5 Fx3)), (x4, .inr (8, ofL 5 Fx4)), (m0, .inr (12, ofL 88 (updV (updV Fm0 0 (.int 0)) 0 (.int 1))))] H := hP
      have hD : va_D A [(aout, .inl (G.2.2.2.2, 1, .inr (.inl ((fun _ => 0))))), (x28, .inr (10, ofL 7 Fx28)), (x31, .inr (1, ofL 10 Fx31)), (x8, .inr (3, ofL 12 Fx8)), (x29, .inr (4, ofL 3 Fx29)), (x0, .inr (11, ofL 17 Fx0)), (x3, .inr (7, ofL 5 Fx3)), (x4, .inr (8, ofL 5 Fx4)), (m0, .inr (12, ofL 88 (updV (updV Fm0 0 (.int 0)) 0 (.int 1))))] := hD
      refine lv_iload hx hb dL_law_1452 (lv_at hl 1 rfl) ?_
      refine lv_icmp_eq (x := 1) (y := 1) (tgt := 1459) hx hb dL_law_1454 (by decide) (fun c_42 => ?_) (fun c_42 => ?_)
      rotate_left
      · exact absurd (by decide) c_42
      refine lv_iload hx hb dL_law_1459 (lv_at hl 1 rfl) ?_
      refine lv_if_ne (x := 1) (tgt := 1476) hx hb dL_law_1461 (by decide) (fun c_43 => ?_) (fun c_43 => ?_)
      rotate_left
      · exact absurd c_43 (by decide)
      refine lv_goto (tgt := 2265) hx hb dL_law_1476 (by decide) ?_
      exact law_end hst C0 hA C hS (lv_sub hl [2, 6] rfl) (Nat.le_of_ble_eq_true rfl) (Nat.le_of_ble_eq_true rfl)
    ·
      have hP : va_P G.1 vwCl [(aout, .inl (G.2.2.2.2, 1, .inr (.inl ((fun _ => 0))))), (x28, .inr (10, ofL 7 Fx28)), (x31, .inr (1, ofL 10 Fx31)), (x8, .inr (3, ofL 12 Fx8)), (x29, .inr (4, ofL 3 Fx29)), (x0, .inr (11, ofL 17 Fx0)), (x3, .inr (7, ofL 5 Fx3)), (x4, .inr (8, ofL 5 Fx4)), (m0, .inr (12, ofL 88 (updV (updV Fm0 0 (.int 0)) 0 (.int 1))))] H := hP
      have hD : va_D A [(aout, .inl (G.2.2.2.2, 1, .inr (.inl ((fun _ => 0))))), (x28, .inr (10, ofL 7 Fx28)), (x31, .inr (1, ofL 10 Fx31)), (x8, .inr (3, ofL 12 Fx8)), (x29, .inr (4, ofL 3 Fx29)), (x0, .inr (11, ofL 17 Fx0)), (x3, .inr (7, ofL 5 Fx3)), (x4, .inr (8, ofL 5 Fx4)), (m0, .inr (12, ofL 88 (updV (updV Fm0 0 (.int 0)) 0 (.int 1))))] := hD
      refine lv_istore (lv' := [(6, .int 0), (5, .int 1), (0, .ref b), (1, .ref x0), (2, .ref m0), (3, .ref aout), (4, .int 0)]) hx hb dL_law_1446 hl (by decide) rfl (fun ls hl => ?_)
      refine lv_aload_n hx hb dL_law_1448 rfl (lv_at hl 4 rfl) ?_
      refine k_callVi (wr := [(aout, .inl (G.2.2.2.2, 1, .inr (.inl ((fun _ => 0))))), (x28, .inr (10, ofL 7 Fx28)), (x31, .inr (1, ofL 10 Fx31)), (x8, .inr (3, ofL 12 Fx8)), (x29, .inr (4, ofL 3 Fx29)), (x0, .inr (11, ofL 17 Fx0)), (x3, .inr (7, ofL 5 Fx3)), (x4, .inr (8, ofL 5 Fx4))]) (rest := []) li_L_118 C (c_X12_thrown l G H.size m0 (updV (updV Fm0 0 (.int 0)) 0 (.int 1)) 1 rfl) (kR rfl) hP hD hS [8] [0, 1, 2, 3, 4, 5, 6, 7] rfl rfl rfl rfl (by decide) 0 12 rfl rfl rfl hl.1 rfl (Nat.le_of_ble_eq_true rfl) dL_law_1449 (fun rr45 uu46 H locs hw44 hP hD hS => ?_)
      obtain rfl : rr45 = 1 := hw44
      have hP : va_P G.1 vwCl [(aout, .inl (G.2.2.2.2, 1, .inr (.inl ((fun _ => 0))))), (x28, .inr (10, ofL 7 Fx28)), (x31, .inr (1, ofL 10 Fx31)), (x8, .inr (3, ofL 12 Fx8)), (x29, .inr (4, ofL 3 Fx29)), (x0, .inr (11, ofL 17 Fx0)), (x3, .inr (7, ofL 5 Fx3)), (x4, .inr (8, ofL 5 Fx4)), (m0, .inr (12, ofL 88 (updV (updV Fm0 0 (.int 0)) 0 (.int 1))))] H := hP
      have hD : va_D A [(aout, .inl (G.2.2.2.2, 1, .inr (.inl ((fun _ => 0))))), (x28, .inr (10, ofL 7 Fx28)), (x31, .inr (1, ofL 10 Fx31)), (x8, .inr (3, ofL 12 Fx8)), (x29, .inr (4, ofL 3 Fx29)), (x0, .inr (11, ofL 17 Fx0)), (x3, .inr (7, ofL 5 Fx3)), (x4, .inr (8, ofL 5 Fx4)), (m0, .inr (12, ofL 88 (updV (updV Fm0 0 (.int 0)) 0 (.int 1))))] := hD
      refine lv_iload hx hb dL_law_1452 (lv_at hl 1 rfl) ?_
      refine lv_icmp_eq (x := 1) (y := 1) (tgt := 1459) hx hb dL_law_1454 (by decide) (fun c_47 => ?_) (fun c_47 => ?_)
      rotate_left
      · exact absurd (by decide) c_47
      refine lv_iload hx hb dL_law_1459 (lv_at hl 1 rfl) ?_
      refine lv_if_ne (x := 1) (tgt := 1476) hx hb dL_law_1461 (by decide) (fun c_48 => ?_) (fun c_48 => ?_)
      rotate_left
      · exact absurd c_48 (by decide)
      refine lv_goto (tgt := 2265) hx hb dL_law_1476 (by decide) ?_
      exact law_end hst C0 hA C hS (lv_sub hl [2, 6] rfl) (Nat.le_of_ble_eq_true rfl) (Nat.le_of_ble_eq_true rfl)
    ·
      have hP : va_P G.1 vwCl [(aout, .inl (G.2.2.2.2, 1, .inr (.inl ((fun _ => 0))))), (x28, .inr (10, ofL 7 Fx28)), (x31, .inr (1, ofL 10 Fx31)), (x8, .inr (3, ofL 12 Fx8)), (x29, .inr (4, ofL 3 Fx29)), (x0, .inr (11, ofL 17 Fx0)), (x3, .inr (7, ofL 5 Fx3)), (x4, .inr (8, ofL 5 Fx4)), (m0, .inr (12, ofL 88 (updV (updV (updV Fm0 0 (.int 0)) 52 (.int v1)) 52 (.int (-1)))))] H := hP
      have hD : va_D A [(aout, .inl (G.2.2.2.2, 1, .inr (.inl ((fun _ => 0))))), (x28, .inr (10, ofL 7 Fx28)), (x31, .inr (1, ofL 10 Fx31)), (x8, .inr (3, ofL 12 Fx8)), (x29, .inr (4, ofL 3 Fx29)), (x0, .inr (11, ofL 17 Fx0)), (x3, .inr (7, ofL 5 Fx3)), (x4, .inr (8, ofL 5 Fx4)), (m0, .inr (12, ofL 88 (updV (updV (updV Fm0 0 (.int 0)) 52 (.int v1)) 52 (.int (-1)))))] := hD
      refine lv_istore (lv' := [(6, .int 0), (5, .int 1), (0, .ref b), (1, .ref x0), (2, .ref m0), (3, .ref aout), (4, .int 0)]) hx hb dL_law_1446 hl (by decide) rfl (fun ls hl => ?_)
      refine lv_aload_n hx hb dL_law_1448 rfl (lv_at hl 4 rfl) ?_
      refine k_callVi (wr := [(aout, .inl (G.2.2.2.2, 1, .inr (.inl ((fun _ => 0))))), (x28, .inr (10, ofL 7 Fx28)), (x31, .inr (1, ofL 10 Fx31)), (x8, .inr (3, ofL 12 Fx8)), (x29, .inr (4, ofL 3 Fx29)), (x0, .inr (11, ofL 17 Fx0)), (x3, .inr (7, ofL 5 Fx3)), (x4, .inr (8, ofL 5 Fx4))]) (rest := []) li_L_118 C (c_X12_thrown l G H.size m0 (updV (updV (updV Fm0 0 (.int 0)) 52 (.int v1)) 52 (.int (-1))) 0 rfl) (kR rfl) hP hD hS [8] [0, 1, 2, 3, 4, 5, 6, 7] rfl rfl rfl rfl (by decide) 0 12 rfl rfl rfl hl.1 rfl (Nat.le_of_ble_eq_true rfl) dL_law_1449 (fun rr50 uu51 H locs hw49 hP hD hS => ?_)
      obtain rfl : rr50 = 0 := hw49
      have hP : va_P G.1 vwCl [(aout, .inl (G.2.2.2.2, 1, .inr (.inl ((fun _ => 0))))), (x28, .inr (10, ofL 7 Fx28)), (x31, .inr (1, ofL 10 Fx31)), (x8, .inr (3, ofL 12 Fx8)), (x29, .inr (4, ofL 3 Fx29)), (x0, .inr (11, ofL 17 Fx0)), (x3, .inr (7, ofL 5 Fx3)), (x4, .inr (8, ofL 5 Fx4)), (m0, .inr (12, ofL 88 (updV (updV (updV Fm0 0 (.int 0)) 52 (.int v1)) 52 (.int (-1)))))] H := hP
      have hD : va_D A [(aout, .inl (G.2.2.2.2, 1, .inr (.inl ((fun _ => 0))))), (x28, .inr (10, ofL 7 Fx28)), (x31, .inr (1, ofL 10 Fx31)), (x8, .inr (3, ofL 12 Fx8)), (x29, .inr (4, ofL 3 Fx29)), (x0, .inr (11, ofL 17 Fx0)), (x3, .inr (7, ofL 5 Fx3)), (x4, .inr (8, ofL 5 Fx4)), (m0, .inr (12, ofL 88 (updV (updV (updV Fm0 0 (.int 0)) 52 (.int v1)) 52 (.int (-1)))))] := hD
      refine lv_iload hx hb dL_law_1452 (lv_at hl 1 rfl) ?_
      refine lv_icmp_eq (x := 0) (y := 1) (tgt := 1459) hx hb dL_law_1454 (by decide) (fun c_52 => ?_) (fun c_52 => ?_)
      · exact absurd c_52 (by decide)
      refine lv_iconst (v := 0) hx hb dL_law_1457 (by decide) ?_
      exfalso
      have e9_m1 : (-1 : Int32).toInt = -1 := by decide
      have e9_0 : (0 : Int32).toInt = 0 := by decide
      simp only [Int32.lt_iff_toInt_lt, Int32.le_iff_toInt_le] at c_5 c_6 c_37 c_38
      omega
  ·
    have hP : va_P G.1 vwCl [(m0, .inr (12, ofL 88 Fm0)), (aout, .inl (G.2.2.2.2, 1, .inr (.inl (vp_updL (fun _ => 0) 0 0)))), (x29, .inr (4, ofL 3 Fx29)), (x0, .inr (11, ofL 17 Fx0)), (x4, .inr (8, ofL 5 Fx4)), (x28, .inr (10, ofL 7 Fx28)), (x8, .inr (3, ofL 12 (updV (updV Fx8 11 (.int v1)) 11 (.int (-1))))), (x31, .inr (1, ofL 10 Fx31)), (x3, .inr (7, ofL 5 Fx3))] H := hP
    have hD : va_D A [(m0, .inr (12, ofL 88 Fm0)), (aout, .inl (G.2.2.2.2, 1, .inr (.inl (vp_updL (fun _ => 0) 0 0)))), (x29, .inr (4, ofL 3 Fx29)), (x0, .inr (11, ofL 17 Fx0)), (x4, .inr (8, ofL 5 Fx4)), (x28, .inr (10, ofL 7 Fx28)), (x8, .inr (3, ofL 12 (updV (updV Fx8 11 (.int v1)) 11 (.int (-1))))), (x31, .inr (1, ofL 10 Fx31)), (x3, .inr (7, ofL 5 Fx3))] := hD
    refine lv_istore (lv' := [(5, .int 0), (0, .ref b), (1, .ref x0), (2, .ref m0), (3, .ref aout), (4, .int 0)]) hx hb dL_law_1434 hl (by decide) rfl (fun ls hl => ?_)
    refine lv_aload_n hx hb dL_law_1436 rfl (lv_at hl 3 rfl) ?_
    refine lv_aload_n hx hb dL_law_1437 rfl (lv_at hl 1 rfl) ?_
    refine lv_iload hx hb dL_law_1438 (lv_at hl 5 rfl) ?_
    refine lv_iconst (v := 1) hx hb dL_law_1440 (by decide) ?_
    refine lv_iadd hx hb dL_law_1441 ?_
    refine k_eqi (y := 1) (by decide) ?_
    refine va_sld hx hb hX hbl hbA hS (k_in (by decide)) dL_law_1442 ?_
    refine k_eqi (y := v1) hv1 ?_
    refine k_callVi (wr := [(aout, .inl (G.2.2.2.2, 1, .inr (.inl (vp_updL (fun _ => 0) 0 0)))), (x29, .inr (4, ofL 3 Fx29)), (x0, .inr (11, ofL 17 Fx0)), (x4, .inr (8, ofL 5 Fx4)), (x28, .inr (10, ofL 7 Fx28)), (x8, .inr (3, ofL 12 (updV (updV Fx8 11 (.int v1)) 11 (.int (-1))))), (x31, .inr (1, ofL 10 Fx31)), (x3, .inr (7, ofL 5 Fx3))]) (rest := []) li_L_188 C (c_X12_compare l G H.size m0 v1 Fm0 (-1) e_m0_1 e_m0_2 e_m0_52) (kR rfl) hP hD hS [0] [1, 2, 3, 4, 5, 6, 7, 8] rfl rfl rfl rfl (by decide) 0 12 rfl rfl rfl hl.1 rfl (Nat.le_of_ble_eq_true rfl) dL_law_1443 (fun rr54 uu55 H locs hw53 hP hD hS => ?_)
    rcases hw53 with ⟨rfl, rfl, c_56⟩ | ⟨rfl, rfl, c_57, c_58⟩ | ⟨rfl, rfl, c_59, c_60⟩
    ·
      have hP : va_P G.1 vwCl [(aout, .inl (G.2.2.2.2, 1, .inr (.inl (vp_updL (fun _ => 0) 0 0)))), (x29, .inr (4, ofL 3 Fx29)), (x0, .inr (11, ofL 17 Fx0)), (x4, .inr (8, ofL 5 Fx4)), (x28, .inr (10, ofL 7 Fx28)), (x8, .inr (3, ofL 12 (updV (updV Fx8 11 (.int v1)) 11 (.int (-1))))), (x31, .inr (1, ofL 10 Fx31)), (x3, .inr (7, ofL 5 Fx3)), (m0, .inr (12, ofL 88 (updV (updV Fm0 0 (.int 0)) 0 (.int 1))))] H := hP
      have hD : va_D A [(aout, .inl (G.2.2.2.2, 1, .inr (.inl (vp_updL (fun _ => 0) 0 0)))), (x29, .inr (4, ofL 3 Fx29)), (x0, .inr (11, ofL 17 Fx0)), (x4, .inr (8, ofL 5 Fx4)), (x28, .inr (10, ofL 7 Fx28)), (x8, .inr (3, ofL 12 (updV (updV Fx8 11 (.int v1)) 11 (.int (-1))))), (x31, .inr (1, ofL 10 Fx31)), (x3, .inr (7, ofL 5 Fx3)), (m0, .inr (12, ofL 88 (updV (updV Fm0 0 (.int 0)) 0 (.int 1))))] := hD
      refine lv_istore (lv' := [(6, .int 0), (5, .int 0), (0, .ref b), (1, .ref x0), (2, .ref m0), (3, .ref aout), (4, .int 0)]) hx hb dL_law_1446 hl (by decide) rfl (fun ls hl => ?_)
      refine lv_aload_n hx hb dL_law_1448 rfl (lv_at hl 4 rfl) ?_
      refine k_callVi (wr := [(aout, .inl (G.2.2.2.2, 1, .inr (.inl (vp_updL (fun _ => 0) 0 0)))), (x29, .inr (4, ofL 3 Fx29)), (x0, .inr (11, ofL 17 Fx0)), (x4, .inr (8, ofL 5 Fx4)), (x28, .inr (10, ofL 7 Fx28)), (x8, .inr (3, ofL 12 (updV (updV Fx8 11 (.int v1)) 11 (.int (-1))))), (x31, .inr (1, ofL 10 Fx31)), (x3, .inr (7, ofL 5 Fx3))]) (rest := []) li_L_118 C (c_X12_thrown l G H.size m0 (updV (updV Fm0 0 (.int 0)) 0 (.int 1)) 1 rfl) (kR rfl) hP hD hS [8] [0, 1, 2, 3, 4, 5, 6, 7] rfl rfl rfl rfl (by decide) 0 12 rfl rfl rfl hl.1 rfl (Nat.le_of_ble_eq_true rfl) dL_law_1449 (fun rr62 uu63 H locs hw61 hP hD hS => ?_)
      obtain rfl : rr62 = 1 := hw61
      have hP : va_P G.1 vwCl [(aout, .inl (G.2.2.2.2, 1, .inr (.inl (vp_updL (fun _ => 0) 0 0)))), (x29, .inr (4, ofL 3 Fx29)), (x0, .inr (11, ofL 17 Fx0)), (x4, .inr (8, ofL 5 Fx4)), (x28, .inr (10, ofL 7 Fx28)), (x8, .inr (3, ofL 12 (updV (updV Fx8 11 (.int v1)) 11 (.int (-1))))), (x31, .inr (1, ofL 10 Fx31)), (x3, .inr (7, ofL 5 Fx3)), (m0, .inr (12, ofL 88 (updV (updV Fm0 0 (.int 0)) 0 (.int 1))))] H := hP
      have hD : va_D A [(aout, .inl (G.2.2.2.2, 1, .inr (.inl (vp_updL (fun _ => 0) 0 0)))), (x29, .inr (4, ofL 3 Fx29)), (x0, .inr (11, ofL 17 Fx0)), (x4, .inr (8, ofL 5 Fx4)), (x28, .inr (10, ofL 7 Fx28)), (x8, .inr (3, ofL 12 (updV (updV Fx8 11 (.int v1)) 11 (.int (-1))))), (x31, .inr (1, ofL 10 Fx31)), (x3, .inr (7, ofL 5 Fx3)), (m0, .inr (12, ofL 88 (updV (updV Fm0 0 (.int 0)) 0 (.int 1))))] := hD
      refine lv_iload hx hb dL_law_1452 (lv_at hl 1 rfl) ?_
      refine lv_icmp_eq (x := 1) (y := 0) (tgt := 1459) hx hb dL_law_1454 (by decide) (fun c_64 => ?_) (fun c_64 => ?_)
      · exact absurd c_64 (by decide)
      refine lv_iconst (v := 0) hx hb dL_law_1457 (by decide) ?_
      exfalso
      have e9_m1 : (-1 : Int32).toInt = -1 := by decide
      have e9_0 : (0 : Int32).toInt = 0 := by decide
      simp only [Int32.lt_iff_toInt_lt, Int32.le_iff_toInt_le] at c_7 c_8 c_56
      omega
    ·
      have hP : va_P G.1 vwCl [(aout, .inl (G.2.2.2.2, 1, .inr (.inl (vp_updL (fun _ => 0) 0 0)))), (x29, .inr (4, ofL 3 Fx29)), (x0, .inr (11, ofL 17 Fx0)), (x4, .inr (8, ofL 5 Fx4)), (x28, .inr (10, ofL 7 Fx28)), (x8, .inr (3, ofL 12 (updV (updV Fx8 11 (.int v1)) 11 (.int (-1))))), (x31, .inr (1, ofL 10 Fx31)), (x3, .inr (7, ofL 5 Fx3)), (m0, .inr (12, ofL 88 (updV (updV Fm0 0 (.int 0)) 0 (.int 1))))] H := hP
      have hD : va_D A [(aout, .inl (G.2.2.2.2, 1, .inr (.inl (vp_updL (fun _ => 0) 0 0)))), (x29, .inr (4, ofL 3 Fx29)), (x0, .inr (11, ofL 17 Fx0)), (x4, .inr (8, ofL 5 Fx4)), (x28, .inr (10, ofL 7 Fx28)), (x8, .inr (3, ofL 12 (updV (updV Fx8 11 (.int v1)) 11 (.int (-1))))), (x31, .inr (1, ofL 10 Fx31)), (x3, .inr (7, ofL 5 Fx3)), (m0, .inr (12, ofL 88 (updV (updV Fm0 0 (.int 0)) 0 (.int 1))))] := hD
      refine lv_istore (lv' := [(6, .int 0), (5, .int 0), (0, .ref b), (1, .ref x0), (2, .ref m0), (3, .ref aout), (4, .int 0)]) hx hb dL_law_1446 hl (by decide) rfl (fun ls hl => ?_)
      refine lv_aload_n hx hb dL_law_1448 rfl (lv_at hl 4 rfl) ?_
      refine k_callVi (wr := [(aout, .inl (G.2.2.2.2, 1, .inr (.inl (vp_updL (fun _ => 0) 0 0)))), (x29, .inr (4, ofL 3 Fx29)), (x0, .inr (11, ofL 17 Fx0)), (x4, .inr (8, ofL 5 Fx4)), (x28, .inr (10, ofL 7 Fx28)), (x8, .inr (3, ofL 12 (updV (updV Fx8 11 (.int v1)) 11 (.int (-1))))), (x31, .inr (1, ofL 10 Fx31)), (x3, .inr (7, ofL 5 Fx3))]) (rest := []) li_L_118 C (c_X12_thrown l G H.size m0 (updV (updV Fm0 0 (.int 0)) 0 (.int 1)) 1 rfl) (kR rfl) hP hD hS [8] [0, 1, 2, 3, 4, 5, 6, 7] rfl rfl rfl rfl (by decide) 0 12 rfl rfl rfl hl.1 rfl (Nat.le_of_ble_eq_true rfl) dL_law_1449 (fun rr66 uu67 H locs hw65 hP hD hS => ?_)
      obtain rfl : rr66 = 1 := hw65
      have hP : va_P G.1 vwCl [(aout, .inl (G.2.2.2.2, 1, .inr (.inl (vp_updL (fun _ => 0) 0 0)))), (x29, .inr (4, ofL 3 Fx29)), (x0, .inr (11, ofL 17 Fx0)), (x4, .inr (8, ofL 5 Fx4)), (x28, .inr (10, ofL 7 Fx28)), (x8, .inr (3, ofL 12 (updV (updV Fx8 11 (.int v1)) 11 (.int (-1))))), (x31, .inr (1, ofL 10 Fx31)), (x3, .inr (7, ofL 5 Fx3)), (m0, .inr (12, ofL 88 (updV (updV Fm0 0 (.int 0)) 0 (.int 1))))] H := hP
      have hD : va_D A [(aout, .inl (G.2.2.2.2, 1, .inr (.inl (vp_updL (fun _ => 0) 0 0)))), (x29, .inr (4, ofL 3 Fx29)), (x0, .inr (11, ofL 17 Fx0)), (x4, .inr (8, ofL 5 Fx4)), (x28, .inr (10, ofL 7 Fx28)), (x8, .inr (3, ofL 12 (updV (updV Fx8 11 (.int v1)) 11 (.int (-1))))), (x31, .inr (1, ofL 10 Fx31)), (x3, .inr (7, ofL 5 Fx3)), (m0, .inr (12, ofL 88 (updV (updV Fm0 0 (.int 0)) 0 (.int 1))))] := hD
      refine lv_iload hx hb dL_law_1452 (lv_at hl 1 rfl) ?_
      refine lv_icmp_eq (x := 1) (y := 0) (tgt := 1459) hx hb dL_law_1454 (by decide) (fun c_68 => ?_) (fun c_68 => ?_)
      · exact absurd c_68 (by decide)
      refine lv_iconst (v := 0) hx hb dL_law_1457 (by decide) ?_
      exfalso
      have e9_m1 : (-1 : Int32).toInt = -1 := by decide
      have e9_0 : (0 : Int32).toInt = 0 := by decide
      simp only [Int32.lt_iff_toInt_lt, Int32.le_iff_toInt_le] at c_7 c_8 c_57 c_58
      omega
    ·
      have hP : va_P G.1 vwCl [(aout, .inl (G.2.2.2.2, 1, .inr (.inl (vp_updL (fun _ => 0) 0 0)))), (x29, .inr (4, ofL 3 Fx29)), (x0, .inr (11, ofL 17 Fx0)), (x4, .inr (8, ofL 5 Fx4)), (x28, .inr (10, ofL 7 Fx28)), (x8, .inr (3, ofL 12 (updV (updV Fx8 11 (.int v1)) 11 (.int (-1))))), (x31, .inr (1, ofL 10 Fx31)), (x3, .inr (7, ofL 5 Fx3)), (m0, .inr (12, ofL 88 (updV (updV (updV Fm0 0 (.int 0)) 52 (.int v1)) 52 (.int (-1)))))] H := hP
      have hD : va_D A [(aout, .inl (G.2.2.2.2, 1, .inr (.inl (vp_updL (fun _ => 0) 0 0)))), (x29, .inr (4, ofL 3 Fx29)), (x0, .inr (11, ofL 17 Fx0)), (x4, .inr (8, ofL 5 Fx4)), (x28, .inr (10, ofL 7 Fx28)), (x8, .inr (3, ofL 12 (updV (updV Fx8 11 (.int v1)) 11 (.int (-1))))), (x31, .inr (1, ofL 10 Fx31)), (x3, .inr (7, ofL 5 Fx3)), (m0, .inr (12, ofL 88 (updV (updV (updV Fm0 0 (.int 0)) 52 (.int v1)) 52 (.int (-1)))))] := hD
      refine lv_istore (lv' := [(6, .int 0), (5, .int 0), (0, .ref b), (1, .ref x0), (2, .ref m0), (3, .ref aout), (4, .int 0)]) hx hb dL_law_1446 hl (by decide) rfl (fun ls hl => ?_)
      refine lv_aload_n hx hb dL_law_1448 rfl (lv_at hl 4 rfl) ?_
      refine k_callVi (wr := [(aout, .inl (G.2.2.2.2, 1, .inr (.inl (vp_updL (fun _ => 0) 0 0)))), (x29, .inr (4, ofL 3 Fx29)), (x0, .inr (11, ofL 17 Fx0)), (x4, .inr (8, ofL 5 Fx4)), (x28, .inr (10, ofL 7 Fx28)), (x8, .inr (3, ofL 12 (updV (updV Fx8 11 (.int v1)) 11 (.int (-1))))), (x31, .inr (1, ofL 10 Fx31)), (x3, .inr (7, ofL 5 Fx3))]) (rest := []) li_L_118 C (c_X12_thrown l G H.size m0 (updV (updV (updV Fm0 0 (.int 0)) 52 (.int v1)) 52 (.int (-1))) 0 rfl) (kR rfl) hP hD hS [8] [0, 1, 2, 3, 4, 5, 6, 7] rfl rfl rfl rfl (by decide) 0 12 rfl rfl rfl hl.1 rfl (Nat.le_of_ble_eq_true rfl) dL_law_1449 (fun rr70 uu71 H locs hw69 hP hD hS => ?_)
      obtain rfl : rr70 = 0 := hw69
      have hP : va_P G.1 vwCl [(aout, .inl (G.2.2.2.2, 1, .inr (.inl (vp_updL (fun _ => 0) 0 0)))), (x29, .inr (4, ofL 3 Fx29)), (x0, .inr (11, ofL 17 Fx0)), (x4, .inr (8, ofL 5 Fx4)), (x28, .inr (10, ofL 7 Fx28)), (x8, .inr (3, ofL 12 (updV (updV Fx8 11 (.int v1)) 11 (.int (-1))))), (x31, .inr (1, ofL 10 Fx31)), (x3, .inr (7, ofL 5 Fx3)), (m0, .inr (12, ofL 88 (updV (updV (updV Fm0 0 (.int 0)) 52 (.int v1)) 52 (.int (-1)))))] H := hP
      have hD : va_D A [(aout, .inl (G.2.2.2.2, 1, .inr (.inl (vp_updL (fun _ => 0) 0 0)))), (x29, .inr (4, ofL 3 Fx29)), (x0, .inr (11, ofL 17 Fx0)), (x4, .inr (8, ofL 5 Fx4)), (x28, .inr (10, ofL 7 Fx28)), (x8, .inr (3, ofL 12 (updV (updV Fx8 11 (.int v1)) 11 (.int (-1))))), (x31, .inr (1, ofL 10 Fx31)), (x3, .inr (7, ofL 5 Fx3)), (m0, .inr (12, ofL 88 (updV (updV (updV Fm0 0 (.int 0)) 52 (.int v1)) 52 (.int (-1)))))] := hD
      refine lv_iload hx hb dL_law_1452 (lv_at hl 1 rfl) ?_
      refine lv_icmp_eq (x := 0) (y := 0) (tgt := 1459) hx hb dL_law_1454 (by decide) (fun c_72 => ?_) (fun c_72 => ?_)
      rotate_left
      · exact absurd (by decide) c_72
      refine lv_iload hx hb dL_law_1459 (lv_at hl 1 rfl) ?_
      refine lv_if_ne (x := 0) (tgt := 1476) hx hb dL_law_1461 (by decide) (fun c_73 => ?_) (fun c_73 => ?_)
      · exact absurd (by decide) c_73
      refine lv_aload_n hx hb dL_law_1464 rfl (lv_at hl 5 rfl) ?_
      refine lv_iconst (v := 0) hx hb dL_law_1465 (by decide) ?_
      refine k_lald C hP 0 rfl (k_in (by decide)) dL_law_1466 ?_
      refine k_eql (y := 0) rfl ?_
      refine lv_iload hx hb dL_law_1467 (lv_at hl 0 rfl) ?_
      refine lv_i2l (v := 0) hx hb dL_law_1469 (by decide) ?_
      refine W.lcmp hx hb dL_law_1470 ?_
      refine k_eqi (y := 0) (by decide) ?_
      refine lv_if_eq (x := 0) (tgt := 1476) hx hb dL_law_1471 (by decide) (fun c_74 => ?_) (fun c_74 => ?_)
      rotate_left
      · exact absurd (by decide) c_74
      refine lv_goto (tgt := 2265) hx hb dL_law_1476 (by decide) ?_
      exact law_end hst C0 hA C hS (lv_sub hl [2, 6] rfl) (Nat.le_of_ble_eq_true rfl) (Nat.le_of_ble_eq_true rfl)
set_option maxHeartbeats 4000000 in
set_option maxRecDepth 100000 in
theorem law_22 {p : Program} {e : Env} {s : State} {m : MethodId} {below : List Frame} {meth : Method} {c : Code} {l : Launch} (hst : l.stackTraces = false) {b : Nat} {xs : Nat → Int32} {G : kG} {A : Nat → Prop} (C0 : lw_At p s m meth c b 6 xs) (hA : A = fun q : Nat => s.heap.size ≤ q) (C : kC G p s m c cL_law 8 RL A) {v1 : Int32} (hv1 : xs 1 = v1) {v2 : Int32} (hv2 : xs 2 = v2) {v3 : Int32} (hv3 : xs 3 = v3) {v4 : Int32} (hv4 : xs 4 = v4) {v5 : Int32} (hv5 : xs 5 = v5) {x0 : Nat} {Fx0 : Nat → Value} {x3 : Nat} {x28 : Nat} {Fx3 : Nat → Value} {x4 : Nat} {Fx4 : Nat → Value} {x8 : Nat} {Fx8 : Nat → Value} {Fx28 : Nat → Value} {x31 : Nat} {x29 : Nat} {Fx29 : Nat → Value} {Fx31 : Nat → Value} {m0 : Nat} {Fm0 : Nat → Value} {aout : Nat} (e_x0_3 : Fx0 3 = .ref x3) (e_x0_9 : Fx0 9 = .ref x28) (e_x3_1 : Fx3 1 = .ref x4) (e_x3_2 : Fx3 2 = .int 0) (e_x4_3 : Fx4 3 = .int 0) (e_x8_11 : Fx8 11 = .int (-1)) (e_x28_0 : Fx28 0 = .ref x31) (e_x28_1 : Fx28 1 = .ref x8) (e_x28_2 : Fx28 2 = .ref x29) (e_x31_7 : Fx31 7 = .ref x3) (e_m0_2 : Fm0 2 = .int 0) {H : Heap} {locs : List Loc} {ls : Array Slot} (hP : va_P G.1 vwCl [(x0, .inr (11, ofL 17 Fx0)), (x3, .inr (7, ofL 5 Fx3)), (x4, .inr (8, ofL 5 Fx4)), (x8, .inr (3, ofL 12 Fx8)), (x28, .inr (10, ofL 7 Fx28)), (x29, .inr (4, ofL 3 Fx29)), (x31, .inr (1, ofL 10 Fx31)), (m0, .inr (12, ofL 88 Fm0))] H) (hD : va_D A [(x0, .inr (11, ofL 17 Fx0)), (x3, .inr (7, ofL 5 Fx3)), (x4, .inr (8, ofL 5 Fx4)), (x8, .inr (3, ofL 12 Fx8)), (x28, .inr (10, ofL 7 Fx28)), (x29, .inr (4, ofL 3 Fx29)), (x31, .inr (1, ofL 10 Fx31)), (m0, .inr (12, ofL 88 Fm0))]) (hS : va_S A s.heap H locs) (hl : lv_has ls 8 [(0, .ref b), (1, .ref x0), (2, .ref m0), (3, .ref aout), (4, .int 0)]) :
    W p l e room_1 s m #[Value.ref b] below meth c H locs 1000 20000 (lw_Z below #[Value.ref b] s) (F0 m 1479 ls []) := by
  obtain ⟨hx, hb, hr, -, -, -, hX, hbl, hlocks, -⟩ := id C0
  have hbA : ¬ A b := by rw [hA]; exact Nat.not_le.mpr hbl
  refine lv_aload_n hx hb dL_law_1479 rfl (lv_at hl 1 rfl) ?_
  refine k_callVi (wr := [(m0, .inr (12, ofL 88 Fm0))]) (rest := []) li_L_189 C (c_X11_best l G H.size x0 Fx0 x3 x28 Fx28 x31 x8 x29 Fx31 Fx3 x4 Fx8 (-1) Fx29 Fx4 e_x0_3 e_x0_9 e_x28_0 e_x28_1 e_x28_2 e_x31_7 e_x3_1 e_x3_2 e_x8_11 e_x4_3) (kR rfl) hP hD hS [0, 4, 6, 1, 3, 5, 2] [7] rfl rfl rfl rfl (by decide) 0 11 rfl rfl rfl hl.1 rfl (Nat.le_of_ble_eq_true rfl) dL_law_1480 (fun rr2 uu3 H locs hw1 hP hD hS => ?_)
  obtain rfl : rr2 = -1 := hw1
  have hP : va_P G.1 vwCl [(m0, .inr (12, ofL 88 Fm0)), (x0, .inr (11, ofL 17 Fx0)), (x4, .inr (8, ofL 5 Fx4)), (x28, .inr (10, ofL 7 Fx28)), (x8, .inr (3, ofL 12 (updV (updV Fx8 11 (.int (-1))) 11 (.int (-1))))), (x31, .inr (1, ofL 10 Fx31)), (x3, .inr (7, ofL 5 Fx3)), (x29, .inr (4, ofL 3 (updV (updV (updV (updV Fx29 0 (.int 0)) 0 (.int 1)) 1 (.int (-1))) 2 (.int 0))))] H := hP
  have hD : va_D A [(m0, .inr (12, ofL 88 Fm0)), (x0, .inr (11, ofL 17 Fx0)), (x4, .inr (8, ofL 5 Fx4)), (x28, .inr (10, ofL 7 Fx28)), (x8, .inr (3, ofL 12 (updV (updV Fx8 11 (.int (-1))) 11 (.int (-1))))), (x31, .inr (1, ofL 10 Fx31)), (x3, .inr (7, ofL 5 Fx3)), (x29, .inr (4, ofL 3 (updV (updV (updV (updV Fx29 0 (.int 0)) 0 (.int 1)) 1 (.int (-1))) 2 (.int 0))))] := hD
  refine lv_aload_n hx hb dL_law_1483 rfl (lv_at hl 2 rfl) ?_
  refine k_callVi (wr := [(x0, .inr (11, ofL 17 Fx0)), (x4, .inr (8, ofL 5 Fx4)), (x28, .inr (10, ofL 7 Fx28)), (x8, .inr (3, ofL 12 (updV (updV Fx8 11 (.int (-1))) 11 (.int (-1))))), (x31, .inr (1, ofL 10 Fx31)), (x3, .inr (7, ofL 5 Fx3)), (x29, .inr (4, ofL 3 (updV (updV (updV (updV Fx29 0 (.int 0)) 0 (.int 1)) 1 (.int (-1))) 2 (.int 0))))]) (rest := [.int (-1)]) li_L_192 C (c_X12_best l G H.size m0 Fm0 e_m0_2) (kR rfl) hP hD hS [0] [1, 2, 3, 4, 5, 6, 7] rfl rfl rfl rfl (by decide) 0 12 rfl rfl rfl hl.1 rfl (Nat.le_of_ble_eq_true rfl) dL_law_1484 (fun rr5 uu6 H locs hw4 hP hD hS => ?_)
  obtain rfl : rr5 = -1 := hw4
  have hP : va_P G.1 vwCl [(x0, .inr (11, ofL 17 Fx0)), (x4, .inr (8, ofL 5 Fx4)), (x28, .inr (10, ofL 7 Fx28)), (x8, .inr (3, ofL 12 (updV (updV Fx8 11 (.int (-1))) 11 (.int (-1))))), (x31, .inr (1, ofL 10 Fx31)), (x3, .inr (7, ofL 5 Fx3)), (x29, .inr (4, ofL 3 (updV (updV (updV (updV Fx29 0 (.int 0)) 0 (.int 1)) 1 (.int (-1))) 2 (.int 0)))), (m0, .inr (12, ofL 88 (updV Fm0 0 (.int 0))))] H := hP
  have hD : va_D A [(x0, .inr (11, ofL 17 Fx0)), (x4, .inr (8, ofL 5 Fx4)), (x28, .inr (10, ofL 7 Fx28)), (x8, .inr (3, ofL 12 (updV (updV Fx8 11 (.int (-1))) 11 (.int (-1))))), (x31, .inr (1, ofL 10 Fx31)), (x3, .inr (7, ofL 5 Fx3)), (x29, .inr (4, ofL 3 (updV (updV (updV (updV Fx29 0 (.int 0)) 0 (.int 1)) 1 (.int (-1))) 2 (.int 0)))), (m0, .inr (12, ofL 88 (updV Fm0 0 (.int 0))))] := hD
  refine lv_icmp_eq (x := -1) (y := -1) (tgt := 2265) hx hb dL_law_1487 (by decide) (fun c_7 => ?_) (fun c_7 => ?_)
  rotate_left
  · exact absurd (by decide) c_7
  exact law_end hst C0 hA C hS (lv_sub hl [0, 4] rfl) (Nat.le_of_ble_eq_true rfl) (Nat.le_of_ble_eq_true rfl)
set_option maxHeartbeats 4000000 in
set_option maxRecDepth 100000 in
theorem law_23 {p : Program} {e : Env} {s : State} {m : MethodId} {below : List Frame} {meth : Method} {c : Code} {l : Launch} (hst : l.stackTraces = false) {b : Nat} {xs : Nat → Int32} {G : kG} {A : Nat → Prop} (C0 : lw_At p s m meth c b 6 xs) (hA : A = fun q : Nat => s.heap.size ≤ q) (C : kC G p s m c cL_law 8 RL A) {v1 : Int32} (hv1 : xs 1 = v1) {v2 : Int32} (hv2 : xs 2 = v2) {v3 : Int32} (hv3 : xs 3 = v3) {v4 : Int32} (hv4 : xs 4 = v4) {v5 : Int32} (hv5 : xs 5 = v5) {x0 : Nat} {Fx0 : Nat → Value} {x28 : Nat} {x3 : Nat} {Fx3 : Nat → Value} {x8 : Nat} {Fx8 : Nat → Value} {x9 : Nat} {Fx28 : Nat → Value} {x31 : Nat} {x30 : Nat} {Fx31 : Nat → Value} {m0 : Nat} {Fm0 : Nat → Value} {m12 : Nat} {m42 : Nat} {aout : Nat} (e_x0_9 : Fx0 9 = .ref x28) (e_x3_2 : Fx3 2 = .int 0) (e_x8_0 : Fx8 0 = .ref x9) (e_x28_0 : Fx28 0 = .ref x31) (e_x28_1 : Fx28 1 = .ref x8) (e_x28_3 : Fx28 3 = .ref x30) (e_x31_7 : Fx31 7 = .ref x3) (e_m0_1 : Fm0 1 = .int 0) (e_m0_16 : Fm0 16 = .ref m12) (e_m0_72 : Fm0 72 = .ref m42) {H : Heap} {locs : List Loc} {ls : Array Slot} (hP : va_P G.1 vwCl [(x0, .inr (11, ofL 17 Fx0)), (x3, .inr (7, ofL 5 Fx3)), (x8, .inr (3, ofL 12 Fx8)), (x9, .inl (G.2.1, 12, .inl (fun _ => 0))), (x28, .inr (10, ofL 7 Fx28)), (x30, .inl (G.2.1, 12, .inl (fun _ => 0))), (x31, .inr (1, ofL 10 Fx31)), (m0, .inr (12, ofL 88 Fm0)), (m12, .inl (G.2.1, 48, .inl (fun _ => 0))), (m42, .inl (G.2.1, 48, .inl (fun _ => 0))), (aout, .inl (G.2.2.2.2, 1, .inr (.inl (fun _ => 0))))] H) (hD : va_D A [(x0, .inr (11, ofL 17 Fx0)), (x3, .inr (7, ofL 5 Fx3)), (x8, .inr (3, ofL 12 Fx8)), (x9, .inl (G.2.1, 12, .inl (fun _ => 0))), (x28, .inr (10, ofL 7 Fx28)), (x30, .inl (G.2.1, 12, .inl (fun _ => 0))), (x31, .inr (1, ofL 10 Fx31)), (m0, .inr (12, ofL 88 Fm0)), (m12, .inl (G.2.1, 48, .inl (fun _ => 0))), (m42, .inl (G.2.1, 48, .inl (fun _ => 0))), (aout, .inl (G.2.2.2.2, 1, .inr (.inl (fun _ => 0))))]) (hS : va_S A s.heap H locs) (hl : lv_has ls 8 [(0, .ref b), (1, .ref x0), (2, .ref m0), (3, .ref aout), (4, .int 0)]) :
    W p l e room_1 s m #[Value.ref b] below meth c H locs 1000 20000 (lw_Z below #[Value.ref b] s) (F0 m 1492 ls []) := by
  obtain ⟨hx, hb, hr, -, -, -, hX, hbl, hlocks, -⟩ := id C0
  have hbA : ¬ A b := by rw [hA]; exact Nat.not_le.mpr hbl
  refine lv_aload_n hx hb dL_law_1492 rfl (lv_at hl 1 rfl) ?_
  refine lv_aload_n hx hb dL_law_1493 rfl (lv_at hl 0 rfl) ?_
  refine lv_iload hx hb dL_law_1494 (lv_at hl 4 rfl) ?_
  refine lv_iconst (v := 1) hx hb dL_law_1496 (by decide) ?_
  refine lv_iadd hx hb dL_law_1497 ?_
  refine k_eqi (y := 1) (by decide) ?_
  refine va_sld hx hb hX hbl hbA hS (k_in (by decide)) dL_law_1498 ?_
  refine k_eqi (y := v1) hv1 ?_
  refine lv_aload_n hx hb dL_law_1499 rfl (lv_at hl 3 rfl) ?_
  refine k_callHi (wr := [(m0, .inr (12, ofL 88 Fm0)), (m12, .inl (G.2.1, 48, .inl (fun _ => 0))), (m42, .inl (G.2.1, 48, .inl (fun _ => 0)))]) (rest := []) li_L_193 C (c_L_bell l hst G H.size x0 v1 aout Fx0 x28 Fx28 x31 x8 x30 Fx31 x3 Fx3 Fx8 x9 (fun _ => 0) (fun _ => 0) (fun _ => 0) e_x0_9 e_x28_0 e_x28_1 e_x28_3 e_x31_7 e_x3_2 e_x8_0) (kR rfl) hP hD hS [0, 4, 6, 1, 2, 3, 5, 10] [7, 8, 9] rfl rfl rfl rfl (by decide) rfl hl.1 rfl (Nat.le_of_ble_eq_true rfl) dL_law_1500 (fun rr2 uu3 H locs hw1 hP hD hS => ?_)
  rcases hw1 with ⟨rfl, rfl, c_4⟩ | ⟨rfl, rfl, c_5, c_6⟩ | ⟨rfl, rfl, c_7, c_8⟩
  ·
    have hP : va_P G.1 vwCl [(m0, .inr (12, ofL 88 Fm0)), (m12, .inl (G.2.1, 48, .inl (fun _ => 0))), (m42, .inl (G.2.1, 48, .inl (fun _ => 0))), (aout, .inl (G.2.2.2.2, 1, .inr (.inl ((fun _ => 0))))), (x0, .inr (11, ofL 17 Fx0)), (x28, .inr (10, ofL 7 Fx28)), (x31, .inr (1, ofL 10 Fx31)), (x3, .inr (7, ofL 5 Fx3)), (x8, .inr (3, ofL 12 Fx8)), (x9, .inl (G.2.1, 12, .inl ((fun _ => 0)))), (x30, .inl (G.2.1, 12, .inl ((fun _ => 0))))] H := hP
    have hD : va_D A [(m0, .inr (12, ofL 88 Fm0)), (m12, .inl (G.2.1, 48, .inl (fun _ => 0))), (m42, .inl (G.2.1, 48, .inl (fun _ => 0))), (aout, .inl (G.2.2.2.2, 1, .inr (.inl ((fun _ => 0))))), (x0, .inr (11, ofL 17 Fx0)), (x28, .inr (10, ofL 7 Fx28)), (x31, .inr (1, ofL 10 Fx31)), (x3, .inr (7, ofL 5 Fx3)), (x8, .inr (3, ofL 12 Fx8)), (x9, .inl (G.2.1, 12, .inl ((fun _ => 0)))), (x30, .inl (G.2.1, 12, .inl ((fun _ => 0))))] := hD
    refine lv_istore (lv' := [(5, .int 1), (0, .ref b), (1, .ref x0), (2, .ref m0), (3, .ref aout), (4, .int 0)]) hx hb dL_law_1503 hl (by decide) rfl (fun ls hl => ?_)
    refine lv_aload_n hx hb dL_law_1505 rfl (lv_at hl 3 rfl) ?_
    refine lv_aload_n hx hb dL_law_1506 rfl (lv_at hl 1 rfl) ?_
    refine lv_iload hx hb dL_law_1507 (lv_at hl 5 rfl) ?_
    refine lv_iconst (v := 1) hx hb dL_law_1509 (by decide) ?_
    refine lv_iadd hx hb dL_law_1510 ?_
    refine k_eqi (y := 1) (by decide) ?_
    refine va_sld hx hb hX hbl hbA hS (k_in (by decide)) dL_law_1511 ?_
    refine k_eqi (y := v1) hv1 ?_
    refine k_callVi (wr := [(aout, .inl (G.2.2.2.2, 1, .inr (.inl ((fun _ => 0))))), (x0, .inr (11, ofL 17 Fx0)), (x28, .inr (10, ofL 7 Fx28)), (x31, .inr (1, ofL 10 Fx31)), (x3, .inr (7, ofL 5 Fx3)), (x8, .inr (3, ofL 12 Fx8)), (x9, .inl (G.2.1, 12, .inl ((fun _ => 0)))), (x30, .inl (G.2.1, 12, .inl ((fun _ => 0))))]) (rest := []) li_L_195 C (c_X12_bell l G H.size m0 v1 Fm0 m12 m42 (fun _ => 0) (fun _ => 0) e_m0_1 e_m0_16 e_m0_72) (kR rfl) hP hD hS [0, 1, 2] [3, 4, 5, 6, 7, 8, 9, 10] rfl rfl rfl rfl (by decide) 0 12 rfl rfl rfl hl.1 rfl (Nat.le_of_ble_eq_true rfl) dL_law_1512 (fun rr10 uu11 H locs hw9 hP hD hS => ?_)
    rcases hw9 with ⟨rfl, rfl, c_12⟩ | ⟨rfl, rfl, c_13, c_14⟩ | ⟨rfl, rfl, c_15, c_16⟩
    ·
      have hP : va_P G.1 vwCl [(aout, .inl (G.2.2.2.2, 1, .inr (.inl ((fun _ => 0))))), (x0, .inr (11, ofL 17 Fx0)), (x28, .inr (10, ofL 7 Fx28)), (x31, .inr (1, ofL 10 Fx31)), (x3, .inr (7, ofL 5 Fx3)), (x8, .inr (3, ofL 12 Fx8)), (x9, .inl (G.2.1, 12, .inl ((fun _ => 0)))), (x30, .inl (G.2.1, 12, .inl ((fun _ => 0)))), (m0, .inr (12, ofL 88 (updV (updV Fm0 0 (.int 0)) 0 (.int 1))))] H := hP
      have hD : va_D A [(aout, .inl (G.2.2.2.2, 1, .inr (.inl ((fun _ => 0))))), (x0, .inr (11, ofL 17 Fx0)), (x28, .inr (10, ofL 7 Fx28)), (x31, .inr (1, ofL 10 Fx31)), (x3, .inr (7, ofL 5 Fx3)), (x8, .inr (3, ofL 12 Fx8)), (x9, .inl (G.2.1, 12, .inl ((fun _ => 0)))), (x30, .inl (G.2.1, 12, .inl ((fun _ => 0)))), (m0, .inr (12, ofL 88 (updV (updV Fm0 0 (.int 0)) 0 (.int 1))))] := hD
      refine lv_istore (lv' := [(6, .int 0), (5, .int 1), (0, .ref b), (1, .ref x0), (2, .ref m0), (3, .ref aout), (4, .int 0)]) hx hb dL_law_1515 hl (by decide) rfl (fun ls hl => ?_)
      refine lv_aload_n hx hb dL_law_1517 rfl (lv_at hl 4 rfl) ?_
      refine k_callVi (wr := [(aout, .inl (G.2.2.2.2, 1, .inr (.inl ((fun _ => 0))))), (x0, .inr (11, ofL 17 Fx0)), (x28, .inr (10, ofL 7 Fx28)), (x31, .inr (1, ofL 10 Fx31)), (x3, .inr (7, ofL 5 Fx3)), (x8, .inr (3, ofL 12 Fx8)), (x9, .inl (G.2.1, 12, .inl ((fun _ => 0)))), (x30, .inl (G.2.1, 12, .inl ((fun _ => 0))))]) (rest := []) li_L_118 C (c_X12_thrown l G H.size m0 (updV (updV Fm0 0 (.int 0)) 0 (.int 1)) 1 rfl) (kR rfl) hP hD hS [8] [0, 1, 2, 3, 4, 5, 6, 7] rfl rfl rfl rfl (by decide) 0 12 rfl rfl rfl hl.1 rfl (Nat.le_of_ble_eq_true rfl) dL_law_1518 (fun rr18 uu19 H locs hw17 hP hD hS => ?_)
      obtain rfl : rr18 = 1 := hw17
      have hP : va_P G.1 vwCl [(aout, .inl (G.2.2.2.2, 1, .inr (.inl ((fun _ => 0))))), (x0, .inr (11, ofL 17 Fx0)), (x28, .inr (10, ofL 7 Fx28)), (x31, .inr (1, ofL 10 Fx31)), (x3, .inr (7, ofL 5 Fx3)), (x8, .inr (3, ofL 12 Fx8)), (x9, .inl (G.2.1, 12, .inl ((fun _ => 0)))), (x30, .inl (G.2.1, 12, .inl ((fun _ => 0)))), (m0, .inr (12, ofL 88 (updV (updV Fm0 0 (.int 0)) 0 (.int 1))))] H := hP
      have hD : va_D A [(aout, .inl (G.2.2.2.2, 1, .inr (.inl ((fun _ => 0))))), (x0, .inr (11, ofL 17 Fx0)), (x28, .inr (10, ofL 7 Fx28)), (x31, .inr (1, ofL 10 Fx31)), (x3, .inr (7, ofL 5 Fx3)), (x8, .inr (3, ofL 12 Fx8)), (x9, .inl (G.2.1, 12, .inl ((fun _ => 0)))), (x30, .inl (G.2.1, 12, .inl ((fun _ => 0)))), (m0, .inr (12, ofL 88 (updV (updV Fm0 0 (.int 0)) 0 (.int 1))))] := hD
      refine lv_iload hx hb dL_law_1521 (lv_at hl 1 rfl) ?_
      refine lv_icmp_eq (x := 1) (y := 1) (tgt := 1528) hx hb dL_law_1523 (by decide) (fun c_20 => ?_) (fun c_20 => ?_)
      rotate_left
      · exact absurd (by decide) c_20
      refine lv_iload hx hb dL_law_1528 (lv_at hl 1 rfl) ?_
      refine lv_if_ne (x := 1) (tgt := 1545) hx hb dL_law_1530 (by decide) (fun c_21 => ?_) (fun c_21 => ?_)
      rotate_left
      · exact absurd c_21 (by decide)
      refine lv_goto (tgt := 2265) hx hb dL_law_1545 (by decide) ?_
      exact law_end hst C0 hA C hS (lv_sub hl [2, 6] rfl) (Nat.le_of_ble_eq_true rfl) (Nat.le_of_ble_eq_true rfl)
    ·
      have hP : va_P G.1 vwCl [(aout, .inl (G.2.2.2.2, 1, .inr (.inl ((fun _ => 0))))), (x0, .inr (11, ofL 17 Fx0)), (x28, .inr (10, ofL 7 Fx28)), (x31, .inr (1, ofL 10 Fx31)), (x3, .inr (7, ofL 5 Fx3)), (x8, .inr (3, ofL 12 Fx8)), (x9, .inl (G.2.1, 12, .inl ((fun _ => 0)))), (x30, .inl (G.2.1, 12, .inl ((fun _ => 0)))), (m0, .inr (12, ofL 88 (updV (updV Fm0 0 (.int 0)) 0 (.int 1))))] H := hP
      have hD : va_D A [(aout, .inl (G.2.2.2.2, 1, .inr (.inl ((fun _ => 0))))), (x0, .inr (11, ofL 17 Fx0)), (x28, .inr (10, ofL 7 Fx28)), (x31, .inr (1, ofL 10 Fx31)), (x3, .inr (7, ofL 5 Fx3)), (x8, .inr (3, ofL 12 Fx8)), (x9, .inl (G.2.1, 12, .inl ((fun _ => 0)))), (x30, .inl (G.2.1, 12, .inl ((fun _ => 0)))), (m0, .inr (12, ofL 88 (updV (updV Fm0 0 (.int 0)) 0 (.int 1))))] := hD
      refine lv_istore (lv' := [(6, .int 0), (5, .int 1), (0, .ref b), (1, .ref x0), (2, .ref m0), (3, .ref aout), (4, .int 0)]) hx hb dL_law_1515 hl (by decide) rfl (fun ls hl => ?_)
      refine lv_aload_n hx hb dL_law_1517 rfl (lv_at hl 4 rfl) ?_
      refine k_callVi (wr := [(aout, .inl (G.2.2.2.2, 1, .inr (.inl ((fun _ => 0))))), (x0, .inr (11, ofL 17 Fx0)), (x28, .inr (10, ofL 7 Fx28)), (x31, .inr (1, ofL 10 Fx31)), (x3, .inr (7, ofL 5 Fx3)), (x8, .inr (3, ofL 12 Fx8)), (x9, .inl (G.2.1, 12, .inl ((fun _ => 0)))), (x30, .inl (G.2.1, 12, .inl ((fun _ => 0))))]) (rest := []) li_L_118 C (c_X12_thrown l G H.size m0 (updV (updV Fm0 0 (.int 0)) 0 (.int 1)) 1 rfl) (kR rfl) hP hD hS [8] [0, 1, 2, 3, 4, 5, 6, 7] rfl rfl rfl rfl (by decide) 0 12 rfl rfl rfl hl.1 rfl (Nat.le_of_ble_eq_true rfl) dL_law_1518 (fun rr23 uu24 H locs hw22 hP hD hS => ?_)
      obtain rfl : rr23 = 1 := hw22
      have hP : va_P G.1 vwCl [(aout, .inl (G.2.2.2.2, 1, .inr (.inl ((fun _ => 0))))), (x0, .inr (11, ofL 17 Fx0)), (x28, .inr (10, ofL 7 Fx28)), (x31, .inr (1, ofL 10 Fx31)), (x3, .inr (7, ofL 5 Fx3)), (x8, .inr (3, ofL 12 Fx8)), (x9, .inl (G.2.1, 12, .inl ((fun _ => 0)))), (x30, .inl (G.2.1, 12, .inl ((fun _ => 0)))), (m0, .inr (12, ofL 88 (updV (updV Fm0 0 (.int 0)) 0 (.int 1))))] H := hP
      have hD : va_D A [(aout, .inl (G.2.2.2.2, 1, .inr (.inl ((fun _ => 0))))), (x0, .inr (11, ofL 17 Fx0)), (x28, .inr (10, ofL 7 Fx28)), (x31, .inr (1, ofL 10 Fx31)), (x3, .inr (7, ofL 5 Fx3)), (x8, .inr (3, ofL 12 Fx8)), (x9, .inl (G.2.1, 12, .inl ((fun _ => 0)))), (x30, .inl (G.2.1, 12, .inl ((fun _ => 0)))), (m0, .inr (12, ofL 88 (updV (updV Fm0 0 (.int 0)) 0 (.int 1))))] := hD
      refine lv_iload hx hb dL_law_1521 (lv_at hl 1 rfl) ?_
      refine lv_icmp_eq (x := 1) (y := 1) (tgt := 1528) hx hb dL_law_1523 (by decide) (fun c_25 => ?_) (fun c_25 => ?_)
      rotate_left
      · exact absurd (by decide) c_25
      refine lv_iload hx hb dL_law_1528 (lv_at hl 1 rfl) ?_
      refine lv_if_ne (x := 1) (tgt := 1545) hx hb dL_law_1530 (by decide) (fun c_26 => ?_) (fun c_26 => ?_)
      rotate_left
      · exact absurd c_26 (by decide)
      refine lv_goto (tgt := 2265) hx hb dL_law_1545 (by decide) ?_
      exact law_end hst C0 hA C hS (lv_sub hl [2, 6] rfl) (Nat.le_of_ble_eq_true rfl) (Nat.le_of_ble_eq_true rfl)
    ·
      have hP : va_P G.1 vwCl [(aout, .inl (G.2.2.2.2, 1, .inr (.inl ((fun _ => 0))))), (x0, .inr (11, ofL 17 Fx0)), (x28, .inr (10, ofL 7 Fx28)), (x31, .inr (1, ofL 10 Fx31)), (x3, .inr (7, ofL 5 Fx3)), (x8, .inr (3, ofL 12 Fx8)), (x9, .inl (G.2.1, 12, .inl ((fun _ => 0)))), (x30, .inl (G.2.1, 12, .inl ((fun _ => 0)))), (m0, .inr (12, ofL 88 (updV Fm0 0 (.int 0))))] H := hP
      have hD : va_D A [(aout, .inl (G.2.2.2.2, 1, .inr (.inl ((fun _ => 0))))), (x0, .inr (11, ofL 17 Fx0)), (x28, .inr (10, ofL 7 Fx28)), (x31, .inr (1, ofL 10 Fx31)), (x3, .inr (7, ofL 5 Fx3)), (x8, .inr (3, ofL 12 Fx8)), (x9, .inl (G.2.1, 12, .inl ((fun _ => 0)))), (x30, .inl (G.2.1, 12, .inl ((fun _ => 0)))), (m0, .inr (12, ofL 88 (updV Fm0 0 (.int 0))))] := hD
      refine lv_istore (lv' := [(6, .int 0), (5, .int 1), (0, .ref b), (1, .ref x0), (2, .ref m0), (3, .ref aout), (4, .int 0)]) hx hb dL_law_1515 hl (by decide) rfl (fun ls hl => ?_)
      refine lv_aload_n hx hb dL_law_1517 rfl (lv_at hl 4 rfl) ?_
      refine k_callVi (wr := [(aout, .inl (G.2.2.2.2, 1, .inr (.inl ((fun _ => 0))))), (x0, .inr (11, ofL 17 Fx0)), (x28, .inr (10, ofL 7 Fx28)), (x31, .inr (1, ofL 10 Fx31)), (x3, .inr (7, ofL 5 Fx3)), (x8, .inr (3, ofL 12 Fx8)), (x9, .inl (G.2.1, 12, .inl ((fun _ => 0)))), (x30, .inl (G.2.1, 12, .inl ((fun _ => 0))))]) (rest := []) li_L_118 C (c_X12_thrown l G H.size m0 (updV Fm0 0 (.int 0)) 0 rfl) (kR rfl) hP hD hS [8] [0, 1, 2, 3, 4, 5, 6, 7] rfl rfl rfl rfl (by decide) 0 12 rfl rfl rfl hl.1 rfl (Nat.le_of_ble_eq_true rfl) dL_law_1518 (fun rr28 uu29 H locs hw27 hP hD hS => ?_)
      obtain rfl : rr28 = 0 := hw27
      have hP : va_P G.1 vwCl [(aout, .inl (G.2.2.2.2, 1, .inr (.inl ((fun _ => 0))))), (x0, .inr (11, ofL 17 Fx0)), (x28, .inr (10, ofL 7 Fx28)), (x31, .inr (1, ofL 10 Fx31)), (x3, .inr (7, ofL 5 Fx3)), (x8, .inr (3, ofL 12 Fx8)), (x9, .inl (G.2.1, 12, .inl ((fun _ => 0)))), (x30, .inl (G.2.1, 12, .inl ((fun _ => 0)))), (m0, .inr (12, ofL 88 (updV Fm0 0 (.int 0))))] H := hP
      have hD : va_D A [(aout, .inl (G.2.2.2.2, 1, .inr (.inl ((fun _ => 0))))), (x0, .inr (11, ofL 17 Fx0)), (x28, .inr (10, ofL 7 Fx28)), (x31, .inr (1, ofL 10 Fx31)), (x3, .inr (7, ofL 5 Fx3)), (x8, .inr (3, ofL 12 Fx8)), (x9, .inl (G.2.1, 12, .inl ((fun _ => 0)))), (x30, .inl (G.2.1, 12, .inl ((fun _ => 0)))), (m0, .inr (12, ofL 88 (updV Fm0 0 (.int 0))))] := hD
      refine lv_iload hx hb dL_law_1521 (lv_at hl 1 rfl) ?_
      refine lv_icmp_eq (x := 0) (y := 1) (tgt := 1528) hx hb dL_law_1523 (by decide) (fun c_30 => ?_) (fun c_30 => ?_)
      · exact absurd c_30 (by decide)
      refine lv_iconst (v := 0) hx hb dL_law_1526 (by decide) ?_
      exfalso
      have e9_0 : (0 : Int32).toInt = 0 := by decide
      have e9_60 : (60 : Int32).toInt = 60 := by decide
      simp only [Int32.lt_iff_toInt_lt, Int32.le_iff_toInt_le] at c_4 c_15 c_16
      omega
  ·
    have hP : va_P G.1 vwCl [(m0, .inr (12, ofL 88 Fm0)), (m12, .inl (G.2.1, 48, .inl (fun _ => 0))), (m42, .inl (G.2.1, 48, .inl (fun _ => 0))), (aout, .inl (G.2.2.2.2, 1, .inr (.inl ((fun _ => 0))))), (x0, .inr (11, ofL 17 Fx0)), (x28, .inr (10, ofL 7 Fx28)), (x31, .inr (1, ofL 10 Fx31)), (x3, .inr (7, ofL 5 Fx3)), (x8, .inr (3, ofL 12 Fx8)), (x9, .inl (G.2.1, 12, .inl ((fun _ => 0)))), (x30, .inl (G.2.1, 12, .inl ((fun _ => 0))))] H := hP
    have hD : va_D A [(m0, .inr (12, ofL 88 Fm0)), (m12, .inl (G.2.1, 48, .inl (fun _ => 0))), (m42, .inl (G.2.1, 48, .inl (fun _ => 0))), (aout, .inl (G.2.2.2.2, 1, .inr (.inl ((fun _ => 0))))), (x0, .inr (11, ofL 17 Fx0)), (x28, .inr (10, ofL 7 Fx28)), (x31, .inr (1, ofL 10 Fx31)), (x3, .inr (7, ofL 5 Fx3)), (x8, .inr (3, ofL 12 Fx8)), (x9, .inl (G.2.1, 12, .inl ((fun _ => 0)))), (x30, .inl (G.2.1, 12, .inl ((fun _ => 0))))] := hD
    refine lv_istore (lv' := [(5, .int 1), (0, .ref b), (1, .ref x0), (2, .ref m0), (3, .ref aout), (4, .int 0)]) hx hb dL_law_1503 hl (by decide) rfl (fun ls hl => ?_)
    refine lv_aload_n hx hb dL_law_1505 rfl (lv_at hl 3 rfl) ?_
    refine lv_aload_n hx hb dL_law_1506 rfl (lv_at hl 1 rfl) ?_
    refine lv_iload hx hb dL_law_1507 (lv_at hl 5 rfl) ?_
    refine lv_iconst (v := 1) hx hb dL_law_1509 (by decide) ?_
    refine lv_iadd hx hb dL_law_1510 ?_
    refine k_eqi (y := 1) (by decide) ?_
    refine va_sld hx hb hX hbl hbA hS (k_in (by decide)) dL_law_1511 ?_
    refine k_eqi (y := v1) hv1 ?_
    refine k_callVi (wr := [(aout, .inl (G.2.2.2.2, 1, .inr (.inl ((fun _ => 0))))), (x0, .inr (11, ofL 17 Fx0)), (x28, .inr (10, ofL 7 Fx28)), (x31, .inr (1, ofL 10 Fx31)), (x3, .inr (7, ofL 5 Fx3)), (x8, .inr (3, ofL 12 Fx8)), (x9, .inl (G.2.1, 12, .inl ((fun _ => 0)))), (x30, .inl (G.2.1, 12, .inl ((fun _ => 0))))]) (rest := []) li_L_195 C (c_X12_bell l G H.size m0 v1 Fm0 m12 m42 (fun _ => 0) (fun _ => 0) e_m0_1 e_m0_16 e_m0_72) (kR rfl) hP hD hS [0, 1, 2] [3, 4, 5, 6, 7, 8, 9, 10] rfl rfl rfl rfl (by decide) 0 12 rfl rfl rfl hl.1 rfl (Nat.le_of_ble_eq_true rfl) dL_law_1512 (fun rr32 uu33 H locs hw31 hP hD hS => ?_)
    rcases hw31 with ⟨rfl, rfl, c_34⟩ | ⟨rfl, rfl, c_35, c_36⟩ | ⟨rfl, rfl, c_37, c_38⟩
    ·
      have hP : va_P G.1 vwCl [(aout, .inl (G.2.2.2.2, 1, .inr (.inl ((fun _ => 0))))), (x0, .inr (11, ofL 17 Fx0)), (x28, .inr (10, ofL 7 Fx28)), (x31, .inr (1, ofL 10 Fx31)), (x3, .inr (7, ofL 5 Fx3)), (x8, .inr (3, ofL 12 Fx8)), (x9, .inl (G.2.1, 12, .inl ((fun _ => 0)))), (x30, .inl (G.2.1, 12, .inl ((fun _ => 0)))), (m0, .inr (12, ofL 88 (updV (updV Fm0 0 (.int 0)) 0 (.int 1))))] H := hP
      have hD : va_D A [(aout, .inl (G.2.2.2.2, 1, .inr (.inl ((fun _ => 0))))), (x0, .inr (11, ofL 17 Fx0)), (x28, .inr (10, ofL 7 Fx28)), (x31, .inr (1, ofL 10 Fx31)), (x3, .inr (7, ofL 5 Fx3)), (x8, .inr (3, ofL 12 Fx8)), (x9, .inl (G.2.1, 12, .inl ((fun _ => 0)))), (x30, .inl (G.2.1, 12, .inl ((fun _ => 0)))), (m0, .inr (12, ofL 88 (updV (updV Fm0 0 (.int 0)) 0 (.int 1))))] := hD
      refine lv_istore (lv' := [(6, .int 0), (5, .int 1), (0, .ref b), (1, .ref x0), (2, .ref m0), (3, .ref aout), (4, .int 0)]) hx hb dL_law_1515 hl (by decide) rfl (fun ls hl => ?_)
      refine lv_aload_n hx hb dL_law_1517 rfl (lv_at hl 4 rfl) ?_
      refine k_callVi (wr := [(aout, .inl (G.2.2.2.2, 1, .inr (.inl ((fun _ => 0))))), (x0, .inr (11, ofL 17 Fx0)), (x28, .inr (10, ofL 7 Fx28)), (x31, .inr (1, ofL 10 Fx31)), (x3, .inr (7, ofL 5 Fx3)), (x8, .inr (3, ofL 12 Fx8)), (x9, .inl (G.2.1, 12, .inl ((fun _ => 0)))), (x30, .inl (G.2.1, 12, .inl ((fun _ => 0))))]) (rest := []) li_L_118 C (c_X12_thrown l G H.size m0 (updV (updV Fm0 0 (.int 0)) 0 (.int 1)) 1 rfl) (kR rfl) hP hD hS [8] [0, 1, 2, 3, 4, 5, 6, 7] rfl rfl rfl rfl (by decide) 0 12 rfl rfl rfl hl.1 rfl (Nat.le_of_ble_eq_true rfl) dL_law_1518 (fun rr40 uu41 H locs hw39 hP hD hS => ?_)
      obtain rfl : rr40 = 1 := hw39
      have hP : va_P G.1 vwCl [(aout, .inl (G.2.2.2.2, 1, .inr (.inl ((fun _ => 0))))), (x0, .inr (11, ofL 17 Fx0)), (x28, .inr (10, ofL 7 Fx28)), (x31, .inr (1, ofL 10 Fx31)), (x3, .inr (7, ofL 5 Fx3)), (x8, .inr (3, ofL 12 Fx8)), (x9, .inl (G.2.1, 12, .inl ((fun _ => 0)))), (x30, .inl (G.2.1, 12, .inl ((fun _ => 0)))), (m0, .inr (12, ofL 88 (updV (updV Fm0 0 (.int 0)) 0 (.int 1))))] H := hP
      have hD : va_D A [(aout, .inl (G.2.2.2.2, 1, .inr (.inl ((fun _ => 0))))), (x0, .inr (11, ofL 17 Fx0)), (x28, .inr (10, ofL 7 Fx28)), (x31, .inr (1, ofL 10 Fx31)), (x3, .inr (7, ofL 5 Fx3)), (x8, .inr (3, ofL 12 Fx8)), (x9, .inl (G.2.1, 12, .inl ((fun _ => 0)))), (x30, .inl (G.2.1, 12, .inl ((fun _ => 0)))), (m0, .inr (12, ofL 88 (updV (updV Fm0 0 (.int 0)) 0 (.int 1))))] := hD
      refine lv_iload hx hb dL_law_1521 (lv_at hl 1 rfl) ?_
      refine lv_icmp_eq (x := 1) (y := 1) (tgt := 1528) hx hb dL_law_1523 (by decide) (fun c_42 => ?_) (fun c_42 => ?_)
      rotate_left
      · exact absurd (by decide) c_42
      refine lv_iload hx hb dL_law_1528 (lv_at hl 1 rfl) ?_
      refine lv_if_ne (x := 1) (tgt := 1545) hx hb dL_law_1530 (by decide) (fun c_43 => ?_) (fun c_43 => ?_)
      rotate_left
      · exact absurd c_43 (by decide)
      refine lv_goto (tgt := 2265) hx hb dL_law_1545 (by decide) ?_
      exact law_end hst C0 hA C hS (lv_sub hl [2, 6] rfl) (Nat.le_of_ble_eq_true rfl) (Nat.le_of_ble_eq_true rfl)
    ·
      have hP : va_P G.1 vwCl [(aout, .inl (G.2.2.2.2, 1, .inr (.inl ((fun _ => 0))))), (x0, .inr (11, ofL 17 Fx0)), (x28, .inr (10, ofL 7 Fx28)), (x31, .inr (1, ofL 10 Fx31)), (x3, .inr (7, ofL 5 Fx3)), (x8, .inr (3, ofL 12 Fx8)), (x9, .inl (G.2.1, 12, .inl ((fun _ => 0)))), (x30, .inl (G.2.1, 12, .inl ((fun _ => 0)))), (m0, .inr (12, ofL 88 (updV (updV Fm0 0 (.int 0)) 0 (.int 1))))] H := hP
      have hD : va_D A [(aout, .inl (G.2.2.2.2, 1, .inr (.inl ((fun _ => 0))))), (x0, .inr (11, ofL 17 Fx0)), (x28, .inr (10, ofL 7 Fx28)), (x31, .inr (1, ofL 10 Fx31)), (x3, .inr (7, ofL 5 Fx3)), (x8, .inr (3, ofL 12 Fx8)), (x9, .inl (G.2.1, 12, .inl ((fun _ => 0)))), (x30, .inl (G.2.1, 12, .inl ((fun _ => 0)))), (m0, .inr (12, ofL 88 (updV (updV Fm0 0 (.int 0)) 0 (.int 1))))] := hD
      refine lv_istore (lv' := [(6, .int 0), (5, .int 1), (0, .ref b), (1, .ref x0), (2, .ref m0), (3, .ref aout), (4, .int 0)]) hx hb dL_law_1515 hl (by decide) rfl (fun ls hl => ?_)
      refine lv_aload_n hx hb dL_law_1517 rfl (lv_at hl 4 rfl) ?_
      refine k_callVi (wr := [(aout, .inl (G.2.2.2.2, 1, .inr (.inl ((fun _ => 0))))), (x0, .inr (11, ofL 17 Fx0)), (x28, .inr (10, ofL 7 Fx28)), (x31, .inr (1, ofL 10 Fx31)), (x3, .inr (7, ofL 5 Fx3)), (x8, .inr (3, ofL 12 Fx8)), (x9, .inl (G.2.1, 12, .inl ((fun _ => 0)))), (x30, .inl (G.2.1, 12, .inl ((fun _ => 0))))]) (rest := []) li_L_118 C (c_X12_thrown l G H.size m0 (updV (updV Fm0 0 (.int 0)) 0 (.int 1)) 1 rfl) (kR rfl) hP hD hS [8] [0, 1, 2, 3, 4, 5, 6, 7] rfl rfl rfl rfl (by decide) 0 12 rfl rfl rfl hl.1 rfl (Nat.le_of_ble_eq_true rfl) dL_law_1518 (fun rr45 uu46 H locs hw44 hP hD hS => ?_)
      obtain rfl : rr45 = 1 := hw44
      have hP : va_P G.1 vwCl [(aout, .inl (G.2.2.2.2, 1, .inr (.inl ((fun _ => 0))))), (x0, .inr (11, ofL 17 Fx0)), (x28, .inr (10, ofL 7 Fx28)), (x31, .inr (1, ofL 10 Fx31)), (x3, .inr (7, ofL 5 Fx3)), (x8, .inr (3, ofL 12 Fx8)), (x9, .inl (G.2.1, 12, .inl ((fun _ => 0)))), (x30, .inl (G.2.1, 12, .inl ((fun _ => 0)))), (m0, .inr (12, ofL 88 (updV (updV Fm0 0 (.int 0)) 0 (.int 1))))] H := hP
      have hD : va_D A [(aout, .inl (G.2.2.2.2, 1, .inr (.inl ((fun _ => 0))))), (x0, .inr (11, ofL 17 Fx0)), (x28, .inr (10, ofL 7 Fx28)), (x31, .inr (1, ofL 10 Fx31)), (x3, .inr (7, ofL 5 Fx3)), (x8, .inr (3, ofL 12 Fx8)), (x9, .inl (G.2.1, 12, .inl ((fun _ => 0)))), (x30, .inl (G.2.1, 12, .inl ((fun _ => 0)))), (m0, .inr (12, ofL 88 (updV (updV Fm0 0 (.int 0)) 0 (.int 1))))] := hD
      refine lv_iload hx hb dL_law_1521 (lv_at hl 1 rfl) ?_
      refine lv_icmp_eq (x := 1) (y := 1) (tgt := 1528) hx hb dL_law_1523 (by decide) (fun c_47 => ?_) (fun c_47 => ?_)
      rotate_left
      · exact absurd (by decide) c_47
      refine lv_iload hx hb dL_law_1528 (lv_at hl 1 rfl) ?_
      refine lv_if_ne (x := 1) (tgt := 1545) hx hb dL_law_1530 (by decide) (fun c_48 => ?_) (fun c_48 => ?_)
      rotate_left
      · exact absurd c_48 (by decide)
      refine lv_goto (tgt := 2265) hx hb dL_law_1545 (by decide) ?_
      exact law_end hst C0 hA C hS (lv_sub hl [2, 6] rfl) (Nat.le_of_ble_eq_true rfl) (Nat.le_of_ble_eq_true rfl)
    ·
      have hP : va_P G.1 vwCl [(aout, .inl (G.2.2.2.2, 1, .inr (.inl ((fun _ => 0))))), (x0, .inr (11, ofL 17 Fx0)), (x28, .inr (10, ofL 7 Fx28)), (x31, .inr (1, ofL 10 Fx31)), (x3, .inr (7, ofL 5 Fx3)), (x8, .inr (3, ofL 12 Fx8)), (x9, .inl (G.2.1, 12, .inl ((fun _ => 0)))), (x30, .inl (G.2.1, 12, .inl ((fun _ => 0)))), (m0, .inr (12, ofL 88 (updV Fm0 0 (.int 0))))] H := hP
      have hD : va_D A [(aout, .inl (G.2.2.2.2, 1, .inr (.inl ((fun _ => 0))))), (x0, .inr (11, ofL 17 Fx0)), (x28, .inr (10, ofL 7 Fx28)), (x31, .inr (1, ofL 10 Fx31)), (x3, .inr (7, ofL 5 Fx3)), (x8, .inr (3, ofL 12 Fx8)), (x9, .inl (G.2.1, 12, .inl ((fun _ => 0)))), (x30, .inl (G.2.1, 12, .inl ((fun _ => 0)))), (m0, .inr (12, ofL 88 (updV Fm0 0 (.int 0))))] := hD
      refine lv_istore (lv' := [(6, .int 0), (5, .int 1), (0, .ref b), (1, .ref x0), (2, .ref m0), (3, .ref aout), (4, .int 0)]) hx hb dL_law_1515 hl (by decide) rfl (fun ls hl => ?_)
      refine lv_aload_n hx hb dL_law_1517 rfl (lv_at hl 4 rfl) ?_
      refine k_callVi (wr := [(aout, .inl (G.2.2.2.2, 1, .inr (.inl ((fun _ => 0))))), (x0, .inr (11, ofL 17 Fx0)), (x28, .inr (10, ofL 7 Fx28)), (x31, .inr (1, ofL 10 Fx31)), (x3, .inr (7, ofL 5 Fx3)), (x8, .inr (3, ofL 12 Fx8)), (x9, .inl (G.2.1, 12, .inl ((fun _ => 0)))), (x30, .inl (G.2.1, 12, .inl ((fun _ => 0))))]) (rest := []) li_L_118 C (c_X12_thrown l G H.size m0 (updV Fm0 0 (.int 0)) 0 rfl) (kR rfl) hP hD hS [8] [0, 1, 2, 3, 4, 5, 6, 7] rfl rfl rfl rfl (by decide) 0 12 rfl rfl rfl hl.1 rfl (Nat.le_of_ble_eq_true rfl) dL_law_1518 (fun rr50 uu51 H locs hw49 hP hD hS => ?_)
      obtain rfl : rr50 = 0 := hw49
      have hP : va_P G.1 vwCl [(aout, .inl (G.2.2.2.2, 1, .inr (.inl ((fun _ => 0))))), (x0, .inr (11, ofL 17 Fx0)), (x28, .inr (10, ofL 7 Fx28)), (x31, .inr (1, ofL 10 Fx31)), (x3, .inr (7, ofL 5 Fx3)), (x8, .inr (3, ofL 12 Fx8)), (x9, .inl (G.2.1, 12, .inl ((fun _ => 0)))), (x30, .inl (G.2.1, 12, .inl ((fun _ => 0)))), (m0, .inr (12, ofL 88 (updV Fm0 0 (.int 0))))] H := hP
      have hD : va_D A [(aout, .inl (G.2.2.2.2, 1, .inr (.inl ((fun _ => 0))))), (x0, .inr (11, ofL 17 Fx0)), (x28, .inr (10, ofL 7 Fx28)), (x31, .inr (1, ofL 10 Fx31)), (x3, .inr (7, ofL 5 Fx3)), (x8, .inr (3, ofL 12 Fx8)), (x9, .inl (G.2.1, 12, .inl ((fun _ => 0)))), (x30, .inl (G.2.1, 12, .inl ((fun _ => 0)))), (m0, .inr (12, ofL 88 (updV Fm0 0 (.int 0))))] := hD
      refine lv_iload hx hb dL_law_1521 (lv_at hl 1 rfl) ?_
      refine lv_icmp_eq (x := 0) (y := 1) (tgt := 1528) hx hb dL_law_1523 (by decide) (fun c_52 => ?_) (fun c_52 => ?_)
      · exact absurd c_52 (by decide)
      refine lv_iconst (v := 0) hx hb dL_law_1526 (by decide) ?_
      exfalso
      have e9_0 : (0 : Int32).toInt = 0 := by decide
      have e9_60 : (60 : Int32).toInt = 60 := by decide
      simp only [Int32.lt_iff_toInt_lt, Int32.le_iff_toInt_le] at c_5 c_6 c_37 c_38
      omega
  ·
    have hP : va_P G.1 vwCl [(m0, .inr (12, ofL 88 Fm0)), (m12, .inl (G.2.1, 48, .inl (fun _ => 0))), (m42, .inl (G.2.1, 48, .inl (fun _ => 0))), (aout, .inl (G.2.2.2.2, 1, .inr (.inl (vp_updL (fun _ => 0) 0 0)))), (x0, .inr (11, ofL 17 Fx0)), (x8, .inr (3, ofL 12 Fx8)), (x9, .inl (G.2.1, 12, .inl (va_cpy (va_cpy (fun _ => 0) (fun _ => 0) 0 0 12) (fun _ => 0) 0 0 12))), (x30, .inl (G.2.1, 12, .inl (va_cpy (fun _ => 0) (fun _ => 0) 0 0 12))), (x28, .inr (10, ofL 7 Fx28)), (x31, .inr (1, ofL 10 Fx31)), (x3, .inr (7, ofL 5 Fx3))] H := hP
    have hD : va_D A [(m0, .inr (12, ofL 88 Fm0)), (m12, .inl (G.2.1, 48, .inl (fun _ => 0))), (m42, .inl (G.2.1, 48, .inl (fun _ => 0))), (aout, .inl (G.2.2.2.2, 1, .inr (.inl (vp_updL (fun _ => 0) 0 0)))), (x0, .inr (11, ofL 17 Fx0)), (x8, .inr (3, ofL 12 Fx8)), (x9, .inl (G.2.1, 12, .inl (va_cpy (va_cpy (fun _ => 0) (fun _ => 0) 0 0 12) (fun _ => 0) 0 0 12))), (x30, .inl (G.2.1, 12, .inl (va_cpy (fun _ => 0) (fun _ => 0) 0 0 12))), (x28, .inr (10, ofL 7 Fx28)), (x31, .inr (1, ofL 10 Fx31)), (x3, .inr (7, ofL 5 Fx3))] := hD
    refine lv_istore (lv' := [(5, .int 0), (0, .ref b), (1, .ref x0), (2, .ref m0), (3, .ref aout), (4, .int 0)]) hx hb dL_law_1503 hl (by decide) rfl (fun ls hl => ?_)
    refine lv_aload_n hx hb dL_law_1505 rfl (lv_at hl 3 rfl) ?_
    refine lv_aload_n hx hb dL_law_1506 rfl (lv_at hl 1 rfl) ?_
    refine lv_iload hx hb dL_law_1507 (lv_at hl 5 rfl) ?_
    refine lv_iconst (v := 1) hx hb dL_law_1509 (by decide) ?_
    refine lv_iadd hx hb dL_law_1510 ?_
    refine k_eqi (y := 1) (by decide) ?_
    refine va_sld hx hb hX hbl hbA hS (k_in (by decide)) dL_law_1511 ?_
    refine k_eqi (y := v1) hv1 ?_
    refine k_callVi (wr := [(aout, .inl (G.2.2.2.2, 1, .inr (.inl (vp_updL (fun _ => 0) 0 0)))), (x0, .inr (11, ofL 17 Fx0)), (x8, .inr (3, ofL 12 Fx8)), (x9, .inl (G.2.1, 12, .inl (va_cpy (va_cpy (fun _ => 0) (fun _ => 0) 0 0 12) (fun _ => 0) 0 0 12))), (x30, .inl (G.2.1, 12, .inl (va_cpy (fun _ => 0) (fun _ => 0) 0 0 12))), (x28, .inr (10, ofL 7 Fx28)), (x31, .inr (1, ofL 10 Fx31)), (x3, .inr (7, ofL 5 Fx3))]) (rest := []) li_L_195 C (c_X12_bell l G H.size m0 v1 Fm0 m12 m42 (fun _ => 0) (fun _ => 0) e_m0_1 e_m0_16 e_m0_72) (kR rfl) hP hD hS [0, 1, 2] [3, 4, 5, 6, 7, 8, 9, 10] rfl rfl rfl rfl (by decide) 0 12 rfl rfl rfl hl.1 rfl (Nat.le_of_ble_eq_true rfl) dL_law_1512 (fun rr54 uu55 H locs hw53 hP hD hS => ?_)
    rcases hw53 with ⟨rfl, rfl, c_56⟩ | ⟨rfl, rfl, c_57, c_58⟩ | ⟨rfl, rfl, c_59, c_60⟩
    ·
      have hP : va_P G.1 vwCl [(aout, .inl (G.2.2.2.2, 1, .inr (.inl (vp_updL (fun _ => 0) 0 0)))), (x0, .inr (11, ofL 17 Fx0)), (x8, .inr (3, ofL 12 Fx8)), (x9, .inl (G.2.1, 12, .inl (va_cpy (va_cpy (fun _ => 0) (fun _ => 0) 0 0 12) (fun _ => 0) 0 0 12))), (x30, .inl (G.2.1, 12, .inl (va_cpy (fun _ => 0) (fun _ => 0) 0 0 12))), (x28, .inr (10, ofL 7 Fx28)), (x31, .inr (1, ofL 10 Fx31)), (x3, .inr (7, ofL 5 Fx3)), (m0, .inr (12, ofL 88 (updV (updV Fm0 0 (.int 0)) 0 (.int 1))))] H := hP
      have hD : va_D A [(aout, .inl (G.2.2.2.2, 1, .inr (.inl (vp_updL (fun _ => 0) 0 0)))), (x0, .inr (11, ofL 17 Fx0)), (x8, .inr (3, ofL 12 Fx8)), (x9, .inl (G.2.1, 12, .inl (va_cpy (va_cpy (fun _ => 0) (fun _ => 0) 0 0 12) (fun _ => 0) 0 0 12))), (x30, .inl (G.2.1, 12, .inl (va_cpy (fun _ => 0) (fun _ => 0) 0 0 12))), (x28, .inr (10, ofL 7 Fx28)), (x31, .inr (1, ofL 10 Fx31)), (x3, .inr (7, ofL 5 Fx3)), (m0, .inr (12, ofL 88 (updV (updV Fm0 0 (.int 0)) 0 (.int 1))))] := hD
      refine lv_istore (lv' := [(6, .int 0), (5, .int 0), (0, .ref b), (1, .ref x0), (2, .ref m0), (3, .ref aout), (4, .int 0)]) hx hb dL_law_1515 hl (by decide) rfl (fun ls hl => ?_)
      refine lv_aload_n hx hb dL_law_1517 rfl (lv_at hl 4 rfl) ?_
      refine k_callVi (wr := [(aout, .inl (G.2.2.2.2, 1, .inr (.inl (vp_updL (fun _ => 0) 0 0)))), (x0, .inr (11, ofL 17 Fx0)), (x8, .inr (3, ofL 12 Fx8)), (x9, .inl (G.2.1, 12, .inl (va_cpy (va_cpy (fun _ => 0) (fun _ => 0) 0 0 12) (fun _ => 0) 0 0 12))), (x30, .inl (G.2.1, 12, .inl (va_cpy (fun _ => 0) (fun _ => 0) 0 0 12))), (x28, .inr (10, ofL 7 Fx28)), (x31, .inr (1, ofL 10 Fx31)), (x3, .inr (7, ofL 5 Fx3))]) (rest := []) li_L_118 C (c_X12_thrown l G H.size m0 (updV (updV Fm0 0 (.int 0)) 0 (.int 1)) 1 rfl) (kR rfl) hP hD hS [8] [0, 1, 2, 3, 4, 5, 6, 7] rfl rfl rfl rfl (by decide) 0 12 rfl rfl rfl hl.1 rfl (Nat.le_of_ble_eq_true rfl) dL_law_1518 (fun rr62 uu63 H locs hw61 hP hD hS => ?_)
      obtain rfl : rr62 = 1 := hw61
      have hP : va_P G.1 vwCl [(aout, .inl (G.2.2.2.2, 1, .inr (.inl (vp_updL (fun _ => 0) 0 0)))), (x0, .inr (11, ofL 17 Fx0)), (x8, .inr (3, ofL 12 Fx8)), (x9, .inl (G.2.1, 12, .inl (va_cpy (va_cpy (fun _ => 0) (fun _ => 0) 0 0 12) (fun _ => 0) 0 0 12))), (x30, .inl (G.2.1, 12, .inl (va_cpy (fun _ => 0) (fun _ => 0) 0 0 12))), (x28, .inr (10, ofL 7 Fx28)), (x31, .inr (1, ofL 10 Fx31)), (x3, .inr (7, ofL 5 Fx3)), (m0, .inr (12, ofL 88 (updV (updV Fm0 0 (.int 0)) 0 (.int 1))))] H := hP
      have hD : va_D A [(aout, .inl (G.2.2.2.2, 1, .inr (.inl (vp_updL (fun _ => 0) 0 0)))), (x0, .inr (11, ofL 17 Fx0)), (x8, .inr (3, ofL 12 Fx8)), (x9, .inl (G.2.1, 12, .inl (va_cpy (va_cpy (fun _ => 0) (fun _ => 0) 0 0 12) (fun _ => 0) 0 0 12))), (x30, .inl (G.2.1, 12, .inl (va_cpy (fun _ => 0) (fun _ => 0) 0 0 12))), (x28, .inr (10, ofL 7 Fx28)), (x31, .inr (1, ofL 10 Fx31)), (x3, .inr (7, ofL 5 Fx3)), (m0, .inr (12, ofL 88 (updV (updV Fm0 0 (.int 0)) 0 (.int 1))))] := hD
      refine lv_iload hx hb dL_law_1521 (lv_at hl 1 rfl) ?_
      refine lv_icmp_eq (x := 1) (y := 0) (tgt := 1528) hx hb dL_law_1523 (by decide) (fun c_64 => ?_) (fun c_64 => ?_)
      · exact absurd c_64 (by decide)
      refine lv_iconst (v := 0) hx hb dL_law_1526 (by decide) ?_
      exfalso
      have e9_0 : (0 : Int32).toInt = 0 := by decide
      have e9_60 : (60 : Int32).toInt = 60 := by decide
      simp only [Int32.lt_iff_toInt_lt, Int32.le_iff_toInt_le] at c_7 c_8 c_56
      omega
    ·
      have hP : va_P G.1 vwCl [(aout, .inl (G.2.2.2.2, 1, .inr (.inl (vp_updL (fun _ => 0) 0 0)))), (x0, .inr (11, ofL 17 Fx0)), (x8, .inr (3, ofL 12 Fx8)), (x9, .inl (G.2.1, 12, .inl (va_cpy (va_cpy (fun _ => 0) (fun _ => 0) 0 0 12) (fun _ => 0) 0 0 12))), (x30, .inl (G.2.1, 12, .inl (va_cpy (fun _ => 0) (fun _ => 0) 0 0 12))), (x28, .inr (10, ofL 7 Fx28)), (x31, .inr (1, ofL 10 Fx31)), (x3, .inr (7, ofL 5 Fx3)), (m0, .inr (12, ofL 88 (updV (updV Fm0 0 (.int 0)) 0 (.int 1))))] H := hP
      have hD : va_D A [(aout, .inl (G.2.2.2.2, 1, .inr (.inl (vp_updL (fun _ => 0) 0 0)))), (x0, .inr (11, ofL 17 Fx0)), (x8, .inr (3, ofL 12 Fx8)), (x9, .inl (G.2.1, 12, .inl (va_cpy (va_cpy (fun _ => 0) (fun _ => 0) 0 0 12) (fun _ => 0) 0 0 12))), (x30, .inl (G.2.1, 12, .inl (va_cpy (fun _ => 0) (fun _ => 0) 0 0 12))), (x28, .inr (10, ofL 7 Fx28)), (x31, .inr (1, ofL 10 Fx31)), (x3, .inr (7, ofL 5 Fx3)), (m0, .inr (12, ofL 88 (updV (updV Fm0 0 (.int 0)) 0 (.int 1))))] := hD
      refine lv_istore (lv' := [(6, .int 0), (5, .int 0), (0, .ref b), (1, .ref x0), (2, .ref m0), (3, .ref aout), (4, .int 0)]) hx hb dL_law_1515 hl (by decide) rfl (fun ls hl => ?_)
      refine lv_aload_n hx hb dL_law_1517 rfl (lv_at hl 4 rfl) ?_
      refine k_callVi (wr := [(aout, .inl (G.2.2.2.2, 1, .inr (.inl (vp_updL (fun _ => 0) 0 0)))), (x0, .inr (11, ofL 17 Fx0)), (x8, .inr (3, ofL 12 Fx8)), (x9, .inl (G.2.1, 12, .inl (va_cpy (va_cpy (fun _ => 0) (fun _ => 0) 0 0 12) (fun _ => 0) 0 0 12))), (x30, .inl (G.2.1, 12, .inl (va_cpy (fun _ => 0) (fun _ => 0) 0 0 12))), (x28, .inr (10, ofL 7 Fx28)), (x31, .inr (1, ofL 10 Fx31)), (x3, .inr (7, ofL 5 Fx3))]) (rest := []) li_L_118 C (c_X12_thrown l G H.size m0 (updV (updV Fm0 0 (.int 0)) 0 (.int 1)) 1 rfl) (kR rfl) hP hD hS [8] [0, 1, 2, 3, 4, 5, 6, 7] rfl rfl rfl rfl (by decide) 0 12 rfl rfl rfl hl.1 rfl (Nat.le_of_ble_eq_true rfl) dL_law_1518 (fun rr66 uu67 H locs hw65 hP hD hS => ?_)
      obtain rfl : rr66 = 1 := hw65
      have hP : va_P G.1 vwCl [(aout, .inl (G.2.2.2.2, 1, .inr (.inl (vp_updL (fun _ => 0) 0 0)))), (x0, .inr (11, ofL 17 Fx0)), (x8, .inr (3, ofL 12 Fx8)), (x9, .inl (G.2.1, 12, .inl (va_cpy (va_cpy (fun _ => 0) (fun _ => 0) 0 0 12) (fun _ => 0) 0 0 12))), (x30, .inl (G.2.1, 12, .inl (va_cpy (fun _ => 0) (fun _ => 0) 0 0 12))), (x28, .inr (10, ofL 7 Fx28)), (x31, .inr (1, ofL 10 Fx31)), (x3, .inr (7, ofL 5 Fx3)), (m0, .inr (12, ofL 88 (updV (updV Fm0 0 (.int 0)) 0 (.int 1))))] H := hP
      have hD : va_D A [(aout, .inl (G.2.2.2.2, 1, .inr (.inl (vp_updL (fun _ => 0) 0 0)))), (x0, .inr (11, ofL 17 Fx0)), (x8, .inr (3, ofL 12 Fx8)), (x9, .inl (G.2.1, 12, .inl (va_cpy (va_cpy (fun _ => 0) (fun _ => 0) 0 0 12) (fun _ => 0) 0 0 12))), (x30, .inl (G.2.1, 12, .inl (va_cpy (fun _ => 0) (fun _ => 0) 0 0 12))), (x28, .inr (10, ofL 7 Fx28)), (x31, .inr (1, ofL 10 Fx31)), (x3, .inr (7, ofL 5 Fx3)), (m0, .inr (12, ofL 88 (updV (updV Fm0 0 (.int 0)) 0 (.int 1))))] := hD
      refine lv_iload hx hb dL_law_1521 (lv_at hl 1 rfl) ?_
      refine lv_icmp_eq (x := 1) (y := 0) (tgt := 1528) hx hb dL_law_1523 (by decide) (fun c_68 => ?_) (fun c_68 => ?_)
      · exact absurd c_68 (by decide)
      refine lv_iconst (v := 0) hx hb dL_law_1526 (by decide) ?_
      exfalso
      have e9_0 : (0 : Int32).toInt = 0 := by decide
      have e9_60 : (60 : Int32).toInt = 60 := by decide
      simp only [Int32.lt_iff_toInt_lt, Int32.le_iff_toInt_le] at c_7 c_8 c_57 c_58
      omega
    ·
      have hP : va_P G.1 vwCl [(aout, .inl (G.2.2.2.2, 1, .inr (.inl (vp_updL (fun _ => 0) 0 0)))), (x0, .inr (11, ofL 17 Fx0)), (x8, .inr (3, ofL 12 Fx8)), (x9, .inl (G.2.1, 12, .inl (va_cpy (va_cpy (fun _ => 0) (fun _ => 0) 0 0 12) (fun _ => 0) 0 0 12))), (x30, .inl (G.2.1, 12, .inl (va_cpy (fun _ => 0) (fun _ => 0) 0 0 12))), (x28, .inr (10, ofL 7 Fx28)), (x31, .inr (1, ofL 10 Fx31)), (x3, .inr (7, ofL 5 Fx3)), (m0, .inr (12, ofL 88 (updV Fm0 0 (.int 0))))] H := hP
      have hD : va_D A [(aout, .inl (G.2.2.2.2, 1, .inr (.inl (vp_updL (fun _ => 0) 0 0)))), (x0, .inr (11, ofL 17 Fx0)), (x8, .inr (3, ofL 12 Fx8)), (x9, .inl (G.2.1, 12, .inl (va_cpy (va_cpy (fun _ => 0) (fun _ => 0) 0 0 12) (fun _ => 0) 0 0 12))), (x30, .inl (G.2.1, 12, .inl (va_cpy (fun _ => 0) (fun _ => 0) 0 0 12))), (x28, .inr (10, ofL 7 Fx28)), (x31, .inr (1, ofL 10 Fx31)), (x3, .inr (7, ofL 5 Fx3)), (m0, .inr (12, ofL 88 (updV Fm0 0 (.int 0))))] := hD
      refine lv_istore (lv' := [(6, .int 0), (5, .int 0), (0, .ref b), (1, .ref x0), (2, .ref m0), (3, .ref aout), (4, .int 0)]) hx hb dL_law_1515 hl (by decide) rfl (fun ls hl => ?_)
      refine lv_aload_n hx hb dL_law_1517 rfl (lv_at hl 4 rfl) ?_
      refine k_callVi (wr := [(aout, .inl (G.2.2.2.2, 1, .inr (.inl (vp_updL (fun _ => 0) 0 0)))), (x0, .inr (11, ofL 17 Fx0)), (x8, .inr (3, ofL 12 Fx8)), (x9, .inl (G.2.1, 12, .inl (va_cpy (va_cpy (fun _ => 0) (fun _ => 0) 0 0 12) (fun _ => 0) 0 0 12))), (x30, .inl (G.2.1, 12, .inl (va_cpy (fun _ => 0) (fun _ => 0) 0 0 12))), (x28, .inr (10, ofL 7 Fx28)), (x31, .inr (1, ofL 10 Fx31)), (x3, .inr (7, ofL 5 Fx3))]) (rest := []) li_L_118 C (c_X12_thrown l G H.size m0 (updV Fm0 0 (.int 0)) 0 rfl) (kR rfl) hP hD hS [8] [0, 1, 2, 3, 4, 5, 6, 7] rfl rfl rfl rfl (by decide) 0 12 rfl rfl rfl hl.1 rfl (Nat.le_of_ble_eq_true rfl) dL_law_1518 (fun rr70 uu71 H locs hw69 hP hD hS => ?_)
      obtain rfl : rr70 = 0 := hw69
      have hP : va_P G.1 vwCl [(aout, .inl (G.2.2.2.2, 1, .inr (.inl (vp_updL (fun _ => 0) 0 0)))), (x0, .inr (11, ofL 17 Fx0)), (x8, .inr (3, ofL 12 Fx8)), (x9, .inl (G.2.1, 12, .inl (va_cpy (va_cpy (fun _ => 0) (fun _ => 0) 0 0 12) (fun _ => 0) 0 0 12))), (x30, .inl (G.2.1, 12, .inl (va_cpy (fun _ => 0) (fun _ => 0) 0 0 12))), (x28, .inr (10, ofL 7 Fx28)), (x31, .inr (1, ofL 10 Fx31)), (x3, .inr (7, ofL 5 Fx3)), (m0, .inr (12, ofL 88 (updV Fm0 0 (.int 0))))] H := hP
      have hD : va_D A [(aout, .inl (G.2.2.2.2, 1, .inr (.inl (vp_updL (fun _ => 0) 0 0)))), (x0, .inr (11, ofL 17 Fx0)), (x8, .inr (3, ofL 12 Fx8)), (x9, .inl (G.2.1, 12, .inl (va_cpy (va_cpy (fun _ => 0) (fun _ => 0) 0 0 12) (fun _ => 0) 0 0 12))), (x30, .inl (G.2.1, 12, .inl (va_cpy (fun _ => 0) (fun _ => 0) 0 0 12))), (x28, .inr (10, ofL 7 Fx28)), (x31, .inr (1, ofL 10 Fx31)), (x3, .inr (7, ofL 5 Fx3)), (m0, .inr (12, ofL 88 (updV Fm0 0 (.int 0))))] := hD
      refine lv_iload hx hb dL_law_1521 (lv_at hl 1 rfl) ?_
      refine lv_icmp_eq (x := 0) (y := 0) (tgt := 1528) hx hb dL_law_1523 (by decide) (fun c_72 => ?_) (fun c_72 => ?_)
      rotate_left
      · exact absurd (by decide) c_72
      refine lv_iload hx hb dL_law_1528 (lv_at hl 1 rfl) ?_
      refine lv_if_ne (x := 0) (tgt := 1545) hx hb dL_law_1530 (by decide) (fun c_73 => ?_) (fun c_73 => ?_)
      · exact absurd (by decide) c_73
      refine lv_aload_n hx hb dL_law_1533 rfl (lv_at hl 5 rfl) ?_
      refine lv_iconst (v := 0) hx hb dL_law_1534 (by decide) ?_
      refine k_lald C hP 0 rfl (k_in (by decide)) dL_law_1535 ?_
      refine k_eql (y := 0) rfl ?_
      refine lv_iload hx hb dL_law_1536 (lv_at hl 0 rfl) ?_
      refine lv_i2l (v := 0) hx hb dL_law_1538 (by decide) ?_
      refine W.lcmp hx hb dL_law_1539 ?_
      refine k_eqi (y := 0) (by decide) ?_
      refine lv_if_eq (x := 0) (tgt := 1545) hx hb dL_law_1540 (by decide) (fun c_74 => ?_) (fun c_74 => ?_)
      rotate_left
      · exact absurd (by decide) c_74
      refine lv_goto (tgt := 2265) hx hb dL_law_1545 (by decide) ?_
      exact law_end hst C0 hA C hS (lv_sub hl [2, 6] rfl) (Nat.le_of_ble_eq_true rfl) (Nat.le_of_ble_eq_true rfl)
