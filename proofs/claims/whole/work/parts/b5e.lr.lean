-- THE LAW: words, decode rows
theorem dl_1168 : decode lw_Y.2.1 1168 = .ok (.iadd, 1) := by decide +kernel
theorem dl_1169 : decode lw_Y.2.1 1169 = .ok (.iaload, 1) := by decide +kernel
theorem dl_1170 : decode lw_Y.2.1 1170 = .ok (.aload_n 0, 1) := by decide +kernel
theorem dl_1171 : decode lw_Y.2.1 1171 = .ok (.iload_n 3, 1) := by decide +kernel
theorem dl_1172 : decode lw_Y.2.1 1172 = .ok (.iconst 3, 1) := by decide +kernel
theorem dl_1173 : decode lw_Y.2.1 1173 = .ok (.iadd, 1) := by decide +kernel
theorem dl_1174 : decode lw_Y.2.1 1174 = .ok (.iaload, 1) := by decide +kernel
theorem dl_1175 : decode lw_Y.2.1 1175 = .ok (.invokevirtual 130, 3) := by decide +kernel
theorem dl_1178 : decode lw_Y.2.1 1178 = .ok (.aload_n 2, 1) := by decide +kernel
theorem dl_1179 : decode lw_Y.2.1 1179 = .ok (.aload_n 0, 1) := by decide +kernel
theorem dl_1180 : decode lw_Y.2.1 1180 = .ok (.iload_n 3, 1) := by decide +kernel
theorem dl_1181 : decode lw_Y.2.1 1181 = .ok (.iconst 1, 1) := by decide +kernel
theorem dl_1182 : decode lw_Y.2.1 1182 = .ok (.iadd, 1) := by decide +kernel
theorem dl_1183 : decode lw_Y.2.1 1183 = .ok (.iaload, 1) := by decide +kernel
theorem dl_1184 : decode lw_Y.2.1 1184 = .ok (.aload_n 0, 1) := by decide +kernel
theorem dl_1185 : decode lw_Y.2.1 1185 = .ok (.iload_n 3, 1) := by decide +kernel
theorem dl_1186 : decode lw_Y.2.1 1186 = .ok (.iconst 2, 1) := by decide +kernel
theorem dl_1187 : decode lw_Y.2.1 1187 = .ok (.iadd, 1) := by decide +kernel
theorem dl_1188 : decode lw_Y.2.1 1188 = .ok (.iaload, 1) := by decide +kernel
theorem dl_1189 : decode lw_Y.2.1 1189 = .ok (.aload_n 0, 1) := by decide +kernel
theorem dl_1190 : decode lw_Y.2.1 1190 = .ok (.iload_n 3, 1) := by decide +kernel
theorem dl_1191 : decode lw_Y.2.1 1191 = .ok (.iconst 3, 1) := by decide +kernel
theorem dl_1192 : decode lw_Y.2.1 1192 = .ok (.iadd, 1) := by decide +kernel
theorem dl_1193 : decode lw_Y.2.1 1193 = .ok (.iaload, 1) := by decide +kernel
theorem dl_1194 : decode lw_Y.2.1 1194 = .ok (.invokevirtual 133, 3) := by decide +kernel
theorem dl_1197 : decode lw_Y.2.1 1197 = .ok (.if_icmp .eq 226, 3) := by decide +kernel
theorem dl_1200 : decode lw_Y.2.1 1200 = .ok (.iconst 0, 1) := by decide +kernel
theorem dl_1201 : decode lw_Y.2.1 1201 = .ok (.ireturn, 1) := by decide +kernel
theorem dl_1202 : decode lw_Y.2.1 1202 = .ok (.aload_n 1, 1) := by decide +kernel
theorem dl_1203 : decode lw_Y.2.1 1203 = .ok (.aload_n 0, 1) := by decide +kernel
theorem dl_1204 : decode lw_Y.2.1 1204 = .ok (.iload_n 3, 1) := by decide +kernel
theorem dl_1205 : decode lw_Y.2.1 1205 = .ok (.iconst 1, 1) := by decide +kernel
theorem dl_1206 : decode lw_Y.2.1 1206 = .ok (.iadd, 1) := by decide +kernel
theorem dl_1207 : decode lw_Y.2.1 1207 = .ok (.iaload, 1) := by decide +kernel
theorem dl_1208 : decode lw_Y.2.1 1208 = .ok (.aload_n 0, 1) := by decide +kernel
theorem dl_1209 : decode lw_Y.2.1 1209 = .ok (.iload_n 3, 1) := by decide +kernel
theorem dl_1210 : decode lw_Y.2.1 1210 = .ok (.iconst 2, 1) := by decide +kernel
theorem dl_1211 : decode lw_Y.2.1 1211 = .ok (.iadd, 1) := by decide +kernel
theorem dl_1212 : decode lw_Y.2.1 1212 = .ok (.iaload, 1) := by decide +kernel
theorem dl_1213 : decode lw_Y.2.1 1213 = .ok (.aload_n 0, 1) := by decide +kernel
theorem dl_1214 : decode lw_Y.2.1 1214 = .ok (.iload_n 3, 1) := by decide +kernel
theorem dl_1215 : decode lw_Y.2.1 1215 = .ok (.iconst 3, 1) := by decide +kernel
theorem dl_1216 : decode lw_Y.2.1 1216 = .ok (.iadd, 1) := by decide +kernel
theorem dl_1217 : decode lw_Y.2.1 1217 = .ok (.iaload, 1) := by decide +kernel
theorem dl_1218 : decode lw_Y.2.1 1218 = .ok (.invokevirtual 134, 3) := by decide +kernel
theorem dl_1221 : decode lw_Y.2.1 1221 = .ok (.aload_n 2, 1) := by decide +kernel
theorem dl_1222 : decode lw_Y.2.1 1222 = .ok (.aload_n 0, 1) := by decide +kernel
theorem dl_1223 : decode lw_Y.2.1 1223 = .ok (.iload_n 3, 1) := by decide +kernel
theorem dl_1224 : decode lw_Y.2.1 1224 = .ok (.iconst 1, 1) := by decide +kernel
theorem dl_1225 : decode lw_Y.2.1 1225 = .ok (.iadd, 1) := by decide +kernel
theorem dl_1226 : decode lw_Y.2.1 1226 = .ok (.iaload, 1) := by decide +kernel
theorem dl_1227 : decode lw_Y.2.1 1227 = .ok (.aload_n 0, 1) := by decide +kernel
theorem dl_1228 : decode lw_Y.2.1 1228 = .ok (.iload_n 3, 1) := by decide +kernel
theorem dl_1229 : decode lw_Y.2.1 1229 = .ok (.iconst 2, 1) := by decide +kernel
theorem dl_1230 : decode lw_Y.2.1 1230 = .ok (.iadd, 1) := by decide +kernel
theorem dl_1231 : decode lw_Y.2.1 1231 = .ok (.iaload, 1) := by decide +kernel
theorem dl_1232 : decode lw_Y.2.1 1232 = .ok (.aload_n 0, 1) := by decide +kernel
theorem dl_1233 : decode lw_Y.2.1 1233 = .ok (.iload_n 3, 1) := by decide +kernel
theorem dl_1234 : decode lw_Y.2.1 1234 = .ok (.iconst 3, 1) := by decide +kernel
theorem dl_1235 : decode lw_Y.2.1 1235 = .ok (.iadd, 1) := by decide +kernel
theorem dl_1236 : decode lw_Y.2.1 1236 = .ok (.iaload, 1) := by decide +kernel
theorem dl_1237 : decode lw_Y.2.1 1237 = .ok (.invokevirtual 137, 3) := by decide +kernel
theorem dl_1240 : decode lw_Y.2.1 1240 = .ok (.if_icmp .eq 183, 3) := by decide +kernel
theorem dl_1243 : decode lw_Y.2.1 1243 = .ok (.iconst 0, 1) := by decide +kernel
theorem dl_1244 : decode lw_Y.2.1 1244 = .ok (.ireturn, 1) := by decide +kernel
theorem dl_1245 : decode lw_Y.2.1 1245 = .ok (.aload_n 1, 1) := by decide +kernel
theorem dl_1246 : decode lw_Y.2.1 1246 = .ok (.aload_n 0, 1) := by decide +kernel
theorem dl_1247 : decode lw_Y.2.1 1247 = .ok (.iload_n 3, 1) := by decide +kernel
theorem dl_1248 : decode lw_Y.2.1 1248 = .ok (.iconst 1, 1) := by decide +kernel
theorem dl_1249 : decode lw_Y.2.1 1249 = .ok (.iadd, 1) := by decide +kernel
theorem dl_1250 : decode lw_Y.2.1 1250 = .ok (.iaload, 1) := by decide +kernel
theorem dl_1251 : decode lw_Y.2.1 1251 = .ok (.aload_n 0, 1) := by decide +kernel
theorem dl_1252 : decode lw_Y.2.1 1252 = .ok (.iload_n 3, 1) := by decide +kernel
theorem dl_1253 : decode lw_Y.2.1 1253 = .ok (.iconst 2, 1) := by decide +kernel
theorem dl_1254 : decode lw_Y.2.1 1254 = .ok (.iadd, 1) := by decide +kernel
theorem dl_1255 : decode lw_Y.2.1 1255 = .ok (.iaload, 1) := by decide +kernel
theorem dl_1256 : decode lw_Y.2.1 1256 = .ok (.invokevirtual 138, 3) := by decide +kernel
theorem dl_1259 : decode lw_Y.2.1 1259 = .ok (.aload_n 2, 1) := by decide +kernel
theorem dl_1260 : decode lw_Y.2.1 1260 = .ok (.aload_n 0, 1) := by decide +kernel
theorem dl_1261 : decode lw_Y.2.1 1261 = .ok (.iload_n 3, 1) := by decide +kernel
theorem dl_1262 : decode lw_Y.2.1 1262 = .ok (.iconst 1, 1) := by decide +kernel
theorem dl_1263 : decode lw_Y.2.1 1263 = .ok (.iadd, 1) := by decide +kernel
theorem dl_1264 : decode lw_Y.2.1 1264 = .ok (.iaload, 1) := by decide +kernel
theorem dl_1265 : decode lw_Y.2.1 1265 = .ok (.aload_n 0, 1) := by decide +kernel
theorem dl_1266 : decode lw_Y.2.1 1266 = .ok (.iload_n 3, 1) := by decide +kernel
theorem dl_1267 : decode lw_Y.2.1 1267 = .ok (.iconst 2, 1) := by decide +kernel
theorem dl_1268 : decode lw_Y.2.1 1268 = .ok (.iadd, 1) := by decide +kernel
theorem dl_1269 : decode lw_Y.2.1 1269 = .ok (.iaload, 1) := by decide +kernel
theorem dl_1270 : decode lw_Y.2.1 1270 = .ok (.invokevirtual 141, 3) := by decide +kernel
theorem dl_1273 : decode lw_Y.2.1 1273 = .ok (.if_icmp .eq 150, 3) := by decide +kernel
theorem dl_1276 : decode lw_Y.2.1 1276 = .ok (.iconst 0, 1) := by decide +kernel
theorem dl_1277 : decode lw_Y.2.1 1277 = .ok (.ireturn, 1) := by decide +kernel
theorem dl_1278 : decode lw_Y.2.1 1278 = .ok (.aload_n 1, 1) := by decide +kernel
theorem dl_1279 : decode lw_Y.2.1 1279 = .ok (.aload_n 0, 1) := by decide +kernel
theorem dl_1280 : decode lw_Y.2.1 1280 = .ok (.iload_n 3, 1) := by decide +kernel
theorem dl_1281 : decode lw_Y.2.1 1281 = .ok (.iconst 1, 1) := by decide +kernel
theorem dl_1282 : decode lw_Y.2.1 1282 = .ok (.iadd, 1) := by decide +kernel
theorem dl_1283 : decode lw_Y.2.1 1283 = .ok (.iaload, 1) := by decide +kernel
theorem dl_1284 : decode lw_Y.2.1 1284 = .ok (.invokevirtual 142, 3) := by decide +kernel
theorem dl_1287 : decode lw_Y.2.1 1287 = .ok (.aload_n 2, 1) := by decide +kernel
theorem dl_1288 : decode lw_Y.2.1 1288 = .ok (.aload_n 0, 1) := by decide +kernel
theorem dl_1289 : decode lw_Y.2.1 1289 = .ok (.iload_n 3, 1) := by decide +kernel
theorem dl_1290 : decode lw_Y.2.1 1290 = .ok (.iconst 1, 1) := by decide +kernel
theorem dl_1291 : decode lw_Y.2.1 1291 = .ok (.iadd, 1) := by decide +kernel
theorem dl_1292 : decode lw_Y.2.1 1292 = .ok (.iaload, 1) := by decide +kernel
theorem dl_1293 : decode lw_Y.2.1 1293 = .ok (.invokevirtual 145, 3) := by decide +kernel
theorem dl_1296 : decode lw_Y.2.1 1296 = .ok (.if_icmp .eq 127, 3) := by decide +kernel
theorem dl_1299 : decode lw_Y.2.1 1299 = .ok (.iconst 0, 1) := by decide +kernel
theorem dl_1300 : decode lw_Y.2.1 1300 = .ok (.ireturn, 1) := by decide +kernel
theorem dl_1301 : decode lw_Y.2.1 1301 = .ok (.aload_n 1, 1) := by decide +kernel
theorem dl_1302 : decode lw_Y.2.1 1302 = .ok (.aload_n 0, 1) := by decide +kernel
theorem dl_1303 : decode lw_Y.2.1 1303 = .ok (.iload_n 3, 1) := by decide +kernel
theorem dl_1304 : decode lw_Y.2.1 1304 = .ok (.iconst 1, 1) := by decide +kernel
theorem dl_1305 : decode lw_Y.2.1 1305 = .ok (.iadd, 1) := by decide +kernel
theorem dl_1306 : decode lw_Y.2.1 1306 = .ok (.iaload, 1) := by decide +kernel
theorem dl_1307 : decode lw_Y.2.1 1307 = .ok (.aload_n 0, 1) := by decide +kernel
theorem dl_1308 : decode lw_Y.2.1 1308 = .ok (.iload_n 3, 1) := by decide +kernel
theorem dl_1309 : decode lw_Y.2.1 1309 = .ok (.iconst 2, 1) := by decide +kernel
theorem dl_1310 : decode lw_Y.2.1 1310 = .ok (.iadd, 1) := by decide +kernel
theorem dl_1311 : decode lw_Y.2.1 1311 = .ok (.iaload, 1) := by decide +kernel
theorem dl_1312 : decode lw_Y.2.1 1312 = .ok (.invokevirtual 146, 3) := by decide +kernel
theorem dl_1315 : decode lw_Y.2.1 1315 = .ok (.aload_n 2, 1) := by decide +kernel
theorem dl_1316 : decode lw_Y.2.1 1316 = .ok (.aload_n 0, 1) := by decide +kernel
theorem dl_1317 : decode lw_Y.2.1 1317 = .ok (.iload_n 3, 1) := by decide +kernel
theorem dl_1318 : decode lw_Y.2.1 1318 = .ok (.iconst 1, 1) := by decide +kernel
theorem dl_1319 : decode lw_Y.2.1 1319 = .ok (.iadd, 1) := by decide +kernel
theorem dl_1320 : decode lw_Y.2.1 1320 = .ok (.iaload, 1) := by decide +kernel
theorem dl_1321 : decode lw_Y.2.1 1321 = .ok (.aload_n 0, 1) := by decide +kernel
theorem dl_1322 : decode lw_Y.2.1 1322 = .ok (.iload_n 3, 1) := by decide +kernel
theorem dl_1323 : decode lw_Y.2.1 1323 = .ok (.iconst 2, 1) := by decide +kernel
theorem dl_1324 : decode lw_Y.2.1 1324 = .ok (.iadd, 1) := by decide +kernel
theorem dl_1325 : decode lw_Y.2.1 1325 = .ok (.iaload, 1) := by decide +kernel
theorem dl_1326 : decode lw_Y.2.1 1326 = .ok (.invokevirtual 149, 3) := by decide +kernel
theorem dl_1329 : decode lw_Y.2.1 1329 = .ok (.if_icmp .eq 94, 3) := by decide +kernel
theorem dl_1332 : decode lw_Y.2.1 1332 = .ok (.iconst 0, 1) := by decide +kernel
theorem dl_1333 : decode lw_Y.2.1 1333 = .ok (.ireturn, 1) := by decide +kernel
theorem dl_1334 : decode lw_Y.2.1 1334 = .ok (.aload_n 1, 1) := by decide +kernel
theorem dl_1335 : decode lw_Y.2.1 1335 = .ok (.aload_n 0, 1) := by decide +kernel
theorem dl_1336 : decode lw_Y.2.1 1336 = .ok (.iload_n 3, 1) := by decide +kernel
theorem dl_1337 : decode lw_Y.2.1 1337 = .ok (.iconst 1, 1) := by decide +kernel
theorem dl_1338 : decode lw_Y.2.1 1338 = .ok (.iadd, 1) := by decide +kernel
theorem dl_1339 : decode lw_Y.2.1 1339 = .ok (.iaload, 1) := by decide +kernel
theorem dl_1340 : decode lw_Y.2.1 1340 = .ok (.aload_n 0, 1) := by decide +kernel
theorem dl_1341 : decode lw_Y.2.1 1341 = .ok (.iload_n 3, 1) := by decide +kernel
theorem dl_1342 : decode lw_Y.2.1 1342 = .ok (.iconst 2, 1) := by decide +kernel
theorem dl_1343 : decode lw_Y.2.1 1343 = .ok (.iadd, 1) := by decide +kernel
theorem dl_1344 : decode lw_Y.2.1 1344 = .ok (.iaload, 1) := by decide +kernel
theorem dl_1345 : decode lw_Y.2.1 1345 = .ok (.invokevirtual 150, 3) := by decide +kernel
theorem dl_1348 : decode lw_Y.2.1 1348 = .ok (.aload_n 2, 1) := by decide +kernel
theorem dl_1349 : decode lw_Y.2.1 1349 = .ok (.aload_n 0, 1) := by decide +kernel
theorem dl_1350 : decode lw_Y.2.1 1350 = .ok (.iload_n 3, 1) := by decide +kernel
theorem dl_1351 : decode lw_Y.2.1 1351 = .ok (.iconst 1, 1) := by decide +kernel
theorem dl_1352 : decode lw_Y.2.1 1352 = .ok (.iadd, 1) := by decide +kernel
theorem dl_1353 : decode lw_Y.2.1 1353 = .ok (.iaload, 1) := by decide +kernel
theorem dl_1354 : decode lw_Y.2.1 1354 = .ok (.aload_n 0, 1) := by decide +kernel
theorem dl_1355 : decode lw_Y.2.1 1355 = .ok (.iload_n 3, 1) := by decide +kernel
theorem dl_1356 : decode lw_Y.2.1 1356 = .ok (.iconst 2, 1) := by decide +kernel
theorem dl_1357 : decode lw_Y.2.1 1357 = .ok (.iadd, 1) := by decide +kernel
theorem dl_1358 : decode lw_Y.2.1 1358 = .ok (.iaload, 1) := by decide +kernel
theorem dl_1359 : decode lw_Y.2.1 1359 = .ok (.invokevirtual 153, 3) := by decide +kernel
theorem dl_1362 : decode lw_Y.2.1 1362 = .ok (.if_icmp .eq 61, 3) := by decide +kernel
theorem dl_1365 : decode lw_Y.2.1 1365 = .ok (.iconst 0, 1) := by decide +kernel
theorem dl_1366 : decode lw_Y.2.1 1366 = .ok (.ireturn, 1) := by decide +kernel
theorem dl_1367 : decode lw_Y.2.1 1367 = .ok (.aload_n 1, 1) := by decide +kernel
theorem dl_1368 : decode lw_Y.2.1 1368 = .ok (.aload_n 0, 1) := by decide +kernel
theorem dl_1369 : decode lw_Y.2.1 1369 = .ok (.iload_n 3, 1) := by decide +kernel
theorem dl_1370 : decode lw_Y.2.1 1370 = .ok (.iconst 1, 1) := by decide +kernel
theorem dl_1371 : decode lw_Y.2.1 1371 = .ok (.iadd, 1) := by decide +kernel
theorem dl_1372 : decode lw_Y.2.1 1372 = .ok (.iaload, 1) := by decide +kernel
theorem dl_1373 : decode lw_Y.2.1 1373 = .ok (.aload_n 0, 1) := by decide +kernel
theorem dl_1374 : decode lw_Y.2.1 1374 = .ok (.iload_n 3, 1) := by decide +kernel
theorem dl_1375 : decode lw_Y.2.1 1375 = .ok (.iconst 2, 1) := by decide +kernel
theorem dl_1376 : decode lw_Y.2.1 1376 = .ok (.iadd, 1) := by decide +kernel
theorem dl_1377 : decode lw_Y.2.1 1377 = .ok (.iaload, 1) := by decide +kernel
theorem dl_1378 : decode lw_Y.2.1 1378 = .ok (.invokevirtual 154, 3) := by decide +kernel
theorem dl_1381 : decode lw_Y.2.1 1381 = .ok (.aload_n 2, 1) := by decide +kernel
theorem dl_1382 : decode lw_Y.2.1 1382 = .ok (.aload_n 0, 1) := by decide +kernel
theorem dl_1383 : decode lw_Y.2.1 1383 = .ok (.iload_n 3, 1) := by decide +kernel
theorem dl_1384 : decode lw_Y.2.1 1384 = .ok (.iconst 1, 1) := by decide +kernel
theorem dl_1385 : decode lw_Y.2.1 1385 = .ok (.iadd, 1) := by decide +kernel
theorem dl_1386 : decode lw_Y.2.1 1386 = .ok (.iaload, 1) := by decide +kernel
theorem dl_1387 : decode lw_Y.2.1 1387 = .ok (.aload_n 0, 1) := by decide +kernel
theorem dl_1388 : decode lw_Y.2.1 1388 = .ok (.iload_n 3, 1) := by decide +kernel
theorem dl_1389 : decode lw_Y.2.1 1389 = .ok (.iconst 2, 1) := by decide +kernel
theorem dl_1390 : decode lw_Y.2.1 1390 = .ok (.iadd, 1) := by decide +kernel
theorem dl_1391 : decode lw_Y.2.1 1391 = .ok (.iaload, 1) := by decide +kernel
theorem dl_1392 : decode lw_Y.2.1 1392 = .ok (.invokevirtual 157, 3) := by decide +kernel
theorem dl_1395 : decode lw_Y.2.1 1395 = .ok (.if_icmp .eq 28, 3) := by decide +kernel
theorem dl_1398 : decode lw_Y.2.1 1398 = .ok (.iconst 0, 1) := by decide +kernel
theorem dl_1399 : decode lw_Y.2.1 1399 = .ok (.ireturn, 1) := by decide +kernel
theorem dl_1400 : decode lw_Y.2.1 1400 = .ok (.aload_n 1, 1) := by decide +kernel
theorem dl_1401 : decode lw_Y.2.1 1401 = .ok (.aload_n 0, 1) := by decide +kernel
theorem dl_1402 : decode lw_Y.2.1 1402 = .ok (.iload_n 3, 1) := by decide +kernel
theorem dl_1403 : decode lw_Y.2.1 1403 = .ok (.iconst 1, 1) := by decide +kernel
theorem dl_1404 : decode lw_Y.2.1 1404 = .ok (.iadd, 1) := by decide +kernel
theorem dl_1405 : decode lw_Y.2.1 1405 = .ok (.iaload, 1) := by decide +kernel
theorem dl_1406 : decode lw_Y.2.1 1406 = .ok (.invokevirtual 158, 3) := by decide +kernel
theorem dl_1409 : decode lw_Y.2.1 1409 = .ok (.aload_n 2, 1) := by decide +kernel
theorem dl_1410 : decode lw_Y.2.1 1410 = .ok (.aload_n 0, 1) := by decide +kernel
theorem dl_1411 : decode lw_Y.2.1 1411 = .ok (.iload_n 3, 1) := by decide +kernel
theorem dl_1412 : decode lw_Y.2.1 1412 = .ok (.iconst 1, 1) := by decide +kernel
theorem dl_1413 : decode lw_Y.2.1 1413 = .ok (.iadd, 1) := by decide +kernel
theorem dl_1414 : decode lw_Y.2.1 1414 = .ok (.iaload, 1) := by decide +kernel
theorem dl_1415 : decode lw_Y.2.1 1415 = .ok (.invokevirtual 161, 3) := by decide +kernel
theorem dl_1418 : decode lw_Y.2.1 1418 = .ok (.if_icmp .eq 5, 3) := by decide +kernel
theorem dl_1421 : decode lw_Y.2.1 1421 = .ok (.iconst 0, 1) := by decide +kernel
theorem dl_1422 : decode lw_Y.2.1 1422 = .ok (.ireturn, 1) := by decide +kernel
theorem dl_1423 : decode lw_Y.2.1 1423 = .ok (.iinc 3 6, 3) := by decide +kernel
theorem dl_1426 : decode lw_Y.2.1 1426 = .ok (.goto (-1408), 3) := by decide +kernel
theorem dl_1429 : decode lw_Y.2.1 1429 = .ok (.iconst 1, 1) := by decide +kernel
theorem dl_1430 : decode lw_Y.2.1 1430 = .ok (.ireturn, 1) := by decide +kernel
