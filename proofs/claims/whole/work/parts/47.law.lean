theorem dL_law_1308 : decode cL_law 1308 = .ok (.aload_n 1, 1) := by decide +kernel
theorem dL_law_1309 : decode cL_law 1309 = .ok (.aload_n 0, 1) := by decide +kernel
theorem dL_law_1310 : decode cL_law 1310 = .ok (.iload_n 3, 1) := by decide +kernel
theorem dL_law_1311 : decode cL_law 1311 = .ok (.iconst 1, 1) := by decide +kernel
theorem dL_law_1312 : decode cL_law 1312 = .ok (.iadd, 1) := by decide +kernel
theorem dL_law_1313 : decode cL_law 1313 = .ok (.iaload, 1) := by decide +kernel
theorem dL_law_1314 : decode cL_law 1314 = .ok (.aload_n 0, 1) := by decide +kernel
theorem dL_law_1315 : decode cL_law 1315 = .ok (.iload_n 3, 1) := by decide +kernel
theorem dL_law_1316 : decode cL_law 1316 = .ok (.iconst 2, 1) := by decide +kernel
theorem dL_law_1317 : decode cL_law 1317 = .ok (.iadd, 1) := by decide +kernel
theorem dL_law_1318 : decode cL_law 1318 = .ok (.iaload, 1) := by decide +kernel
theorem dL_law_1319 : decode cL_law 1319 = .ok (.invokevirtual 139, 3) := by decide +kernel
theorem dL_law_1322 : decode cL_law 1322 = .ok (.aload_n 2, 1) := by decide +kernel
theorem dL_law_1323 : decode cL_law 1323 = .ok (.aload_n 0, 1) := by decide +kernel
theorem dL_law_1324 : decode cL_law 1324 = .ok (.iload_n 3, 1) := by decide +kernel
theorem dL_law_1325 : decode cL_law 1325 = .ok (.iconst 1, 1) := by decide +kernel
theorem dL_law_1326 : decode cL_law 1326 = .ok (.iadd, 1) := by decide +kernel
theorem dL_law_1327 : decode cL_law 1327 = .ok (.iaload, 1) := by decide +kernel
theorem dL_law_1328 : decode cL_law 1328 = .ok (.aload_n 0, 1) := by decide +kernel
theorem dL_law_1329 : decode cL_law 1329 = .ok (.iload_n 3, 1) := by decide +kernel
theorem dL_law_1330 : decode cL_law 1330 = .ok (.iconst 2, 1) := by decide +kernel
theorem dL_law_1331 : decode cL_law 1331 = .ok (.iadd, 1) := by decide +kernel
theorem dL_law_1332 : decode cL_law 1332 = .ok (.iaload, 1) := by decide +kernel
theorem dL_law_1333 : decode cL_law 1333 = .ok (.invokevirtual 142, 3) := by decide +kernel
theorem dL_law_1336 : decode cL_law 1336 = .ok (.if_icmp .eq 446, 3) := by decide +kernel
theorem dL_law_1339 : decode cL_law 1339 = .ok (.iconst 0, 1) := by decide +kernel
theorem dL_law_1340 : decode cL_law 1340 = .ok (.ireturn, 1) := by decide +kernel
set_option maxRecDepth 100000 in
set_option maxHeartbeats 4000000 in
theorem case_29 {p : Program} {l : Launch} {e : Env} {s : State} {m : MethodId} {args : Array Value} {below : List Frame} {meth : Method} {c : Code} {D : va_G} {ac : Nat → ClassId} {A : Nat → Prop} {Q : State → Prop} {adX adM : Nat → Nat} {b n nc ns : Nat} {xs : Nat → Int32} {N : Nat} {Rel : Mem → Mem → Prop} (hp : PureOk N Rel) (C : LC p s m args c D ac A adX adM b n xs) (hnc : nc ≤ 600000) (hns : ns ≤ 7302250) {x3 : Int32} (hi1 : vp_in (x3 + 1) n) (hi2 : vp_in (x3 + 2) n) (hi3 : vp_in (x3 + 3) n) (hi4 : vp_in (x3 + 4) n) (hi5 : vp_in (x3 + 5) n) (Mx Mm : Mem) (hrel : Rel Mx Mm) (next : ∀ Mx2 Mm2, Rel Mx2 Mm2 → Ac p l e room_1 s m args below meth c D A 4 Q 1782 [(0, .ref b), (1, .ref (adX 0)), (2, .ref (adM 0)), (3, .int x3)] [] (wXM ac adX adM Mx2 Mm2) nc ns) : Ac p l e room_1 s m args below meth c D A 4 Q 1308 [(0, .ref b), (1, .ref (adX 0)), (2, .ref (adM 0)), (3, .int x3)] [] (wXM ac adX adM Mx Mm) nc ns := by
  obtain ⟨r, hx, hm, hrel2⟩ := (hp.2.2.2.2.2.2.2.2.2.2.2.2.2.2.2.2.2.2.2.2.2.2.2.2.2.2.2.2.2.2.1) Mx Mm (xs (x3 + 1).toNatClampNeg) (xs (x3 + 2).toNatClampNeg) hrel
  refine c_aload_n (pc := 1308) C.1 dL_law_1308 1 rfl ?_
  refine c_aload_n (pc := 1309) C.1 dL_law_1309 0 rfl ?_
  refine c_iload_n (pc := 1310) C.1 dL_law_1310 3 rfl ?_
  refine c_iconst (pc := 1311) (v := 1) C.1 dL_law_1311 (by decide) ?_
  refine c_iadd (pc := 1312) C.1 dL_law_1312 ?_
  refine c_sld (pc := 1313) C dL_law_1313 hi1 ?_
  refine c_aload_n (pc := 1314) C.1 dL_law_1314 0 rfl ?_
  refine c_iload_n (pc := 1315) C.1 dL_law_1315 3 rfl ?_
  refine c_iconst (pc := 1316) (v := 2) C.1 dL_law_1316 (by decide) ?_
  refine c_iadd (pc := 1317) C.1 dL_law_1317 ?_
  refine c_sld (pc := 1318) C dL_law_1318 hi2 ?_
  refine l_callX_I (pc := 1319) C dL_law_1319 ml_L_139 mc_X7_compare mv_X7_compare rfl [.int (xs (x3 + 1).toNatClampNeg), .int (xs (x3 + 2).toNatClampNeg)] rfl (by decide) (by decide) rfl (Nat.le_of_ble_eq_true rfl) ⟨hnc, hns⟩ (c_X7_compare N (xs (x3 + 1).toNatClampNeg) (xs (x3 + 2).toNatClampNeg) _ _ hx) ?_
  refine c_aload_n (pc := 1322) C.1 dL_law_1322 2 rfl ?_
  refine c_aload_n (pc := 1323) C.1 dL_law_1323 0 rfl ?_
  refine c_iload_n (pc := 1324) C.1 dL_law_1324 3 rfl ?_
  refine c_iconst (pc := 1325) (v := 1) C.1 dL_law_1325 (by decide) ?_
  refine c_iadd (pc := 1326) C.1 dL_law_1326 ?_
  refine c_sld (pc := 1327) C dL_law_1327 hi1 ?_
  refine c_aload_n (pc := 1328) C.1 dL_law_1328 0 rfl ?_
  refine c_iload_n (pc := 1329) C.1 dL_law_1329 3 rfl ?_
  refine c_iconst (pc := 1330) (v := 2) C.1 dL_law_1330 (by decide) ?_
  refine c_iadd (pc := 1331) C.1 dL_law_1331 ?_
  refine c_sld (pc := 1332) C dL_law_1332 hi2 ?_
  refine l_callM_I (pc := 1333) C dL_law_1333 ml_L_142 mc_X8_compare mv_X8_compare rfl [.int (xs (x3 + 1).toNatClampNeg), .int (xs (x3 + 2).toNatClampNeg)] rfl (by decide) (by decide) rfl (Nat.le_of_ble_eq_true rfl) ⟨hnc, hns⟩ (c_X8_compare N (xs (x3 + 1).toNatClampNeg) (xs (x3 + 2).toNatClampNeg) _ _ hm) ?_
  refine c_icmp_eq (pc := 1336) 1782 C.1 dL_law_1336 (by decide) (fun _ => ?_) (fun h => absurd rfl h)
  exact next _ _ hrel2
theorem dL_law_1341 : decode cL_law 1341 = .ok (.aload_n 1, 1) := by decide +kernel
theorem dL_law_1342 : decode cL_law 1342 = .ok (.aload_n 0, 1) := by decide +kernel
theorem dL_law_1343 : decode cL_law 1343 = .ok (.iload_n 3, 1) := by decide +kernel
theorem dL_law_1344 : decode cL_law 1344 = .ok (.iconst 1, 1) := by decide +kernel
theorem dL_law_1345 : decode cL_law 1345 = .ok (.iadd, 1) := by decide +kernel
theorem dL_law_1346 : decode cL_law 1346 = .ok (.iaload, 1) := by decide +kernel
theorem dL_law_1347 : decode cL_law 1347 = .ok (.aload_n 0, 1) := by decide +kernel
theorem dL_law_1348 : decode cL_law 1348 = .ok (.iload_n 3, 1) := by decide +kernel
theorem dL_law_1349 : decode cL_law 1349 = .ok (.iconst 2, 1) := by decide +kernel
theorem dL_law_1350 : decode cL_law 1350 = .ok (.iadd, 1) := by decide +kernel
theorem dL_law_1351 : decode cL_law 1351 = .ok (.iaload, 1) := by decide +kernel
theorem dL_law_1352 : decode cL_law 1352 = .ok (.invokevirtual 143, 3) := by decide +kernel
theorem dL_law_1355 : decode cL_law 1355 = .ok (.aload_n 2, 1) := by decide +kernel
theorem dL_law_1356 : decode cL_law 1356 = .ok (.aload_n 0, 1) := by decide +kernel
theorem dL_law_1357 : decode cL_law 1357 = .ok (.iload_n 3, 1) := by decide +kernel
theorem dL_law_1358 : decode cL_law 1358 = .ok (.iconst 1, 1) := by decide +kernel
theorem dL_law_1359 : decode cL_law 1359 = .ok (.iadd, 1) := by decide +kernel
theorem dL_law_1360 : decode cL_law 1360 = .ok (.iaload, 1) := by decide +kernel
theorem dL_law_1361 : decode cL_law 1361 = .ok (.aload_n 0, 1) := by decide +kernel
theorem dL_law_1362 : decode cL_law 1362 = .ok (.iload_n 3, 1) := by decide +kernel
theorem dL_law_1363 : decode cL_law 1363 = .ok (.iconst 2, 1) := by decide +kernel
theorem dL_law_1364 : decode cL_law 1364 = .ok (.iadd, 1) := by decide +kernel
theorem dL_law_1365 : decode cL_law 1365 = .ok (.iaload, 1) := by decide +kernel
theorem dL_law_1366 : decode cL_law 1366 = .ok (.invokevirtual 147, 3) := by decide +kernel
theorem dL_law_1369 : decode cL_law 1369 = .ok (.lcmp, 1) := by decide +kernel
theorem dL_law_1370 : decode cL_law 1370 = .ok (.ifCond .eq 412, 3) := by decide +kernel
theorem dL_law_1373 : decode cL_law 1373 = .ok (.iconst 0, 1) := by decide +kernel
theorem dL_law_1374 : decode cL_law 1374 = .ok (.ireturn, 1) := by decide +kernel
set_option maxRecDepth 100000 in
set_option maxHeartbeats 4000000 in
theorem case_30 {p : Program} {l : Launch} {e : Env} {s : State} {m : MethodId} {args : Array Value} {below : List Frame} {meth : Method} {c : Code} {D : va_G} {ac : Nat → ClassId} {A : Nat → Prop} {Q : State → Prop} {adX adM : Nat → Nat} {b n nc ns : Nat} {xs : Nat → Int32} {N : Nat} {Rel : Mem → Mem → Prop} (hp : PureOk N Rel) (C : LC p s m args c D ac A adX adM b n xs) (hnc : nc ≤ 600000) (hns : ns ≤ 7302250) {x3 : Int32} (hi1 : vp_in (x3 + 1) n) (hi2 : vp_in (x3 + 2) n) (hi3 : vp_in (x3 + 3) n) (hi4 : vp_in (x3 + 4) n) (hi5 : vp_in (x3 + 5) n) (Mx Mm : Mem) (hrel : Rel Mx Mm) (next : ∀ Mx2 Mm2, Rel Mx2 Mm2 → Ac p l e room_1 s m args below meth c D A 4 Q 1782 [(0, .ref b), (1, .ref (adX 0)), (2, .ref (adM 0)), (3, .int x3)] [] (wXM ac adX adM Mx2 Mm2) nc ns) : Ac p l e room_1 s m args below meth c D A 4 Q 1341 [(0, .ref b), (1, .ref (adX 0)), (2, .ref (adM 0)), (3, .int x3)] [] (wXM ac adX adM Mx Mm) nc ns := by
  obtain ⟨r, hx, hm, hrel2⟩ := (hp.2.2.2.2.2.2.2.2.2.2.2.2.2.2.2.2.2.2.2.2.2.2.2.2.2.2.2.2.2.2.2.1) Mx Mm (xs (x3 + 1).toNatClampNeg) (xs (x3 + 2).toNatClampNeg) hrel
  refine c_aload_n (pc := 1341) C.1 dL_law_1341 1 rfl ?_
  refine c_aload_n (pc := 1342) C.1 dL_law_1342 0 rfl ?_
  refine c_iload_n (pc := 1343) C.1 dL_law_1343 3 rfl ?_
  refine c_iconst (pc := 1344) (v := 1) C.1 dL_law_1344 (by decide) ?_
  refine c_iadd (pc := 1345) C.1 dL_law_1345 ?_
  refine c_sld (pc := 1346) C dL_law_1346 hi1 ?_
  refine c_aload_n (pc := 1347) C.1 dL_law_1347 0 rfl ?_
  refine c_iload_n (pc := 1348) C.1 dL_law_1348 3 rfl ?_
  refine c_iconst (pc := 1349) (v := 2) C.1 dL_law_1349 (by decide) ?_
  refine c_iadd (pc := 1350) C.1 dL_law_1350 ?_
  refine c_sld (pc := 1351) C dL_law_1351 hi2 ?_
  refine l_callX_J (pc := 1352) C dL_law_1352 ml_L_143 mc_X7_told mv_X7_told rfl [.int (xs (x3 + 1).toNatClampNeg), .int (xs (x3 + 2).toNatClampNeg)] rfl (by decide) (by decide) rfl (Nat.le_of_ble_eq_true rfl) ⟨hnc, hns⟩ (c_X7_told N (xs (x3 + 1).toNatClampNeg) (xs (x3 + 2).toNatClampNeg) _ _ hx) ?_
  refine c_aload_n (pc := 1355) C.1 dL_law_1355 2 rfl ?_
  refine c_aload_n (pc := 1356) C.1 dL_law_1356 0 rfl ?_
  refine c_iload_n (pc := 1357) C.1 dL_law_1357 3 rfl ?_
  refine c_iconst (pc := 1358) (v := 1) C.1 dL_law_1358 (by decide) ?_
  refine c_iadd (pc := 1359) C.1 dL_law_1359 ?_
  refine c_sld (pc := 1360) C dL_law_1360 hi1 ?_
  refine c_aload_n (pc := 1361) C.1 dL_law_1361 0 rfl ?_
  refine c_iload_n (pc := 1362) C.1 dL_law_1362 3 rfl ?_
  refine c_iconst (pc := 1363) (v := 2) C.1 dL_law_1363 (by decide) ?_
  refine c_iadd (pc := 1364) C.1 dL_law_1364 ?_
  refine c_sld (pc := 1365) C dL_law_1365 hi2 ?_
  refine l_callM_J (pc := 1366) C dL_law_1366 ml_L_147 mc_X8_told mv_X8_told rfl [.int (xs (x3 + 1).toNatClampNeg), .int (xs (x3 + 2).toNatClampNeg)] rfl (by decide) (by decide) rfl (Nat.le_of_ble_eq_true rfl) ⟨hnc, hns⟩ (c_X8_told N (xs (x3 + 1).toNatClampNeg) (xs (x3 + 2).toNatClampNeg) _ _ hm) ?_
  refine c_lcmp (pc := 1369) C.1 dL_law_1369 ?_
  refine c_if_eq (pc := 1370) 1782 C.1 dL_law_1370 (by decide) (fun _ => ?_) (fun h => absurd (lg_same r) h)
  exact next _ _ hrel2
theorem dL_law_1375 : decode cL_law 1375 = .ok (.aload_n 1, 1) := by decide +kernel
theorem dL_law_1376 : decode cL_law 1376 = .ok (.aload_n 0, 1) := by decide +kernel
theorem dL_law_1377 : decode cL_law 1377 = .ok (.iload_n 3, 1) := by decide +kernel
theorem dL_law_1378 : decode cL_law 1378 = .ok (.iconst 1, 1) := by decide +kernel
theorem dL_law_1379 : decode cL_law 1379 = .ok (.iadd, 1) := by decide +kernel
theorem dL_law_1380 : decode cL_law 1380 = .ok (.iaload, 1) := by decide +kernel
theorem dL_law_1381 : decode cL_law 1381 = .ok (.aload_n 0, 1) := by decide +kernel
theorem dL_law_1382 : decode cL_law 1382 = .ok (.iload_n 3, 1) := by decide +kernel
theorem dL_law_1383 : decode cL_law 1383 = .ok (.iconst 2, 1) := by decide +kernel
theorem dL_law_1384 : decode cL_law 1384 = .ok (.iadd, 1) := by decide +kernel
theorem dL_law_1385 : decode cL_law 1385 = .ok (.iaload, 1) := by decide +kernel
theorem dL_law_1386 : decode cL_law 1386 = .ok (.invokevirtual 148, 3) := by decide +kernel
theorem dL_law_1389 : decode cL_law 1389 = .ok (.aload_n 2, 1) := by decide +kernel
theorem dL_law_1390 : decode cL_law 1390 = .ok (.aload_n 0, 1) := by decide +kernel
theorem dL_law_1391 : decode cL_law 1391 = .ok (.iload_n 3, 1) := by decide +kernel
theorem dL_law_1392 : decode cL_law 1392 = .ok (.iconst 1, 1) := by decide +kernel
theorem dL_law_1393 : decode cL_law 1393 = .ok (.iadd, 1) := by decide +kernel
theorem dL_law_1394 : decode cL_law 1394 = .ok (.iaload, 1) := by decide +kernel
theorem dL_law_1395 : decode cL_law 1395 = .ok (.aload_n 0, 1) := by decide +kernel
theorem dL_law_1396 : decode cL_law 1396 = .ok (.iload_n 3, 1) := by decide +kernel
theorem dL_law_1397 : decode cL_law 1397 = .ok (.iconst 2, 1) := by decide +kernel
theorem dL_law_1398 : decode cL_law 1398 = .ok (.iadd, 1) := by decide +kernel
theorem dL_law_1399 : decode cL_law 1399 = .ok (.iaload, 1) := by decide +kernel
theorem dL_law_1400 : decode cL_law 1400 = .ok (.invokevirtual 151, 3) := by decide +kernel
theorem dL_law_1403 : decode cL_law 1403 = .ok (.if_icmp .eq 379, 3) := by decide +kernel
theorem dL_law_1406 : decode cL_law 1406 = .ok (.iconst 0, 1) := by decide +kernel
theorem dL_law_1407 : decode cL_law 1407 = .ok (.ireturn, 1) := by decide +kernel
set_option maxRecDepth 100000 in
set_option maxHeartbeats 4000000 in
theorem case_31 {p : Program} {l : Launch} {e : Env} {s : State} {m : MethodId} {args : Array Value} {below : List Frame} {meth : Method} {c : Code} {D : va_G} {ac : Nat → ClassId} {A : Nat → Prop} {Q : State → Prop} {adX adM : Nat → Nat} {b n nc ns : Nat} {xs : Nat → Int32} {N : Nat} {Rel : Mem → Mem → Prop} (hp : PureOk N Rel) (C : LC p s m args c D ac A adX adM b n xs) (hnc : nc ≤ 600000) (hns : ns ≤ 7302250) {x3 : Int32} (hi1 : vp_in (x3 + 1) n) (hi2 : vp_in (x3 + 2) n) (hi3 : vp_in (x3 + 3) n) (hi4 : vp_in (x3 + 4) n) (hi5 : vp_in (x3 + 5) n) (Mx Mm : Mem) (hrel : Rel Mx Mm) (next : ∀ Mx2 Mm2, Rel Mx2 Mm2 → Ac p l e room_1 s m args below meth c D A 4 Q 1782 [(0, .ref b), (1, .ref (adX 0)), (2, .ref (adM 0)), (3, .int x3)] [] (wXM ac adX adM Mx2 Mm2) nc ns) : Ac p l e room_1 s m args below meth c D A 4 Q 1375 [(0, .ref b), (1, .ref (adX 0)), (2, .ref (adM 0)), (3, .int x3)] [] (wXM ac adX adM Mx Mm) nc ns := by
  obtain ⟨r, Mx2, Mm2, hx, hm, hrel2⟩ := (hp.2.2.2.2.2.2.2.2.2.2.2.2.2.2.2.2.2.2.2.2.2.2.2.2.2.2.2.2.2.2.2.2.1) Mx Mm (xs (x3 + 1).toNatClampNeg) (xs (x3 + 2).toNatClampNeg) hrel
  refine c_aload_n (pc := 1375) C.1 dL_law_1375 1 rfl ?_
  refine c_aload_n (pc := 1376) C.1 dL_law_1376 0 rfl ?_
  refine c_iload_n (pc := 1377) C.1 dL_law_1377 3 rfl ?_
  refine c_iconst (pc := 1378) (v := 1) C.1 dL_law_1378 (by decide) ?_
  refine c_iadd (pc := 1379) C.1 dL_law_1379 ?_
  refine c_sld (pc := 1380) C dL_law_1380 hi1 ?_
  refine c_aload_n (pc := 1381) C.1 dL_law_1381 0 rfl ?_
  refine c_iload_n (pc := 1382) C.1 dL_law_1382 3 rfl ?_
  refine c_iconst (pc := 1383) (v := 2) C.1 dL_law_1383 (by decide) ?_
  refine c_iadd (pc := 1384) C.1 dL_law_1384 ?_
  refine c_sld (pc := 1385) C dL_law_1385 hi2 ?_
  refine l_callX_I (pc := 1386) C dL_law_1386 ml_L_148 mc_X7_feed mv_X7_feed rfl [.int (xs (x3 + 1).toNatClampNeg), .int (xs (x3 + 2).toNatClampNeg)] rfl (by decide) (by decide) rfl (Nat.le_of_ble_eq_true rfl) ⟨hnc, hns⟩ (c_X7_feed N (xs (x3 + 1).toNatClampNeg) (xs (x3 + 2).toNatClampNeg) _ _ _ hx) ?_
  refine c_aload_n (pc := 1389) C.1 dL_law_1389 2 rfl ?_
  refine c_aload_n (pc := 1390) C.1 dL_law_1390 0 rfl ?_
  refine c_iload_n (pc := 1391) C.1 dL_law_1391 3 rfl ?_
  refine c_iconst (pc := 1392) (v := 1) C.1 dL_law_1392 (by decide) ?_
  refine c_iadd (pc := 1393) C.1 dL_law_1393 ?_
  refine c_sld (pc := 1394) C dL_law_1394 hi1 ?_
  refine c_aload_n (pc := 1395) C.1 dL_law_1395 0 rfl ?_
  refine c_iload_n (pc := 1396) C.1 dL_law_1396 3 rfl ?_
  refine c_iconst (pc := 1397) (v := 2) C.1 dL_law_1397 (by decide) ?_
  refine c_iadd (pc := 1398) C.1 dL_law_1398 ?_
  refine c_sld (pc := 1399) C dL_law_1399 hi2 ?_
  refine l_callM_I (pc := 1400) C dL_law_1400 ml_L_151 mc_X8_feed mv_X8_feed rfl [.int (xs (x3 + 1).toNatClampNeg), .int (xs (x3 + 2).toNatClampNeg)] rfl (by decide) (by decide) rfl (Nat.le_of_ble_eq_true rfl) ⟨hnc, hns⟩ (c_X8_feed N (xs (x3 + 1).toNatClampNeg) (xs (x3 + 2).toNatClampNeg) _ _ _ hm) ?_
  refine c_icmp_eq (pc := 1403) 1782 C.1 dL_law_1403 (by decide) (fun _ => ?_) (fun h => absurd rfl h)
  exact next _ _ hrel2
theorem dL_law_1408 : decode cL_law 1408 = .ok (.aload_n 1, 1) := by decide +kernel
theorem dL_law_1409 : decode cL_law 1409 = .ok (.invokevirtual 152, 3) := by decide +kernel
theorem dL_law_1412 : decode cL_law 1412 = .ok (.aload_n 2, 1) := by decide +kernel
theorem dL_law_1413 : decode cL_law 1413 = .ok (.invokevirtual 155, 3) := by decide +kernel
theorem dL_law_1416 : decode cL_law 1416 = .ok (.if_icmp .eq 366, 3) := by decide +kernel
theorem dL_law_1419 : decode cL_law 1419 = .ok (.iconst 0, 1) := by decide +kernel
theorem dL_law_1420 : decode cL_law 1420 = .ok (.ireturn, 1) := by decide +kernel
set_option maxRecDepth 100000 in
set_option maxHeartbeats 4000000 in
theorem case_32 {p : Program} {l : Launch} {e : Env} {s : State} {m : MethodId} {args : Array Value} {below : List Frame} {meth : Method} {c : Code} {D : va_G} {ac : Nat → ClassId} {A : Nat → Prop} {Q : State → Prop} {adX adM : Nat → Nat} {b n nc ns : Nat} {xs : Nat → Int32} {N : Nat} {Rel : Mem → Mem → Prop} (hp : PureOk N Rel) (C : LC p s m args c D ac A adX adM b n xs) (hnc : nc ≤ 600000) (hns : ns ≤ 7302250) {x3 : Int32} (hi1 : vp_in (x3 + 1) n) (hi2 : vp_in (x3 + 2) n) (hi3 : vp_in (x3 + 3) n) (hi4 : vp_in (x3 + 4) n) (hi5 : vp_in (x3 + 5) n) (Mx Mm : Mem) (hrel : Rel Mx Mm) (next : ∀ Mx2 Mm2, Rel Mx2 Mm2 → Ac p l e room_1 s m args below meth c D A 4 Q 1782 [(0, .ref b), (1, .ref (adX 0)), (2, .ref (adM 0)), (3, .int x3)] [] (wXM ac adX adM Mx2 Mm2) nc ns) : Ac p l e room_1 s m args below meth c D A 4 Q 1408 [(0, .ref b), (1, .ref (adX 0)), (2, .ref (adM 0)), (3, .int x3)] [] (wXM ac adX adM Mx Mm) nc ns := by
  obtain ⟨r, Mx2, Mm2, hx, hm, hrel2⟩ := (hp.2.2.2.2.2.2.2.2.2.2.2.2.2.2.2.2.2.2.2.2.2.2.2.2.2.2.2.2.2.2.2.2.2.1) Mx Mm  hrel
  refine c_aload_n (pc := 1408) C.1 dL_law_1408 1 rfl ?_
  refine l_callX_I (pc := 1409) C dL_law_1409 ml_L_152 mc_X7_wipe mv_X7_wipe rfl [] rfl (by decide) (by decide) rfl (Nat.le_of_ble_eq_true rfl) ⟨hnc, hns⟩ (c_X7_wipe N  _ _ _ hx) ?_
  refine c_aload_n (pc := 1412) C.1 dL_law_1412 2 rfl ?_
  refine l_callM_I (pc := 1413) C dL_law_1413 ml_L_155 mc_X8_wipe mv_X8_wipe rfl [] rfl (by decide) (by decide) rfl (Nat.le_of_ble_eq_true rfl) ⟨hnc, hns⟩ (c_X8_wipe N  _ _ _ hm) ?_
  refine c_icmp_eq (pc := 1416) 1782 C.1 dL_law_1416 (by decide) (fun _ => ?_) (fun h => absurd rfl h)
  exact next _ _ hrel2
theorem dL_law_1421 : decode cL_law 1421 = .ok (.aload_n 1, 1) := by decide +kernel
theorem dL_law_1422 : decode cL_law 1422 = .ok (.invokevirtual 156, 3) := by decide +kernel
theorem dL_law_1425 : decode cL_law 1425 = .ok (.aload_n 2, 1) := by decide +kernel
theorem dL_law_1426 : decode cL_law 1426 = .ok (.invokevirtual 159, 3) := by decide +kernel
theorem dL_law_1429 : decode cL_law 1429 = .ok (.if_icmp .eq 353, 3) := by decide +kernel
theorem dL_law_1432 : decode cL_law 1432 = .ok (.iconst 0, 1) := by decide +kernel
theorem dL_law_1433 : decode cL_law 1433 = .ok (.ireturn, 1) := by decide +kernel
set_option maxRecDepth 100000 in
set_option maxHeartbeats 4000000 in
theorem case_33 {p : Program} {l : Launch} {e : Env} {s : State} {m : MethodId} {args : Array Value} {below : List Frame} {meth : Method} {c : Code} {D : va_G} {ac : Nat → ClassId} {A : Nat → Prop} {Q : State → Prop} {adX adM : Nat → Nat} {b n nc ns : Nat} {xs : Nat → Int32} {N : Nat} {Rel : Mem → Mem → Prop} (hp : PureOk N Rel) (C : LC p s m args c D ac A adX adM b n xs) (hnc : nc ≤ 600000) (hns : ns ≤ 7302250) {x3 : Int32} (hi1 : vp_in (x3 + 1) n) (hi2 : vp_in (x3 + 2) n) (hi3 : vp_in (x3 + 3) n) (hi4 : vp_in (x3 + 4) n) (hi5 : vp_in (x3 + 5) n) (Mx Mm : Mem) (hrel : Rel Mx Mm) (next : ∀ Mx2 Mm2, Rel Mx2 Mm2 → Ac p l e room_1 s m args below meth c D A 4 Q 1782 [(0, .ref b), (1, .ref (adX 0)), (2, .ref (adM 0)), (3, .int x3)] [] (wXM ac adX adM Mx2 Mm2) nc ns) : Ac p l e room_1 s m args below meth c D A 4 Q 1421 [(0, .ref b), (1, .ref (adX 0)), (2, .ref (adM 0)), (3, .int x3)] [] (wXM ac adX adM Mx Mm) nc ns := by
  obtain ⟨r, Mx2, Mm2, hx, hm, hrel2⟩ := (hp.2.2.2.2.2.2.2.2.2.2.2.2.2.2.2.2.2.2.2.2.2.2.2.2.2.2.2.2.2.2.2.2.2.2.1) Mx Mm  hrel
  refine c_aload_n (pc := 1421) C.1 dL_law_1421 1 rfl ?_
  refine l_callX_I (pc := 1422) C dL_law_1422 ml_L_156 mc_X7_text mv_X7_text rfl [] rfl (by decide) (by decide) rfl (Nat.le_of_ble_eq_true rfl) ⟨hnc, hns⟩ (c_X7_text N  _ _ _ hx) ?_
  refine c_aload_n (pc := 1425) C.1 dL_law_1425 2 rfl ?_
  refine l_callM_I (pc := 1426) C dL_law_1426 ml_L_159 mc_X8_text mv_X8_text rfl [] rfl (by decide) (by decide) rfl (Nat.le_of_ble_eq_true rfl) ⟨hnc, hns⟩ (c_X8_text N  _ _ _ hm) ?_
  refine c_icmp_eq (pc := 1429) 1782 C.1 dL_law_1429 (by decide) (fun _ => ?_) (fun h => absurd rfl h)
  exact next _ _ hrel2
theorem dL_law_1434 : decode cL_law 1434 = .ok (.aload_n 1, 1) := by decide +kernel
theorem dL_law_1435 : decode cL_law 1435 = .ok (.aload_n 0, 1) := by decide +kernel
theorem dL_law_1436 : decode cL_law 1436 = .ok (.iload_n 3, 1) := by decide +kernel
theorem dL_law_1437 : decode cL_law 1437 = .ok (.iconst 1, 1) := by decide +kernel
theorem dL_law_1438 : decode cL_law 1438 = .ok (.iadd, 1) := by decide +kernel
theorem dL_law_1439 : decode cL_law 1439 = .ok (.iaload, 1) := by decide +kernel
theorem dL_law_1440 : decode cL_law 1440 = .ok (.invokevirtual 160, 3) := by decide +kernel
theorem dL_law_1443 : decode cL_law 1443 = .ok (.aload_n 2, 1) := by decide +kernel
theorem dL_law_1444 : decode cL_law 1444 = .ok (.aload_n 0, 1) := by decide +kernel
theorem dL_law_1445 : decode cL_law 1445 = .ok (.iload_n 3, 1) := by decide +kernel
theorem dL_law_1446 : decode cL_law 1446 = .ok (.iconst 1, 1) := by decide +kernel
theorem dL_law_1447 : decode cL_law 1447 = .ok (.iadd, 1) := by decide +kernel
theorem dL_law_1448 : decode cL_law 1448 = .ok (.iaload, 1) := by decide +kernel
theorem dL_law_1449 : decode cL_law 1449 = .ok (.invokevirtual 163, 3) := by decide +kernel
theorem dL_law_1452 : decode cL_law 1452 = .ok (.if_icmp .eq 330, 3) := by decide +kernel
theorem dL_law_1455 : decode cL_law 1455 = .ok (.iconst 0, 1) := by decide +kernel
theorem dL_law_1456 : decode cL_law 1456 = .ok (.ireturn, 1) := by decide +kernel
set_option maxRecDepth 100000 in
set_option maxHeartbeats 4000000 in
theorem case_34 {p : Program} {l : Launch} {e : Env} {s : State} {m : MethodId} {args : Array Value} {below : List Frame} {meth : Method} {c : Code} {D : va_G} {ac : Nat → ClassId} {A : Nat → Prop} {Q : State → Prop} {adX adM : Nat → Nat} {b n nc ns : Nat} {xs : Nat → Int32} {N : Nat} {Rel : Mem → Mem → Prop} (hp : PureOk N Rel) (C : LC p s m args c D ac A adX adM b n xs) (hnc : nc ≤ 600000) (hns : ns ≤ 7302250) {x3 : Int32} (hi1 : vp_in (x3 + 1) n) (hi2 : vp_in (x3 + 2) n) (hi3 : vp_in (x3 + 3) n) (hi4 : vp_in (x3 + 4) n) (hi5 : vp_in (x3 + 5) n) (Mx Mm : Mem) (hrel : Rel Mx Mm) (next : ∀ Mx2 Mm2, Rel Mx2 Mm2 → Ac p l e room_1 s m args below meth c D A 4 Q 1782 [(0, .ref b), (1, .ref (adX 0)), (2, .ref (adM 0)), (3, .int x3)] [] (wXM ac adX adM Mx2 Mm2) nc ns) : Ac p l e room_1 s m args below meth c D A 4 Q 1434 [(0, .ref b), (1, .ref (adX 0)), (2, .ref (adM 0)), (3, .int x3)] [] (wXM ac adX adM Mx Mm) nc ns := by
  obtain ⟨r, Mx2, Mm2, hx, hm, hrel2⟩ := (hp.2.2.2.2.2.2.2.2.2.2.2.2.2.2.2.2.2.2.2.2.2.2.2.2.2.2.2.2.2.2.2.2.2.2.2.1) Mx Mm (xs (x3 + 1).toNatClampNeg) hrel
  refine c_aload_n (pc := 1434) C.1 dL_law_1434 1 rfl ?_
  refine c_aload_n (pc := 1435) C.1 dL_law_1435 0 rfl ?_
  refine c_iload_n (pc := 1436) C.1 dL_law_1436 3 rfl ?_
  refine c_iconst (pc := 1437) (v := 1) C.1 dL_law_1437 (by decide) ?_
  refine c_iadd (pc := 1438) C.1 dL_law_1438 ?_
  refine c_sld (pc := 1439) C dL_law_1439 hi1 ?_
  refine l_callX_I (pc := 1440) C dL_law_1440 ml_L_160 mc_X7_seed mv_X7_seed rfl [.int (xs (x3 + 1).toNatClampNeg)] rfl (by decide) (by decide) rfl (Nat.le_of_ble_eq_true rfl) ⟨hnc, hns⟩ (c_X7_seed N (xs (x3 + 1).toNatClampNeg) _ _ _ hx) ?_
  refine c_aload_n (pc := 1443) C.1 dL_law_1443 2 rfl ?_
  refine c_aload_n (pc := 1444) C.1 dL_law_1444 0 rfl ?_
  refine c_iload_n (pc := 1445) C.1 dL_law_1445 3 rfl ?_
  refine c_iconst (pc := 1446) (v := 1) C.1 dL_law_1446 (by decide) ?_
  refine c_iadd (pc := 1447) C.1 dL_law_1447 ?_
  refine c_sld (pc := 1448) C dL_law_1448 hi1 ?_
  refine l_callM_I (pc := 1449) C dL_law_1449 ml_L_163 mc_X8_seed mv_X8_seed rfl [.int (xs (x3 + 1).toNatClampNeg)] rfl (by decide) (by decide) rfl (Nat.le_of_ble_eq_true rfl) ⟨hnc, hns⟩ (c_X8_seed N (xs (x3 + 1).toNatClampNeg) _ _ _ hm) ?_
  refine c_icmp_eq (pc := 1452) 1782 C.1 dL_law_1452 (by decide) (fun _ => ?_) (fun h => absurd rfl h)
  exact next _ _ hrel2
theorem dL_law_1457 : decode cL_law 1457 = .ok (.aload_n 1, 1) := by decide +kernel
theorem dL_law_1458 : decode cL_law 1458 = .ok (.aload_n 0, 1) := by decide +kernel
theorem dL_law_1459 : decode cL_law 1459 = .ok (.iload_n 3, 1) := by decide +kernel
theorem dL_law_1460 : decode cL_law 1460 = .ok (.iconst 1, 1) := by decide +kernel
theorem dL_law_1461 : decode cL_law 1461 = .ok (.iadd, 1) := by decide +kernel
theorem dL_law_1462 : decode cL_law 1462 = .ok (.iaload, 1) := by decide +kernel
theorem dL_law_1463 : decode cL_law 1463 = .ok (.aload_n 0, 1) := by decide +kernel
theorem dL_law_1464 : decode cL_law 1464 = .ok (.iload_n 3, 1) := by decide +kernel
theorem dL_law_1465 : decode cL_law 1465 = .ok (.iconst 2, 1) := by decide +kernel
theorem dL_law_1466 : decode cL_law 1466 = .ok (.iadd, 1) := by decide +kernel
theorem dL_law_1467 : decode cL_law 1467 = .ok (.iaload, 1) := by decide +kernel
theorem dL_law_1468 : decode cL_law 1468 = .ok (.invokevirtual 164, 3) := by decide +kernel
theorem dL_law_1471 : decode cL_law 1471 = .ok (.aload_n 2, 1) := by decide +kernel
theorem dL_law_1472 : decode cL_law 1472 = .ok (.aload_n 0, 1) := by decide +kernel
theorem dL_law_1473 : decode cL_law 1473 = .ok (.iload_n 3, 1) := by decide +kernel
theorem dL_law_1474 : decode cL_law 1474 = .ok (.iconst 1, 1) := by decide +kernel
theorem dL_law_1475 : decode cL_law 1475 = .ok (.iadd, 1) := by decide +kernel
theorem dL_law_1476 : decode cL_law 1476 = .ok (.iaload, 1) := by decide +kernel
theorem dL_law_1477 : decode cL_law 1477 = .ok (.aload_n 0, 1) := by decide +kernel
theorem dL_law_1478 : decode cL_law 1478 = .ok (.iload_n 3, 1) := by decide +kernel
theorem dL_law_1479 : decode cL_law 1479 = .ok (.iconst 2, 1) := by decide +kernel
theorem dL_law_1480 : decode cL_law 1480 = .ok (.iadd, 1) := by decide +kernel
theorem dL_law_1481 : decode cL_law 1481 = .ok (.iaload, 1) := by decide +kernel
theorem dL_law_1482 : decode cL_law 1482 = .ok (.invokevirtual 167, 3) := by decide +kernel
theorem dL_law_1485 : decode cL_law 1485 = .ok (.if_icmp .eq 297, 3) := by decide +kernel
theorem dL_law_1488 : decode cL_law 1488 = .ok (.iconst 0, 1) := by decide +kernel
theorem dL_law_1489 : decode cL_law 1489 = .ok (.ireturn, 1) := by decide +kernel
set_option maxRecDepth 100000 in
set_option maxHeartbeats 4000000 in
theorem case_35 {p : Program} {l : Launch} {e : Env} {s : State} {m : MethodId} {args : Array Value} {below : List Frame} {meth : Method} {c : Code} {D : va_G} {ac : Nat → ClassId} {A : Nat → Prop} {Q : State → Prop} {adX adM : Nat → Nat} {b n nc ns : Nat} {xs : Nat → Int32} {N : Nat} {Rel : Mem → Mem → Prop} (hp : PureOk N Rel) (C : LC p s m args c D ac A adX adM b n xs) (hnc : nc ≤ 600000) (hns : ns ≤ 7302250) {x3 : Int32} (hi1 : vp_in (x3 + 1) n) (hi2 : vp_in (x3 + 2) n) (hi3 : vp_in (x3 + 3) n) (hi4 : vp_in (x3 + 4) n) (hi5 : vp_in (x3 + 5) n) (Mx Mm : Mem) (hrel : Rel Mx Mm) (next : ∀ Mx2 Mm2, Rel Mx2 Mm2 → Ac p l e room_1 s m args below meth c D A 4 Q 1782 [(0, .ref b), (1, .ref (adX 0)), (2, .ref (adM 0)), (3, .int x3)] [] (wXM ac adX adM Mx2 Mm2) nc ns) : Ac p l e room_1 s m args below meth c D A 4 Q 1457 [(0, .ref b), (1, .ref (adX 0)), (2, .ref (adM 0)), (3, .int x3)] [] (wXM ac adX adM Mx Mm) nc ns := by
  obtain ⟨r, Mx2, Mm2, hx, hm, hrel2⟩ := (hp.2.2.2.2.2.2.2.2.2.2.2.2.2.2.2.2.2.2.2.2.2.2.2.2.2.2.2.2.2.2.2.2.2.2.2.2.1) Mx Mm (xs (x3 + 1).toNatClampNeg) (xs (x3 + 2).toNatClampNeg) hrel
  refine c_aload_n (pc := 1457) C.1 dL_law_1457 1 rfl ?_
  refine c_aload_n (pc := 1458) C.1 dL_law_1458 0 rfl ?_
  refine c_iload_n (pc := 1459) C.1 dL_law_1459 3 rfl ?_
  refine c_iconst (pc := 1460) (v := 1) C.1 dL_law_1460 (by decide) ?_
  refine c_iadd (pc := 1461) C.1 dL_law_1461 ?_
  refine c_sld (pc := 1462) C dL_law_1462 hi1 ?_
  refine c_aload_n (pc := 1463) C.1 dL_law_1463 0 rfl ?_
  refine c_iload_n (pc := 1464) C.1 dL_law_1464 3 rfl ?_
  refine c_iconst (pc := 1465) (v := 2) C.1 dL_law_1465 (by decide) ?_
  refine c_iadd (pc := 1466) C.1 dL_law_1466 ?_
  refine c_sld (pc := 1467) C dL_law_1467 hi2 ?_
  refine l_callX_I (pc := 1468) C dL_law_1468 ml_L_164 mc_X7_deal mv_X7_deal rfl [.int (xs (x3 + 1).toNatClampNeg), .int (xs (x3 + 2).toNatClampNeg)] rfl (by decide) (by decide) rfl (Nat.le_of_ble_eq_true rfl) ⟨hnc, hns⟩ (c_X7_deal N (xs (x3 + 1).toNatClampNeg) (xs (x3 + 2).toNatClampNeg) _ _ _ hx) ?_
  refine c_aload_n (pc := 1471) C.1 dL_law_1471 2 rfl ?_
  refine c_aload_n (pc := 1472) C.1 dL_law_1472 0 rfl ?_
  refine c_iload_n (pc := 1473) C.1 dL_law_1473 3 rfl ?_
  refine c_iconst (pc := 1474) (v := 1) C.1 dL_law_1474 (by decide) ?_
  refine c_iadd (pc := 1475) C.1 dL_law_1475 ?_
  refine c_sld (pc := 1476) C dL_law_1476 hi1 ?_
  refine c_aload_n (pc := 1477) C.1 dL_law_1477 0 rfl ?_
  refine c_iload_n (pc := 1478) C.1 dL_law_1478 3 rfl ?_
  refine c_iconst (pc := 1479) (v := 2) C.1 dL_law_1479 (by decide) ?_
  refine c_iadd (pc := 1480) C.1 dL_law_1480 ?_
  refine c_sld (pc := 1481) C dL_law_1481 hi2 ?_
  refine l_callM_I (pc := 1482) C dL_law_1482 ml_L_167 mc_X8_deal mv_X8_deal rfl [.int (xs (x3 + 1).toNatClampNeg), .int (xs (x3 + 2).toNatClampNeg)] rfl (by decide) (by decide) rfl (Nat.le_of_ble_eq_true rfl) ⟨hnc, hns⟩ (c_X8_deal N (xs (x3 + 1).toNatClampNeg) (xs (x3 + 2).toNatClampNeg) _ _ _ hm) ?_
  refine c_icmp_eq (pc := 1485) 1782 C.1 dL_law_1485 (by decide) (fun _ => ?_) (fun h => absurd rfl h)
  exact next _ _ hrel2
