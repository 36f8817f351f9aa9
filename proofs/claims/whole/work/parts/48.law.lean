theorem dL_law_1490 : decode cL_law 1490 = .ok (.aload_n 1, 1) := by decide +kernel
theorem dL_law_1491 : decode cL_law 1491 = .ok (.aload_n 0, 1) := by decide +kernel
theorem dL_law_1492 : decode cL_law 1492 = .ok (.iload_n 3, 1) := by decide +kernel
theorem dL_law_1493 : decode cL_law 1493 = .ok (.iconst 1, 1) := by decide +kernel
theorem dL_law_1494 : decode cL_law 1494 = .ok (.iadd, 1) := by decide +kernel
theorem dL_law_1495 : decode cL_law 1495 = .ok (.iaload, 1) := by decide +kernel
theorem dL_law_1496 : decode cL_law 1496 = .ok (.aload_n 0, 1) := by decide +kernel
theorem dL_law_1497 : decode cL_law 1497 = .ok (.iload_n 3, 1) := by decide +kernel
theorem dL_law_1498 : decode cL_law 1498 = .ok (.iconst 2, 1) := by decide +kernel
theorem dL_law_1499 : decode cL_law 1499 = .ok (.iadd, 1) := by decide +kernel
theorem dL_law_1500 : decode cL_law 1500 = .ok (.iaload, 1) := by decide +kernel
theorem dL_law_1501 : decode cL_law 1501 = .ok (.aload_n 0, 1) := by decide +kernel
theorem dL_law_1502 : decode cL_law 1502 = .ok (.iload_n 3, 1) := by decide +kernel
theorem dL_law_1503 : decode cL_law 1503 = .ok (.iconst 3, 1) := by decide +kernel
theorem dL_law_1504 : decode cL_law 1504 = .ok (.iadd, 1) := by decide +kernel
theorem dL_law_1505 : decode cL_law 1505 = .ok (.iaload, 1) := by decide +kernel
theorem dL_law_1506 : decode cL_law 1506 = .ok (.invokevirtual 168, 3) := by decide +kernel
theorem dL_law_1509 : decode cL_law 1509 = .ok (.aload_n 2, 1) := by decide +kernel
theorem dL_law_1510 : decode cL_law 1510 = .ok (.aload_n 0, 1) := by decide +kernel
theorem dL_law_1511 : decode cL_law 1511 = .ok (.iload_n 3, 1) := by decide +kernel
theorem dL_law_1512 : decode cL_law 1512 = .ok (.iconst 1, 1) := by decide +kernel
theorem dL_law_1513 : decode cL_law 1513 = .ok (.iadd, 1) := by decide +kernel
theorem dL_law_1514 : decode cL_law 1514 = .ok (.iaload, 1) := by decide +kernel
theorem dL_law_1515 : decode cL_law 1515 = .ok (.aload_n 0, 1) := by decide +kernel
theorem dL_law_1516 : decode cL_law 1516 = .ok (.iload_n 3, 1) := by decide +kernel
theorem dL_law_1517 : decode cL_law 1517 = .ok (.iconst 2, 1) := by decide +kernel
theorem dL_law_1518 : decode cL_law 1518 = .ok (.iadd, 1) := by decide +kernel
theorem dL_law_1519 : decode cL_law 1519 = .ok (.iaload, 1) := by decide +kernel
theorem dL_law_1520 : decode cL_law 1520 = .ok (.aload_n 0, 1) := by decide +kernel
theorem dL_law_1521 : decode cL_law 1521 = .ok (.iload_n 3, 1) := by decide +kernel
theorem dL_law_1522 : decode cL_law 1522 = .ok (.iconst 3, 1) := by decide +kernel
theorem dL_law_1523 : decode cL_law 1523 = .ok (.iadd, 1) := by decide +kernel
theorem dL_law_1524 : decode cL_law 1524 = .ok (.iaload, 1) := by decide +kernel
theorem dL_law_1525 : decode cL_law 1525 = .ok (.invokevirtual 171, 3) := by decide +kernel
theorem dL_law_1528 : decode cL_law 1528 = .ok (.if_icmp .eq 254, 3) := by decide +kernel
theorem dL_law_1531 : decode cL_law 1531 = .ok (.iconst 0, 1) := by decide +kernel
theorem dL_law_1532 : decode cL_law 1532 = .ok (.ireturn, 1) := by decide +kernel
set_option maxRecDepth 100000 in
set_option maxHeartbeats 4000000 in
theorem case_36 {p : Program} {l : Launch} {e : Env} {s : State} {m : MethodId} {args : Array Value} {below : List Frame} {meth : Method} {c : Code} {D : va_G} {ac : Nat → ClassId} {A : Nat → Prop} {Q : State → Prop} {adX adM : Nat → Nat} {b n nc ns : Nat} {xs : Nat → Int32} {N : Nat} {Rel : Mem → Mem → Prop} (hp : PureOk N Rel) (C : LC p s m args c D ac A adX adM b n xs) (hnc : nc ≤ 600000) (hns : ns ≤ 7302250) {x3 : Int32} (hi1 : vp_in (x3 + 1) n) (hi2 : vp_in (x3 + 2) n) (hi3 : vp_in (x3 + 3) n) (hi4 : vp_in (x3 + 4) n) (hi5 : vp_in (x3 + 5) n) (Mx Mm : Mem) (hrel : Rel Mx Mm) (next : ∀ Mx2 Mm2, Rel Mx2 Mm2 → Ac p l e room_1 s m args below meth c D A 4 Q 1782 [(0, .ref b), (1, .ref (adX 0)), (2, .ref (adM 0)), (3, .int x3)] [] (wXM ac adX adM Mx2 Mm2) nc ns) : Ac p l e room_1 s m args below meth c D A 4 Q 1490 [(0, .ref b), (1, .ref (adX 0)), (2, .ref (adM 0)), (3, .int x3)] [] (wXM ac adX adM Mx Mm) nc ns := by
  obtain ⟨r, Mx2, Mm2, hx, hm, hrel2⟩ := (hp.2.2.2.2.2.2.2.2.2.2.2.2.2.2.2.2.2.2.2.2.2.2.2.2.2.2.2.2.2.2.2.2.2.2.2.2.2.1) Mx Mm (xs (x3 + 1).toNatClampNeg) (xs (x3 + 2).toNatClampNeg) (xs (x3 + 3).toNatClampNeg) hrel
  refine c_aload_n (pc := 1490) C.1 dL_law_1490 1 rfl ?_
  refine c_aload_n (pc := 1491) C.1 dL_law_1491 0 rfl ?_
  refine c_iload_n (pc := 1492) C.1 dL_law_1492 3 rfl ?_
  refine c_iconst (pc := 1493) (v := 1) C.1 dL_law_1493 (by decide) ?_
  refine c_iadd (pc := 1494) C.1 dL_law_1494 ?_
  refine c_sld (pc := 1495) C dL_law_1495 hi1 ?_
  refine c_aload_n (pc := 1496) C.1 dL_law_1496 0 rfl ?_
  refine c_iload_n (pc := 1497) C.1 dL_law_1497 3 rfl ?_
  refine c_iconst (pc := 1498) (v := 2) C.1 dL_law_1498 (by decide) ?_
  refine c_iadd (pc := 1499) C.1 dL_law_1499 ?_
  refine c_sld (pc := 1500) C dL_law_1500 hi2 ?_
  refine c_aload_n (pc := 1501) C.1 dL_law_1501 0 rfl ?_
  refine c_iload_n (pc := 1502) C.1 dL_law_1502 3 rfl ?_
  refine c_iconst (pc := 1503) (v := 3) C.1 dL_law_1503 (by decide) ?_
  refine c_iadd (pc := 1504) C.1 dL_law_1504 ?_
  refine c_sld (pc := 1505) C dL_law_1505 hi3 ?_
  refine l_callX_I (pc := 1506) C dL_law_1506 ml_L_168 mc_X7_sheet mv_X7_sheet rfl [.int (xs (x3 + 1).toNatClampNeg), .int (xs (x3 + 2).toNatClampNeg), .int (xs (x3 + 3).toNatClampNeg)] rfl (by decide) (by decide) rfl (Nat.le_of_ble_eq_true rfl) ⟨hnc, hns⟩ (c_X7_sheet N (xs (x3 + 1).toNatClampNeg) (xs (x3 + 2).toNatClampNeg) (xs (x3 + 3).toNatClampNeg) _ _ _ hx) ?_
  refine c_aload_n (pc := 1509) C.1 dL_law_1509 2 rfl ?_
  refine c_aload_n (pc := 1510) C.1 dL_law_1510 0 rfl ?_
  refine c_iload_n (pc := 1511) C.1 dL_law_1511 3 rfl ?_
  refine c_iconst (pc := 1512) (v := 1) C.1 dL_law_1512 (by decide) ?_
  refine c_iadd (pc := 1513) C.1 dL_law_1513 ?_
  refine c_sld (pc := 1514) C dL_law_1514 hi1 ?_
  refine c_aload_n (pc := 1515) C.1 dL_law_1515 0 rfl ?_
  refine c_iload_n (pc := 1516) C.1 dL_law_1516 3 rfl ?_
  refine c_iconst (pc := 1517) (v := 2) C.1 dL_law_1517 (by decide) ?_
  refine c_iadd (pc := 1518) C.1 dL_law_1518 ?_
  refine c_sld (pc := 1519) C dL_law_1519 hi2 ?_
  refine c_aload_n (pc := 1520) C.1 dL_law_1520 0 rfl ?_
  refine c_iload_n (pc := 1521) C.1 dL_law_1521 3 rfl ?_
  refine c_iconst (pc := 1522) (v := 3) C.1 dL_law_1522 (by decide) ?_
  refine c_iadd (pc := 1523) C.1 dL_law_1523 ?_
  refine c_sld (pc := 1524) C dL_law_1524 hi3 ?_
  refine l_callM_I (pc := 1525) C dL_law_1525 ml_L_171 mc_X8_sheet mv_X8_sheet rfl [.int (xs (x3 + 1).toNatClampNeg), .int (xs (x3 + 2).toNatClampNeg), .int (xs (x3 + 3).toNatClampNeg)] rfl (by decide) (by decide) rfl (Nat.le_of_ble_eq_true rfl) ⟨hnc, hns⟩ (c_X8_sheet N (xs (x3 + 1).toNatClampNeg) (xs (x3 + 2).toNatClampNeg) (xs (x3 + 3).toNatClampNeg) _ _ _ hm) ?_
  refine c_icmp_eq (pc := 1528) 1782 C.1 dL_law_1528 (by decide) (fun _ => ?_) (fun h => absurd rfl h)
  exact next _ _ hrel2
theorem dL_law_1533 : decode cL_law 1533 = .ok (.aload_n 1, 1) := by decide +kernel
theorem dL_law_1534 : decode cL_law 1534 = .ok (.aload_n 0, 1) := by decide +kernel
theorem dL_law_1535 : decode cL_law 1535 = .ok (.iload_n 3, 1) := by decide +kernel
theorem dL_law_1536 : decode cL_law 1536 = .ok (.iconst 1, 1) := by decide +kernel
theorem dL_law_1537 : decode cL_law 1537 = .ok (.iadd, 1) := by decide +kernel
theorem dL_law_1538 : decode cL_law 1538 = .ok (.iaload, 1) := by decide +kernel
theorem dL_law_1539 : decode cL_law 1539 = .ok (.aload_n 0, 1) := by decide +kernel
theorem dL_law_1540 : decode cL_law 1540 = .ok (.iload_n 3, 1) := by decide +kernel
theorem dL_law_1541 : decode cL_law 1541 = .ok (.iconst 2, 1) := by decide +kernel
theorem dL_law_1542 : decode cL_law 1542 = .ok (.iadd, 1) := by decide +kernel
theorem dL_law_1543 : decode cL_law 1543 = .ok (.iaload, 1) := by decide +kernel
theorem dL_law_1544 : decode cL_law 1544 = .ok (.aload_n 0, 1) := by decide +kernel
theorem dL_law_1545 : decode cL_law 1545 = .ok (.iload_n 3, 1) := by decide +kernel
theorem dL_law_1546 : decode cL_law 1546 = .ok (.iconst 3, 1) := by decide +kernel
theorem dL_law_1547 : decode cL_law 1547 = .ok (.iadd, 1) := by decide +kernel
theorem dL_law_1548 : decode cL_law 1548 = .ok (.iaload, 1) := by decide +kernel
theorem dL_law_1549 : decode cL_law 1549 = .ok (.i2l, 1) := by decide +kernel
theorem dL_law_1550 : decode cL_law 1550 = .ok (.bipush 32, 2) := by decide +kernel
theorem dL_law_1552 : decode cL_law 1552 = .ok (.lshl, 1) := by decide +kernel
theorem dL_law_1553 : decode cL_law 1553 = .ok (.aload_n 0, 1) := by decide +kernel
theorem dL_law_1554 : decode cL_law 1554 = .ok (.iload_n 3, 1) := by decide +kernel
theorem dL_law_1555 : decode cL_law 1555 = .ok (.iconst 4, 1) := by decide +kernel
theorem dL_law_1556 : decode cL_law 1556 = .ok (.iadd, 1) := by decide +kernel
theorem dL_law_1557 : decode cL_law 1557 = .ok (.iaload, 1) := by decide +kernel
theorem dL_law_1558 : decode cL_law 1558 = .ok (.i2l, 1) := by decide +kernel
theorem dL_law_1559 : decode cL_law 1559 = .ok (.ldc2_w 37, 3) := by decide +kernel
theorem dL_law_1562 : decode cL_law 1562 = .ok (.land, 1) := by decide +kernel
theorem dL_law_1563 : decode cL_law 1563 = .ok (.lor, 1) := by decide +kernel
theorem dL_law_1564 : decode cL_law 1564 = .ok (.invokevirtual 172, 3) := by decide +kernel
theorem dL_law_1567 : decode cL_law 1567 = .ok (.aload_n 2, 1) := by decide +kernel
theorem dL_law_1568 : decode cL_law 1568 = .ok (.aload_n 0, 1) := by decide +kernel
theorem dL_law_1569 : decode cL_law 1569 = .ok (.iload_n 3, 1) := by decide +kernel
theorem dL_law_1570 : decode cL_law 1570 = .ok (.iconst 1, 1) := by decide +kernel
theorem dL_law_1571 : decode cL_law 1571 = .ok (.iadd, 1) := by decide +kernel
theorem dL_law_1572 : decode cL_law 1572 = .ok (.iaload, 1) := by decide +kernel
theorem dL_law_1573 : decode cL_law 1573 = .ok (.aload_n 0, 1) := by decide +kernel
theorem dL_law_1574 : decode cL_law 1574 = .ok (.iload_n 3, 1) := by decide +kernel
theorem dL_law_1575 : decode cL_law 1575 = .ok (.iconst 2, 1) := by decide +kernel
theorem dL_law_1576 : decode cL_law 1576 = .ok (.iadd, 1) := by decide +kernel
theorem dL_law_1577 : decode cL_law 1577 = .ok (.iaload, 1) := by decide +kernel
theorem dL_law_1578 : decode cL_law 1578 = .ok (.aload_n 0, 1) := by decide +kernel
theorem dL_law_1579 : decode cL_law 1579 = .ok (.iload_n 3, 1) := by decide +kernel
theorem dL_law_1580 : decode cL_law 1580 = .ok (.iconst 3, 1) := by decide +kernel
theorem dL_law_1581 : decode cL_law 1581 = .ok (.iadd, 1) := by decide +kernel
theorem dL_law_1582 : decode cL_law 1582 = .ok (.iaload, 1) := by decide +kernel
theorem dL_law_1583 : decode cL_law 1583 = .ok (.i2l, 1) := by decide +kernel
theorem dL_law_1584 : decode cL_law 1584 = .ok (.bipush 32, 2) := by decide +kernel
theorem dL_law_1586 : decode cL_law 1586 = .ok (.lshl, 1) := by decide +kernel
theorem dL_law_1587 : decode cL_law 1587 = .ok (.aload_n 0, 1) := by decide +kernel
theorem dL_law_1588 : decode cL_law 1588 = .ok (.iload_n 3, 1) := by decide +kernel
theorem dL_law_1589 : decode cL_law 1589 = .ok (.iconst 4, 1) := by decide +kernel
theorem dL_law_1590 : decode cL_law 1590 = .ok (.iadd, 1) := by decide +kernel
theorem dL_law_1591 : decode cL_law 1591 = .ok (.iaload, 1) := by decide +kernel
theorem dL_law_1592 : decode cL_law 1592 = .ok (.i2l, 1) := by decide +kernel
theorem dL_law_1593 : decode cL_law 1593 = .ok (.ldc2_w 37, 3) := by decide +kernel
theorem dL_law_1596 : decode cL_law 1596 = .ok (.land, 1) := by decide +kernel
theorem dL_law_1597 : decode cL_law 1597 = .ok (.lor, 1) := by decide +kernel
theorem dL_law_1598 : decode cL_law 1598 = .ok (.invokevirtual 176, 3) := by decide +kernel
theorem dL_law_1601 : decode cL_law 1601 = .ok (.if_icmp .eq 181, 3) := by decide +kernel
theorem dL_law_1604 : decode cL_law 1604 = .ok (.iconst 0, 1) := by decide +kernel
theorem dL_law_1605 : decode cL_law 1605 = .ok (.ireturn, 1) := by decide +kernel
set_option maxRecDepth 100000 in
set_option maxHeartbeats 4000000 in
theorem case_37 {p : Program} {l : Launch} {e : Env} {s : State} {m : MethodId} {args : Array Value} {below : List Frame} {meth : Method} {c : Code} {D : va_G} {ac : Nat → ClassId} {A : Nat → Prop} {Q : State → Prop} {adX adM : Nat → Nat} {b n nc ns : Nat} {xs : Nat → Int32} {N : Nat} {Rel : Mem → Mem → Prop} (hp : PureOk N Rel) (C : LC p s m args c D ac A adX adM b n xs) (hnc : nc ≤ 600000) (hns : ns ≤ 7302250) {x3 : Int32} (hi1 : vp_in (x3 + 1) n) (hi2 : vp_in (x3 + 2) n) (hi3 : vp_in (x3 + 3) n) (hi4 : vp_in (x3 + 4) n) (hi5 : vp_in (x3 + 5) n) (Mx Mm : Mem) (hrel : Rel Mx Mm) (next : ∀ Mx2 Mm2, Rel Mx2 Mm2 → Ac p l e room_1 s m args below meth c D A 4 Q 1782 [(0, .ref b), (1, .ref (adX 0)), (2, .ref (adM 0)), (3, .int x3)] [] (wXM ac adX adM Mx2 Mm2) nc ns) : Ac p l e room_1 s m args below meth c D A 4 Q 1533 [(0, .ref b), (1, .ref (adX 0)), (2, .ref (adM 0)), (3, .int x3)] [] (wXM ac adX adM Mx Mm) nc ns := by
  obtain ⟨r, Mx2, Mm2, hx, hm, hrel2⟩ := (hp.2.2.2.2.2.2.2.2.2.2.2.2.2.2.2.2.2.2.2.2.2.2.2.2.2.2.2.2.2.2.2.2.2.2.2.2.2.2.1) Mx Mm (xs (x3 + 1).toNatClampNeg) (xs (x3 + 2).toNatClampNeg) (((xs (x3 + 3).toNatClampNeg).toInt64 <<< ((32 : Int32).toInt64 &&& 63)) ||| ((xs (x3 + 4).toNatClampNeg).toInt64 &&& 4294967295)) hrel
  refine c_aload_n (pc := 1533) C.1 dL_law_1533 1 rfl ?_
  refine c_aload_n (pc := 1534) C.1 dL_law_1534 0 rfl ?_
  refine c_iload_n (pc := 1535) C.1 dL_law_1535 3 rfl ?_
  refine c_iconst (pc := 1536) (v := 1) C.1 dL_law_1536 (by decide) ?_
  refine c_iadd (pc := 1537) C.1 dL_law_1537 ?_
  refine c_sld (pc := 1538) C dL_law_1538 hi1 ?_
  refine c_aload_n (pc := 1539) C.1 dL_law_1539 0 rfl ?_
  refine c_iload_n (pc := 1540) C.1 dL_law_1540 3 rfl ?_
  refine c_iconst (pc := 1541) (v := 2) C.1 dL_law_1541 (by decide) ?_
  refine c_iadd (pc := 1542) C.1 dL_law_1542 ?_
  refine c_sld (pc := 1543) C dL_law_1543 hi2 ?_
  refine c_aload_n (pc := 1544) C.1 dL_law_1544 0 rfl ?_
  refine c_iload_n (pc := 1545) C.1 dL_law_1545 3 rfl ?_
  refine c_iconst (pc := 1546) (v := 3) C.1 dL_law_1546 (by decide) ?_
  refine c_iadd (pc := 1547) C.1 dL_law_1547 ?_
  refine c_sld (pc := 1548) C dL_law_1548 hi3 ?_
  refine c_i2l (pc := 1549) C.1 dL_law_1549 ?_
  refine c_bipush (pc := 1550) (v := 32) C.1 dL_law_1550 (by decide) ?_
  refine c_lshl (pc := 1552) C.1 dL_law_1552 ?_
  refine c_aload_n (pc := 1553) C.1 dL_law_1553 0 rfl ?_
  refine c_iload_n (pc := 1554) C.1 dL_law_1554 3 rfl ?_
  refine c_iconst (pc := 1555) (v := 4) C.1 dL_law_1555 (by decide) ?_
  refine c_iadd (pc := 1556) C.1 dL_law_1556 ?_
  refine c_sld (pc := 1557) C dL_law_1557 hi4 ?_
  refine c_i2l (pc := 1558) C.1 dL_law_1558 ?_
  refine c_ldc2 (pc := 1559) C.1 dL_law_1559 cj_L_37 ?_
  refine c_land (pc := 1562) C.1 dL_law_1562 ?_
  refine c_lor (pc := 1563) C.1 dL_law_1563 ?_
  refine l_callX_I (pc := 1564) C dL_law_1564 ml_L_172 mc_X7_write mv_X7_write rfl [.int (xs (x3 + 1).toNatClampNeg), .int (xs (x3 + 2).toNatClampNeg), .long (((xs (x3 + 3).toNatClampNeg).toInt64 <<< ((32 : Int32).toInt64 &&& 63)) ||| ((xs (x3 + 4).toNatClampNeg).toInt64 &&& 4294967295))] rfl (by decide) (by decide) rfl (Nat.le_of_ble_eq_true rfl) ⟨hnc, hns⟩ (c_X7_write N (xs (x3 + 1).toNatClampNeg) (xs (x3 + 2).toNatClampNeg) (((xs (x3 + 3).toNatClampNeg).toInt64 <<< ((32 : Int32).toInt64 &&& 63)) ||| ((xs (x3 + 4).toNatClampNeg).toInt64 &&& 4294967295)) _ _ _ hx) ?_
  refine c_aload_n (pc := 1567) C.1 dL_law_1567 2 rfl ?_
  refine c_aload_n (pc := 1568) C.1 dL_law_1568 0 rfl ?_
  refine c_iload_n (pc := 1569) C.1 dL_law_1569 3 rfl ?_
  refine c_iconst (pc := 1570) (v := 1) C.1 dL_law_1570 (by decide) ?_
  refine c_iadd (pc := 1571) C.1 dL_law_1571 ?_
  refine c_sld (pc := 1572) C dL_law_1572 hi1 ?_
  refine c_aload_n (pc := 1573) C.1 dL_law_1573 0 rfl ?_
  refine c_iload_n (pc := 1574) C.1 dL_law_1574 3 rfl ?_
  refine c_iconst (pc := 1575) (v := 2) C.1 dL_law_1575 (by decide) ?_
  refine c_iadd (pc := 1576) C.1 dL_law_1576 ?_
  refine c_sld (pc := 1577) C dL_law_1577 hi2 ?_
  refine c_aload_n (pc := 1578) C.1 dL_law_1578 0 rfl ?_
  refine c_iload_n (pc := 1579) C.1 dL_law_1579 3 rfl ?_
  refine c_iconst (pc := 1580) (v := 3) C.1 dL_law_1580 (by decide) ?_
  refine c_iadd (pc := 1581) C.1 dL_law_1581 ?_
  refine c_sld (pc := 1582) C dL_law_1582 hi3 ?_
  refine c_i2l (pc := 1583) C.1 dL_law_1583 ?_
  refine c_bipush (pc := 1584) (v := 32) C.1 dL_law_1584 (by decide) ?_
  refine c_lshl (pc := 1586) C.1 dL_law_1586 ?_
  refine c_aload_n (pc := 1587) C.1 dL_law_1587 0 rfl ?_
  refine c_iload_n (pc := 1588) C.1 dL_law_1588 3 rfl ?_
  refine c_iconst (pc := 1589) (v := 4) C.1 dL_law_1589 (by decide) ?_
  refine c_iadd (pc := 1590) C.1 dL_law_1590 ?_
  refine c_sld (pc := 1591) C dL_law_1591 hi4 ?_
  refine c_i2l (pc := 1592) C.1 dL_law_1592 ?_
  refine c_ldc2 (pc := 1593) C.1 dL_law_1593 cj_L_37 ?_
  refine c_land (pc := 1596) C.1 dL_law_1596 ?_
  refine c_lor (pc := 1597) C.1 dL_law_1597 ?_
  refine l_callM_I (pc := 1598) C dL_law_1598 ml_L_176 mc_X8_write mv_X8_write rfl [.int (xs (x3 + 1).toNatClampNeg), .int (xs (x3 + 2).toNatClampNeg), .long (((xs (x3 + 3).toNatClampNeg).toInt64 <<< ((32 : Int32).toInt64 &&& 63)) ||| ((xs (x3 + 4).toNatClampNeg).toInt64 &&& 4294967295))] rfl (by decide) (by decide) rfl (Nat.le_of_ble_eq_true rfl) ⟨hnc, hns⟩ (c_X8_write N (xs (x3 + 1).toNatClampNeg) (xs (x3 + 2).toNatClampNeg) (((xs (x3 + 3).toNatClampNeg).toInt64 <<< ((32 : Int32).toInt64 &&& 63)) ||| ((xs (x3 + 4).toNatClampNeg).toInt64 &&& 4294967295)) _ _ _ hm) ?_
  refine c_icmp_eq (pc := 1601) 1782 C.1 dL_law_1601 (by decide) (fun _ => ?_) (fun h => absurd rfl h)
  exact next _ _ hrel2
theorem dL_law_1606 : decode cL_law 1606 = .ok (.aload_n 1, 1) := by decide +kernel
theorem dL_law_1607 : decode cL_law 1607 = .ok (.aload_n 0, 1) := by decide +kernel
theorem dL_law_1608 : decode cL_law 1608 = .ok (.iload_n 3, 1) := by decide +kernel
theorem dL_law_1609 : decode cL_law 1609 = .ok (.iconst 1, 1) := by decide +kernel
theorem dL_law_1610 : decode cL_law 1610 = .ok (.iadd, 1) := by decide +kernel
theorem dL_law_1611 : decode cL_law 1611 = .ok (.iaload, 1) := by decide +kernel
theorem dL_law_1612 : decode cL_law 1612 = .ok (.aload_n 0, 1) := by decide +kernel
theorem dL_law_1613 : decode cL_law 1613 = .ok (.iload_n 3, 1) := by decide +kernel
theorem dL_law_1614 : decode cL_law 1614 = .ok (.iconst 2, 1) := by decide +kernel
theorem dL_law_1615 : decode cL_law 1615 = .ok (.iadd, 1) := by decide +kernel
theorem dL_law_1616 : decode cL_law 1616 = .ok (.iaload, 1) := by decide +kernel
theorem dL_law_1617 : decode cL_law 1617 = .ok (.invokevirtual 177, 3) := by decide +kernel
theorem dL_law_1620 : decode cL_law 1620 = .ok (.aload_n 2, 1) := by decide +kernel
theorem dL_law_1621 : decode cL_law 1621 = .ok (.aload_n 0, 1) := by decide +kernel
theorem dL_law_1622 : decode cL_law 1622 = .ok (.iload_n 3, 1) := by decide +kernel
theorem dL_law_1623 : decode cL_law 1623 = .ok (.iconst 1, 1) := by decide +kernel
theorem dL_law_1624 : decode cL_law 1624 = .ok (.iadd, 1) := by decide +kernel
theorem dL_law_1625 : decode cL_law 1625 = .ok (.iaload, 1) := by decide +kernel
theorem dL_law_1626 : decode cL_law 1626 = .ok (.aload_n 0, 1) := by decide +kernel
theorem dL_law_1627 : decode cL_law 1627 = .ok (.iload_n 3, 1) := by decide +kernel
theorem dL_law_1628 : decode cL_law 1628 = .ok (.iconst 2, 1) := by decide +kernel
theorem dL_law_1629 : decode cL_law 1629 = .ok (.iadd, 1) := by decide +kernel
theorem dL_law_1630 : decode cL_law 1630 = .ok (.iaload, 1) := by decide +kernel
theorem dL_law_1631 : decode cL_law 1631 = .ok (.invokevirtual 180, 3) := by decide +kernel
theorem dL_law_1634 : decode cL_law 1634 = .ok (.lcmp, 1) := by decide +kernel
theorem dL_law_1635 : decode cL_law 1635 = .ok (.ifCond .eq 147, 3) := by decide +kernel
theorem dL_law_1638 : decode cL_law 1638 = .ok (.iconst 0, 1) := by decide +kernel
theorem dL_law_1639 : decode cL_law 1639 = .ok (.ireturn, 1) := by decide +kernel
set_option maxRecDepth 100000 in
set_option maxHeartbeats 4000000 in
theorem case_38 {p : Program} {l : Launch} {e : Env} {s : State} {m : MethodId} {args : Array Value} {below : List Frame} {meth : Method} {c : Code} {D : va_G} {ac : Nat → ClassId} {A : Nat → Prop} {Q : State → Prop} {adX adM : Nat → Nat} {b n nc ns : Nat} {xs : Nat → Int32} {N : Nat} {Rel : Mem → Mem → Prop} (hp : PureOk N Rel) (C : LC p s m args c D ac A adX adM b n xs) (hnc : nc ≤ 600000) (hns : ns ≤ 7302250) {x3 : Int32} (hi1 : vp_in (x3 + 1) n) (hi2 : vp_in (x3 + 2) n) (hi3 : vp_in (x3 + 3) n) (hi4 : vp_in (x3 + 4) n) (hi5 : vp_in (x3 + 5) n) (Mx Mm : Mem) (hrel : Rel Mx Mm) (next : ∀ Mx2 Mm2, Rel Mx2 Mm2 → Ac p l e room_1 s m args below meth c D A 4 Q 1782 [(0, .ref b), (1, .ref (adX 0)), (2, .ref (adM 0)), (3, .int x3)] [] (wXM ac adX adM Mx2 Mm2) nc ns) : Ac p l e room_1 s m args below meth c D A 4 Q 1606 [(0, .ref b), (1, .ref (adX 0)), (2, .ref (adM 0)), (3, .int x3)] [] (wXM ac adX adM Mx Mm) nc ns := by
  obtain ⟨r, hx, hm, hrel2⟩ := (hp.2.2.2.2.2.2.2.2.2.2.2.2.2.2.2.2.2.2.2.2.2.2.2.2.2.2.2.2.2.2.2.2.2.2.2.2.2.2.2.1) Mx Mm (xs (x3 + 1).toNatClampNeg) (xs (x3 + 2).toNatClampNeg) hrel
  refine c_aload_n (pc := 1606) C.1 dL_law_1606 1 rfl ?_
  refine c_aload_n (pc := 1607) C.1 dL_law_1607 0 rfl ?_
  refine c_iload_n (pc := 1608) C.1 dL_law_1608 3 rfl ?_
  refine c_iconst (pc := 1609) (v := 1) C.1 dL_law_1609 (by decide) ?_
  refine c_iadd (pc := 1610) C.1 dL_law_1610 ?_
  refine c_sld (pc := 1611) C dL_law_1611 hi1 ?_
  refine c_aload_n (pc := 1612) C.1 dL_law_1612 0 rfl ?_
  refine c_iload_n (pc := 1613) C.1 dL_law_1613 3 rfl ?_
  refine c_iconst (pc := 1614) (v := 2) C.1 dL_law_1614 (by decide) ?_
  refine c_iadd (pc := 1615) C.1 dL_law_1615 ?_
  refine c_sld (pc := 1616) C dL_law_1616 hi2 ?_
  refine l_callX_J (pc := 1617) C dL_law_1617 ml_L_177 mc_X7_item mv_X7_item rfl [.int (xs (x3 + 1).toNatClampNeg), .int (xs (x3 + 2).toNatClampNeg)] rfl (by decide) (by decide) rfl (Nat.le_of_ble_eq_true rfl) ⟨hnc, hns⟩ (c_X7_item N (xs (x3 + 1).toNatClampNeg) (xs (x3 + 2).toNatClampNeg) _ _ hx) ?_
  refine c_aload_n (pc := 1620) C.1 dL_law_1620 2 rfl ?_
  refine c_aload_n (pc := 1621) C.1 dL_law_1621 0 rfl ?_
  refine c_iload_n (pc := 1622) C.1 dL_law_1622 3 rfl ?_
  refine c_iconst (pc := 1623) (v := 1) C.1 dL_law_1623 (by decide) ?_
  refine c_iadd (pc := 1624) C.1 dL_law_1624 ?_
  refine c_sld (pc := 1625) C dL_law_1625 hi1 ?_
  refine c_aload_n (pc := 1626) C.1 dL_law_1626 0 rfl ?_
  refine c_iload_n (pc := 1627) C.1 dL_law_1627 3 rfl ?_
  refine c_iconst (pc := 1628) (v := 2) C.1 dL_law_1628 (by decide) ?_
  refine c_iadd (pc := 1629) C.1 dL_law_1629 ?_
  refine c_sld (pc := 1630) C dL_law_1630 hi2 ?_
  refine l_callM_J (pc := 1631) C dL_law_1631 ml_L_180 mc_X8_item_ mv_X8_item_ rfl [.int (xs (x3 + 1).toNatClampNeg), .int (xs (x3 + 2).toNatClampNeg)] rfl (by decide) (by decide) rfl (Nat.le_of_ble_eq_true rfl) ⟨hnc, hns⟩ (c_X8_item_ N (xs (x3 + 1).toNatClampNeg) (xs (x3 + 2).toNatClampNeg) _ _ hm) ?_
  refine c_lcmp (pc := 1634) C.1 dL_law_1634 ?_
  refine c_if_eq (pc := 1635) 1782 C.1 dL_law_1635 (by decide) (fun _ => ?_) (fun h => absurd (lg_same r) h)
  exact next _ _ hrel2
