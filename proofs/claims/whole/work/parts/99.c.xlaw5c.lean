/-! ===== 99.c.xlaw5: the law's cases, by wip/gen/cases.py ===== -/
section LawV
variable {p : Program} {l : Launch} {e : Env} {s : State} {m : MethodId} {args : Array Value} {below : List Frame} {meth : Method} {c : Code} {H : Heap} {locs : List Loc} {cells slots : Nat} {Q : State → Prop}
variable {ls : Array Slot} {κ : EK} {D : va_G} {G : XG} {u : XA} {cO : ClassId} {aO : Nat} {M : MG} {A : Nat → Nat} {b L : Nat} {scr : Nat → Int32} {i : Int32} {x : XS} {f : Nat → Int64} {σ : MS}
set_option maxRecDepth 100000 in
theorem lc_circle (C : LawC p l s m args c κ D G u cO aO M A b L scr) (I : fI D (wLw G u cO aO M A) (dLw u aO A) s ((x, f), σ) H locs) (hr : Rel x σ) (hl : lv_has ls 7 (lwl b u aO A i)) (hi : lwI i L) (hcs : cells + 3 ≤ room_1.cells ∧ slots + 18 ≤ room_1.slots) (kk : LwE p l e s m args below meth c D G u cO aO M A b i cells slots Q) : W p l e room_1 s m args below meth c H locs cells slots Q (F0 m 1334 ls []) := by
  obtain ⟨B, tp, sn, Nw, La, St, Kp, Kl, Pr, Ps, Lr, Ll, Od, Ln, Se, Cu, Pa⟩ := x
  have hx := C.K.x
  have hb := C.K.b
  refine lv_aload_n hx hb dL_law__1334 rfl (lv_at hl 1 rfl) ?_
  refine lw_arg (v := 1) C I (lv_at hl 0 rfl) (lv_at hl 4 rfl) rfl hi.1 dL_law__1335 dL_law__1336 dL_law__1338 dL_law__1339 dL_law__1340 ?_
  refine lw_arg (v := 2) C I (lv_at hl 0 rfl) (lv_at hl 4 rfl) rfl hi.2.1 dL_law__1341 dL_law__1342 dL_law__1344 dL_law__1345 dL_law__1346 ?_
  refine lv_aload_n hx hb dL_law__1347 rfl (lv_at hl 3 rfl) ?_
  have h := t_circle (p0 := (lwA scr i 1)) (p1 := (lwA scr i 2)) hr
  rw [tX_b2 (e1 := eIx) (e2 := eIa) (f := f) (by decide) (by decide) (by decide), tO_i (f := f)] at h
  refine lwW (As := [.ref (u.1 0), .int (lwA scr i 1), .int (lwA scr i 2), .ref aO]) (post := Pb (m_X12_circle σ (lwA scr i 1) (lwA scr i 2))) C I hl cwH_circle (c_L_circle C.st h) rfl rfl ⟨Nat.le_of_ble_eq_true rfl, Nat.le_of_ble_eq_true rfl⟩ rfl ⟨by decide, by decide⟩ hcs dL_law__1348 dL_law__1351 (fun r q H1 locs1 ls1 hp I1 hl1 => ?_)
  refine lv_aload_n hx hb dL_law__1353 rfl (lv_at hl1 3 rfl) ?_
  refine lw_arg (v := 1) C I1 (lv_at hl1 1 rfl) (lv_at hl1 5 rfl) rfl hi.1 dL_law__1354 dL_law__1355 dL_law__1357 dL_law__1358 dL_law__1359 ?_
  refine lw_arg (v := 2) C I1 (lv_at hl1 1 rfl) (lv_at hl1 5 rfl) rfl hi.2.1 dL_law__1360 dL_law__1361 dL_law__1363 dL_law__1364 dL_law__1365 ?_
  exact lwB (q1 := 1382) (pe := 1399) (z := q) (As := [.int (lwA scr i 1), .int (lwA scr i 2)]) C I1 hl1 cwQ_X12_circle (c_X12_circle hp) rfl rfl ⟨Nat.le_of_ble_eq_true rfl, Nat.le_of_ble_eq_true rfl⟩ rfl hcs rfl cwQ_X12_thrown dL_law__1366 dL_law__1369 dL_law__1371 dL_law__1372 dL_law__1375 dL_law__1377 (by decide) dL_law__1382 dL_law__1384 (by decide) dL_law__1387 dL_law__1388 dL_law__1389 dL_law__1390 dL_law__1392 dL_law__1393 dL_law__1394 (by decide) dL_law__1399 (by decide) (fun σ2 H2 locs2 ls2 hR I2 hl2 => kk q.1 q.2 σ2 H2 locs2 ls2 hR I2 hl2)
set_option maxRecDepth 100000 in
theorem lc_laps (C : LawC p l s m args c κ D G u cO aO M A b L scr) (I : fI D (wLw G u cO aO M A) (dLw u aO A) s ((x, f), σ) H locs) (hr : Rel x σ) (hl : lv_has ls 7 (lwl b u aO A i)) (hi : lwI i L) (hcs : cells + 3 ≤ room_1.cells ∧ slots + 18 ≤ room_1.slots) (kk : LwE p l e s m args below meth c D G u cO aO M A b i cells slots Q) : W p l e room_1 s m args below meth c H locs cells slots Q (F0 m 1402 ls []) := by
  obtain ⟨B, tp, sn, Nw, La, St, Kp, Kl, Pr, Ps, Lr, Ll, Od, Ln, Se, Cu, Pa⟩ := x
  have hx := C.K.x
  have hb := C.K.b
  refine lv_aload_n hx hb dL_law__1402 rfl (lv_at hl 1 rfl) ?_
  refine lw_arg (v := 1) C I (lv_at hl 0 rfl) (lv_at hl 4 rfl) rfl hi.1 dL_law__1403 dL_law__1404 dL_law__1406 dL_law__1407 dL_law__1408 ?_
  refine lw_arg (v := 2) C I (lv_at hl 0 rfl) (lv_at hl 4 rfl) rfl hi.2.1 dL_law__1409 dL_law__1410 dL_law__1412 dL_law__1413 dL_law__1414 ?_
  refine lv_aload_n hx hb dL_law__1415 rfl (lv_at hl 3 rfl) ?_
  have h := t_laps (p0 := (lwA scr i 1)) (p1 := (lwA scr i 2)) hr
  rw [tX_b2 (e1 := eIx) (e2 := eIa) (f := f) (by decide) (by decide) (by decide), tO_i (f := f)] at h
  refine lwW (As := [.ref (u.1 0), .int (lwA scr i 1), .int (lwA scr i 2), .ref aO]) (post := Pb (m_X12_laps σ (lwA scr i 1) (lwA scr i 2))) C I hl cwH_laps (c_L_laps C.st h) rfl rfl ⟨Nat.le_of_ble_eq_true rfl, Nat.le_of_ble_eq_true rfl⟩ rfl ⟨by decide, by decide⟩ hcs dL_law__1416 dL_law__1419 (fun r q H1 locs1 ls1 hp I1 hl1 => ?_)
  refine lv_aload_n hx hb dL_law__1421 rfl (lv_at hl1 3 rfl) ?_
  refine lw_arg (v := 1) C I1 (lv_at hl1 1 rfl) (lv_at hl1 5 rfl) rfl hi.1 dL_law__1422 dL_law__1423 dL_law__1425 dL_law__1426 dL_law__1427 ?_
  refine lw_arg (v := 2) C I1 (lv_at hl1 1 rfl) (lv_at hl1 5 rfl) rfl hi.2.1 dL_law__1428 dL_law__1429 dL_law__1431 dL_law__1432 dL_law__1433 ?_
  exact lwB (q1 := 1450) (pe := 1467) (z := q) (As := [.int (lwA scr i 1), .int (lwA scr i 2)]) C I1 hl1 cwQ_X12_laps (c_X12_laps hp) rfl rfl ⟨Nat.le_of_ble_eq_true rfl, Nat.le_of_ble_eq_true rfl⟩ rfl hcs rfl cwQ_X12_thrown dL_law__1434 dL_law__1437 dL_law__1439 dL_law__1440 dL_law__1443 dL_law__1445 (by decide) dL_law__1450 dL_law__1452 (by decide) dL_law__1455 dL_law__1456 dL_law__1457 dL_law__1458 dL_law__1460 dL_law__1461 dL_law__1462 (by decide) dL_law__1467 (by decide) (fun σ2 H2 locs2 ls2 hR I2 hl2 => kk q.1 q.2 σ2 H2 locs2 ls2 hR I2 hl2)
set_option maxRecDepth 100000 in
theorem lc_alone (C : LawC p l s m args c κ D G u cO aO M A b L scr) (I : fI D (wLw G u cO aO M A) (dLw u aO A) s ((x, f), σ) H locs) (hr : Rel x σ) (hl : lv_has ls 7 (lwl b u aO A i)) (hi : lwI i L) (hcs : cells + 3 ≤ room_1.cells ∧ slots + 18 ≤ room_1.slots) (kk : LwE p l e s m args below meth c D G u cO aO M A b i cells slots Q) : W p l e room_1 s m args below meth c H locs cells slots Q (F0 m 1470 ls []) := by
  obtain ⟨B, tp, sn, Nw, La, St, Kp, Kl, Pr, Ps, Lr, Ll, Od, Ln, Se, Cu, Pa⟩ := x
  have hx := C.K.x
  have hb := C.K.b
  refine lv_aload_n hx hb dL_law__1470 rfl (lv_at hl 1 rfl) ?_
  refine lw_arg (v := 1) C I (lv_at hl 0 rfl) (lv_at hl 4 rfl) rfl hi.1 dL_law__1471 dL_law__1472 dL_law__1474 dL_law__1475 dL_law__1476 ?_
  refine lw_arg (v := 2) C I (lv_at hl 0 rfl) (lv_at hl 4 rfl) rfl hi.2.1 dL_law__1477 dL_law__1478 dL_law__1480 dL_law__1481 dL_law__1482 ?_
  refine lv_aload_n hx hb dL_law__1483 rfl (lv_at hl 3 rfl) ?_
  have h := t_alone (p0 := (lwA scr i 1)) (p1 := (lwA scr i 2)) hr
  rw [tX_b1 (e1 := eIx) (f := f) (by decide), tO_i (f := f)] at h
  refine lwW (As := [.ref (u.1 0), .int (lwA scr i 1), .int (lwA scr i 2), .ref aO]) (post := Pb (m_X12_alone σ (lwA scr i 1) (lwA scr i 2))) C I hl cwH_alone (c_L_alone C.st h) rfl rfl ⟨Nat.le_of_ble_eq_true rfl, Nat.le_of_ble_eq_true rfl⟩ rfl ⟨by decide, by decide⟩ hcs dL_law__1484 dL_law__1487 (fun r q H1 locs1 ls1 hp I1 hl1 => ?_)
  refine lv_aload_n hx hb dL_law__1489 rfl (lv_at hl1 3 rfl) ?_
  refine lw_arg (v := 1) C I1 (lv_at hl1 1 rfl) (lv_at hl1 5 rfl) rfl hi.1 dL_law__1490 dL_law__1491 dL_law__1493 dL_law__1494 dL_law__1495 ?_
  refine lw_arg (v := 2) C I1 (lv_at hl1 1 rfl) (lv_at hl1 5 rfl) rfl hi.2.1 dL_law__1496 dL_law__1497 dL_law__1499 dL_law__1500 dL_law__1501 ?_
  exact lwB (q1 := 1518) (pe := 1535) (z := q) (As := [.int (lwA scr i 1), .int (lwA scr i 2)]) C I1 hl1 cwQ_X12_alone (c_X12_alone hp) rfl rfl ⟨Nat.le_of_ble_eq_true rfl, Nat.le_of_ble_eq_true rfl⟩ rfl hcs rfl cwQ_X12_thrown dL_law__1502 dL_law__1505 dL_law__1507 dL_law__1508 dL_law__1511 dL_law__1513 (by decide) dL_law__1518 dL_law__1520 (by decide) dL_law__1523 dL_law__1524 dL_law__1525 dL_law__1526 dL_law__1528 dL_law__1529 dL_law__1530 (by decide) dL_law__1535 (by decide) (fun σ2 H2 locs2 ls2 hR I2 hl2 => kk q.1 q.2 σ2 H2 locs2 ls2 hR I2 hl2)
set_option maxRecDepth 100000 in
theorem lc_both (C : LawC p l s m args c κ D G u cO aO M A b L scr) (I : fI D (wLw G u cO aO M A) (dLw u aO A) s ((x, f), σ) H locs) (hr : Rel x σ) (hl : lv_has ls 7 (lwl b u aO A i)) (hi : lwI i L) (hcs : cells + 3 ≤ room_1.cells ∧ slots + 18 ≤ room_1.slots) (kk : LwE p l e s m args below meth c D G u cO aO M A b i cells slots Q) : W p l e room_1 s m args below meth c H locs cells slots Q (F0 m 1538 ls []) := by
  obtain ⟨B, tp, sn, Nw, La, St, Kp, Kl, Pr, Ps, Lr, Ll, Od, Ln, Se, Cu, Pa⟩ := x
  have hx := C.K.x
  have hb := C.K.b
  refine lv_aload_n hx hb dL_law__1538 rfl (lv_at hl 1 rfl) ?_
  refine lw_arg (v := 1) C I (lv_at hl 0 rfl) (lv_at hl 4 rfl) rfl hi.1 dL_law__1539 dL_law__1540 dL_law__1542 dL_law__1543 dL_law__1544 ?_
  refine lw_arg (v := 2) C I (lv_at hl 0 rfl) (lv_at hl 4 rfl) rfl hi.2.1 dL_law__1545 dL_law__1546 dL_law__1548 dL_law__1549 dL_law__1550 ?_
  refine lv_aload_n hx hb dL_law__1551 rfl (lv_at hl 3 rfl) ?_
  have h := t_both (p0 := (lwA scr i 1)) (p1 := (lwA scr i 2)) hr
  rw [tX_b2 (e1 := eIx) (e2 := eIa) (f := f) (by decide) (by decide) (by decide), tO_i (f := f)] at h
  refine lwW (As := [.ref (u.1 0), .int (lwA scr i 1), .int (lwA scr i 2), .ref aO]) (post := Pb (m_X12_both σ (lwA scr i 1) (lwA scr i 2))) C I hl cwH_both (c_L_both C.st h) rfl rfl ⟨Nat.le_of_ble_eq_true rfl, Nat.le_of_ble_eq_true rfl⟩ rfl ⟨by decide, by decide⟩ hcs dL_law__1552 dL_law__1555 (fun r q H1 locs1 ls1 hp I1 hl1 => ?_)
  refine lv_aload_n hx hb dL_law__1557 rfl (lv_at hl1 3 rfl) ?_
  refine lw_arg (v := 1) C I1 (lv_at hl1 1 rfl) (lv_at hl1 5 rfl) rfl hi.1 dL_law__1558 dL_law__1559 dL_law__1561 dL_law__1562 dL_law__1563 ?_
  refine lw_arg (v := 2) C I1 (lv_at hl1 1 rfl) (lv_at hl1 5 rfl) rfl hi.2.1 dL_law__1564 dL_law__1565 dL_law__1567 dL_law__1568 dL_law__1569 ?_
  exact lwB (q1 := 1586) (pe := 1603) (z := q) (As := [.int (lwA scr i 1), .int (lwA scr i 2)]) C I1 hl1 cwQ_X12_both (c_X12_both hp) rfl rfl ⟨Nat.le_of_ble_eq_true rfl, Nat.le_of_ble_eq_true rfl⟩ rfl hcs rfl cwQ_X12_thrown dL_law__1570 dL_law__1573 dL_law__1575 dL_law__1576 dL_law__1579 dL_law__1581 (by decide) dL_law__1586 dL_law__1588 (by decide) dL_law__1591 dL_law__1592 dL_law__1593 dL_law__1594 dL_law__1596 dL_law__1597 dL_law__1598 (by decide) dL_law__1603 (by decide) (fun σ2 H2 locs2 ls2 hR I2 hl2 => kk q.1 q.2 σ2 H2 locs2 ls2 hR I2 hl2)
set_option maxRecDepth 100000 in
theorem lc_period (C : LawC p l s m args c κ D G u cO aO M A b L scr) (I : fI D (wLw G u cO aO M A) (dLw u aO A) s ((x, f), σ) H locs) (hr : Rel x σ) (hl : lv_has ls 7 (lwl b u aO A i)) (hi : lwI i L) (hcs : cells + 3 ≤ room_1.cells ∧ slots + 18 ≤ room_1.slots) (kk : LwE p l e s m args below meth c D G u cO aO M A b i cells slots Q) : W p l e room_1 s m args below meth c H locs cells slots Q (F0 m 1606 ls []) := by
  obtain ⟨B, tp, sn, Nw, La, St, Kp, Kl, Pr, Ps, Lr, Ll, Od, Ln, Se, Cu, Pa⟩ := x
  have hx := C.K.x
  have hb := C.K.b
  refine lv_aload_n hx hb dL_law__1606 rfl (lv_at hl 1 rfl) ?_
  refine lw_arg (v := 1) C I (lv_at hl 0 rfl) (lv_at hl 4 rfl) rfl hi.1 dL_law__1607 dL_law__1608 dL_law__1610 dL_law__1611 dL_law__1612 ?_
  refine lv_aload_n hx hb dL_law__1613 rfl (lv_at hl 3 rfl) ?_
  have h := t_period (p0 := (lwA scr i 1)) hr
  rw [tX_b1 (e1 := eIx) (f := f) (by decide), tO_i (f := f)] at h
  refine lwW (As := [.ref (u.1 0), .int (lwA scr i 1), .ref aO]) (post := Pb (m_X12_period σ (lwA scr i 1))) C I hl cwH_period (c_L_period C.st h) rfl rfl ⟨Nat.le_of_ble_eq_true rfl, Nat.le_of_ble_eq_true rfl⟩ rfl ⟨by decide, by decide⟩ hcs dL_law__1614 dL_law__1617 (fun r q H1 locs1 ls1 hp I1 hl1 => ?_)
  refine lv_aload_n hx hb dL_law__1619 rfl (lv_at hl1 3 rfl) ?_
  refine lw_arg (v := 1) C I1 (lv_at hl1 1 rfl) (lv_at hl1 5 rfl) rfl hi.1 dL_law__1620 dL_law__1621 dL_law__1623 dL_law__1624 dL_law__1625 ?_
  exact lwB (q1 := 1642) (pe := 1659) (z := q) (As := [.int (lwA scr i 1)]) C I1 hl1 cwQ_X12_period (c_X12_period hp) rfl rfl ⟨Nat.le_of_ble_eq_true rfl, Nat.le_of_ble_eq_true rfl⟩ rfl hcs rfl cwQ_X12_thrown dL_law__1626 dL_law__1629 dL_law__1631 dL_law__1632 dL_law__1635 dL_law__1637 (by decide) dL_law__1642 dL_law__1644 (by decide) dL_law__1647 dL_law__1648 dL_law__1649 dL_law__1650 dL_law__1652 dL_law__1653 dL_law__1654 (by decide) dL_law__1659 (by decide) (fun σ2 H2 locs2 ls2 hR I2 hl2 => kk q.1 q.2 σ2 H2 locs2 ls2 hR I2 hl2)
set_option maxRecDepth 100000 in
theorem lc_stands (C : LawC p l s m args c κ D G u cO aO M A b L scr) (I : fI D (wLw G u cO aO M A) (dLw u aO A) s ((x, f), σ) H locs) (hr : Rel x σ) (hl : lv_has ls 7 (lwl b u aO A i)) (hi : lwI i L) (hcs : cells + 3 ≤ room_1.cells ∧ slots + 18 ≤ room_1.slots) (kk : LwE p l e s m args below meth c D G u cO aO M A b i cells slots Q) : W p l e room_1 s m args below meth c H locs cells slots Q (F0 m 1662 ls []) := by
  obtain ⟨B, tp, sn, Nw, La, St, Kp, Kl, Pr, Ps, Lr, Ll, Od, Ln, Se, Cu, Pa⟩ := x
  have hx := C.K.x
  have hb := C.K.b
  refine lv_aload_n hx hb dL_law__1662 rfl (lv_at hl 1 rfl) ?_
  refine lw_arg (v := 1) C I (lv_at hl 0 rfl) (lv_at hl 4 rfl) rfl hi.1 dL_law__1663 dL_law__1664 dL_law__1666 dL_law__1667 dL_law__1668 ?_
  refine lw_arg (v := 2) C I (lv_at hl 0 rfl) (lv_at hl 4 rfl) rfl hi.2.1 dL_law__1669 dL_law__1670 dL_law__1672 dL_law__1673 dL_law__1674 ?_
  refine lw_arg (v := 3) C I (lv_at hl 0 rfl) (lv_at hl 4 rfl) rfl hi.2.2.1 dL_law__1675 dL_law__1676 dL_law__1678 dL_law__1679 dL_law__1680 ?_
  refine lv_aload_n hx hb dL_law__1681 rfl (lv_at hl 3 rfl) ?_
  have h := t_stands (p0 := (lwA scr i 1)) (p1 := (lwA scr i 2)) (p2 := (lwA scr i 3)) hr
  rw [tX_b2 (e1 := eIx) (e2 := eIa) (f := f) (by decide) (by decide) (by decide), tO_i (f := f)] at h
  refine lwW (As := [.ref (u.1 0), .int (lwA scr i 1), .int (lwA scr i 2), .int (lwA scr i 3), .ref aO]) (post := Pb (m_X12_stands σ (lwA scr i 1) (lwA scr i 2) (lwA scr i 3))) C I hl cwH_stands (c_L_stands C.st h) rfl rfl ⟨Nat.le_of_ble_eq_true rfl, Nat.le_of_ble_eq_true rfl⟩ rfl ⟨by decide, by decide⟩ hcs dL_law__1682 dL_law__1685 (fun r q H1 locs1 ls1 hp I1 hl1 => ?_)
  refine lv_aload_n hx hb dL_law__1687 rfl (lv_at hl1 3 rfl) ?_
  refine lw_arg (v := 1) C I1 (lv_at hl1 1 rfl) (lv_at hl1 5 rfl) rfl hi.1 dL_law__1688 dL_law__1689 dL_law__1691 dL_law__1692 dL_law__1693 ?_
  refine lw_arg (v := 2) C I1 (lv_at hl1 1 rfl) (lv_at hl1 5 rfl) rfl hi.2.1 dL_law__1694 dL_law__1695 dL_law__1697 dL_law__1698 dL_law__1699 ?_
  refine lw_arg (v := 3) C I1 (lv_at hl1 1 rfl) (lv_at hl1 5 rfl) rfl hi.2.2.1 dL_law__1700 dL_law__1701 dL_law__1703 dL_law__1704 dL_law__1705 ?_
  exact lwB (q1 := 1722) (pe := 1739) (z := q) (As := [.int (lwA scr i 1), .int (lwA scr i 2), .int (lwA scr i 3)]) C I1 hl1 cwQ_X12_stands (c_X12_stands hp) rfl rfl ⟨Nat.le_of_ble_eq_true rfl, Nat.le_of_ble_eq_true rfl⟩ rfl hcs rfl cwQ_X12_thrown dL_law__1706 dL_law__1709 dL_law__1711 dL_law__1712 dL_law__1715 dL_law__1717 (by decide) dL_law__1722 dL_law__1724 (by decide) dL_law__1727 dL_law__1728 dL_law__1729 dL_law__1730 dL_law__1732 dL_law__1733 dL_law__1734 (by decide) dL_law__1739 (by decide) (fun σ2 H2 locs2 ls2 hR I2 hl2 => kk q.1 q.2 σ2 H2 locs2 ls2 hR I2 hl2)
set_option maxRecDepth 100000 in
theorem lc_backs (C : LawC p l s m args c κ D G u cO aO M A b L scr) (I : fI D (wLw G u cO aO M A) (dLw u aO A) s ((x, f), σ) H locs) (hr : Rel x σ) (hl : lv_has ls 7 (lwl b u aO A i)) (hi : lwI i L) (hcs : cells + 3 ≤ room_1.cells ∧ slots + 18 ≤ room_1.slots) (kk : LwE p l e s m args below meth c D G u cO aO M A b i cells slots Q) : W p l e room_1 s m args below meth c H locs cells slots Q (F0 m 1742 ls []) := by
  obtain ⟨B, tp, sn, Nw, La, St, Kp, Kl, Pr, Ps, Lr, Ll, Od, Ln, Se, Cu, Pa⟩ := x
  have hx := C.K.x
  have hb := C.K.b
  refine lv_aload_n hx hb dL_law__1742 rfl (lv_at hl 1 rfl) ?_
  refine lw_arg (v := 1) C I (lv_at hl 0 rfl) (lv_at hl 4 rfl) rfl hi.1 dL_law__1743 dL_law__1744 dL_law__1746 dL_law__1747 dL_law__1748 ?_
  refine lv_aload_n hx hb dL_law__1749 rfl (lv_at hl 3 rfl) ?_
  have h := t_backs (p0 := (lwA scr i 1)) hr
  rw [tX_b1 (e1 := eIa) (f := f) (by decide), tO_i (f := f)] at h
  refine lwW (As := [.ref (u.1 0), .int (lwA scr i 1), .ref aO]) (post := Pb (m_X12_backs σ (lwA scr i 1))) C I hl cwH_backs (c_L_backs C.st h) rfl rfl ⟨Nat.le_of_ble_eq_true rfl, Nat.le_of_ble_eq_true rfl⟩ rfl ⟨by decide, by decide⟩ hcs dL_law__1750 dL_law__1753 (fun r q H1 locs1 ls1 hp I1 hl1 => ?_)
  refine lv_aload_n hx hb dL_law__1755 rfl (lv_at hl1 3 rfl) ?_
  refine lw_arg (v := 1) C I1 (lv_at hl1 1 rfl) (lv_at hl1 5 rfl) rfl hi.1 dL_law__1756 dL_law__1757 dL_law__1759 dL_law__1760 dL_law__1761 ?_
  exact lwB (q1 := 1778) (pe := 1795) (z := q) (As := [.int (lwA scr i 1)]) C I1 hl1 cwQ_X12_backs (c_X12_backs hp) rfl rfl ⟨Nat.le_of_ble_eq_true rfl, Nat.le_of_ble_eq_true rfl⟩ rfl hcs rfl cwQ_X12_thrown dL_law__1762 dL_law__1765 dL_law__1767 dL_law__1768 dL_law__1771 dL_law__1773 (by decide) dL_law__1778 dL_law__1780 (by decide) dL_law__1783 dL_law__1784 dL_law__1785 dL_law__1786 dL_law__1788 dL_law__1789 dL_law__1790 (by decide) dL_law__1795 (by decide) (fun σ2 H2 locs2 ls2 hR I2 hl2 => kk q.1 q.2 σ2 H2 locs2 ls2 hR I2 hl2)
set_option maxRecDepth 100000 in
theorem lc_ask (C : LawC p l s m args c κ D G u cO aO M A b L scr) (I : fI D (wLw G u cO aO M A) (dLw u aO A) s ((x, f), σ) H locs) (hr : Rel x σ) (hl : lv_has ls 7 (lwl b u aO A i)) (hi : lwI i L) (hcs : cells + 3 ≤ room_1.cells ∧ slots + 18 ≤ room_1.slots) (kk : LwE p l e s m args below meth c D G u cO aO M A b i cells slots Q) : W p l e room_1 s m args below meth c H locs cells slots Q (F0 m 1798 ls []) := by
  obtain ⟨B, tp, sn, Nw, La, St, Kp, Kl, Pr, Ps, Lr, Ll, Od, Ln, Se, Cu, Pa⟩ := x
  have hx := C.K.x
  have hb := C.K.b
  refine lv_aload_n hx hb dL_law__1798 rfl (lv_at hl 1 rfl) ?_
  refine lv_aload_n hx hb dL_law__1799 rfl (lv_at hl 3 rfl) ?_
  have h := t_ask hr
  rw [tX_b1 (e1 := eIa) (f := f) (by decide), tO_i (f := f)] at h
  refine lwW (As := [.ref (u.1 0), .ref aO]) (post := Pb (m_X12_ask σ)) C I hl cwH_ask (c_L_ask C.st h) rfl rfl ⟨Nat.le_of_ble_eq_true rfl, Nat.le_of_ble_eq_true rfl⟩ rfl ⟨by decide, by decide⟩ hcs dL_law__1800 dL_law__1803 (fun r q H1 locs1 ls1 hp I1 hl1 => ?_)
  refine lv_aload_n hx hb dL_law__1805 rfl (lv_at hl1 3 rfl) ?_
  exact lwB (q1 := 1822) (pe := 1839) (z := q) (As := []) C I1 hl1 cwQ_X12_ask (c_X12_ask hp) rfl rfl ⟨Nat.le_of_ble_eq_true rfl, Nat.le_of_ble_eq_true rfl⟩ rfl hcs rfl cwQ_X12_thrown dL_law__1806 dL_law__1809 dL_law__1811 dL_law__1812 dL_law__1815 dL_law__1817 (by decide) dL_law__1822 dL_law__1824 (by decide) dL_law__1827 dL_law__1828 dL_law__1829 dL_law__1830 dL_law__1832 dL_law__1833 dL_law__1834 (by decide) dL_law__1839 (by decide) (fun σ2 H2 locs2 ls2 hR I2 hl2 => kk q.1 q.2 σ2 H2 locs2 ls2 hR I2 hl2)
set_option maxRecDepth 100000 in
theorem lc_round (C : LawC p l s m args c κ D G u cO aO M A b L scr) (I : fI D (wLw G u cO aO M A) (dLw u aO A) s ((x, f), σ) H locs) (hr : Rel x σ) (hl : lv_has ls 7 (lwl b u aO A i)) (hi : lwI i L) (hcs : cells + 3 ≤ room_1.cells ∧ slots + 18 ≤ room_1.slots) (kk : LwE p l e s m args below meth c D G u cO aO M A b i cells slots Q) : W p l e room_1 s m args below meth c H locs cells slots Q (F0 m 1842 ls []) := by
  obtain ⟨B, tp, sn, Nw, La, St, Kp, Kl, Pr, Ps, Lr, Ll, Od, Ln, Se, Cu, Pa⟩ := x
  have hx := C.K.x
  have hb := C.K.b
  refine lv_aload_n hx hb dL_law__1842 rfl (lv_at hl 1 rfl) ?_
  refine lw_arg (v := 1) C I (lv_at hl 0 rfl) (lv_at hl 4 rfl) rfl hi.1 dL_law__1843 dL_law__1844 dL_law__1846 dL_law__1847 dL_law__1848 ?_
  refine lw_bz (pz := 1856) hx hb dL_law__1849 (by decide) dL_law__1852 dL_law__1853 (by decide) dL_law__1856 ?_
  refine lv_aload_n hx hb dL_law__1857 rfl (lv_at hl 3 rfl) ?_
  have h := t_round (p0 := (bZ (lwA scr i 1))) hr
  rw [tX_b1 (e1 := eIa) (f := f) (by decide), tO_i (f := f)] at h
  refine lwW (As := [.ref (u.1 0), .int (bZ (lwA scr i 1)), .ref aO]) (post := Pb (m_X12_round σ (bZ (lwA scr i 1)))) C I hl cwH_round (c_L_round C.st h) rfl rfl ⟨Nat.le_of_ble_eq_true rfl, Nat.le_of_ble_eq_true rfl⟩ rfl ⟨by decide, by decide⟩ hcs dL_law__1858 dL_law__1861 (fun r q H1 locs1 ls1 hp I1 hl1 => ?_)
  refine lv_aload_n hx hb dL_law__1863 rfl (lv_at hl1 3 rfl) ?_
  refine lw_arg (v := 1) C I1 (lv_at hl1 1 rfl) (lv_at hl1 5 rfl) rfl hi.1 dL_law__1864 dL_law__1865 dL_law__1867 dL_law__1868 dL_law__1869 ?_
  refine lw_bz (pz := 1877) hx hb dL_law__1870 (by decide) dL_law__1873 dL_law__1874 (by decide) dL_law__1877 ?_
  exact lwB (q1 := 1894) (pe := 1911) (z := q) (As := [.int (bZ (lwA scr i 1))]) C I1 hl1 cwQ_X12_round (c_X12_round hp) rfl rfl ⟨Nat.le_of_ble_eq_true rfl, Nat.le_of_ble_eq_true rfl⟩ rfl hcs rfl cwQ_X12_thrown dL_law__1878 dL_law__1881 dL_law__1883 dL_law__1884 dL_law__1887 dL_law__1889 (by decide) dL_law__1894 dL_law__1896 (by decide) dL_law__1899 dL_law__1900 dL_law__1901 dL_law__1902 dL_law__1904 dL_law__1905 dL_law__1906 (by decide) dL_law__1911 (by decide) (fun σ2 H2 locs2 ls2 hR I2 hl2 => kk q.1 q.2 σ2 H2 locs2 ls2 hR I2 hl2)
end LawV
