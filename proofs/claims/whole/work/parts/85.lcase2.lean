/-! ===== the law: cases ===== -/
theorem lc_32 {K : lx_K} {i b L : Nat} {xs : Nat → Int32} {μC μM : o_Mem} (h : Inv μC μM) (hi : i + 6 ≤ L) (hL : L ≤ 3072) (kk : ∀ μC' μM', Inv μC' μM' → lq_Ev K 2425 i b L xs [] μC' μM') : lq_Ev K 1407 i b L xs [] μC μM := by
  refine lq_a1 dL_1407 ?_
  refine lq_ld (j := 1) (by omega) hL (show Int32.ofInt 1 = 1 by decide) rfl dL_1408 dL_1409 dL_1410 dL_1411 dL_1412 ?_
  refine lq_ld (j := 2) (by omega) hL (show Int32.ofInt 2 = 2 by decide) rfl dL_1413 dL_1414 dL_1415 dL_1416 dL_1417 ?_
  refine lq_ld (j := 3) (by omega) hL (show Int32.ofInt 3 = 3 by decide) rfl dL_1418 dL_1419 dL_1420 dL_1421 dL_1422 ?_
  refine lq_ld (j := 4) (by omega) hL (show Int32.ofInt 4 = 4 by decide) rfl dL_1423 dL_1424 dL_1425 dL_1426 dL_1427 ?_
  obtain ⟨r, μ1, μ2, e1, e2, h2⟩ := pu_lawsOf h (xs (i + 1)) (xs (i + 2)) (xs (i + 3)) (xs (i + 4))
  refine lq_callC (d := 30) (C := mX11_lawsOf) (As := [.int (xs (i + 1)), .int (xs (i + 2)), .int (xs (i + 3)), .int (xs (i + 4))]) clL_158 dL_1428 rfl rfl (Nat.le_of_ble_eq_true rfl) (Nat.le_of_ble_eq_true rfl) (by decide) (dnX11_lawsOf (q := fun x ν => x = r ∧ ν = μ1) (d := 28) (xC_ok K) (xC_0 K) ⟨_, e1, rfl, rfl⟩) (fun v ν hv => ?_)
  obtain ⟨x, rfl, hr, hm⟩ := hv
  rw [hr, hm]
  show lq_Ev K 1431 i b L xs [.int r] μ1 μM
  refine lq_a2 dL_1431 ?_
  refine lq_ld (j := 1) (by omega) hL (show Int32.ofInt 1 = 1 by decide) rfl dL_1432 dL_1433 dL_1434 dL_1435 dL_1436 ?_
  refine lq_ld (j := 2) (by omega) hL (show Int32.ofInt 2 = 2 by decide) rfl dL_1437 dL_1438 dL_1439 dL_1440 dL_1441 ?_
  refine lq_ld (j := 3) (by omega) hL (show Int32.ofInt 3 = 3 by decide) rfl dL_1442 dL_1443 dL_1444 dL_1445 dL_1446 ?_
  refine lq_ld (j := 4) (by omega) hL (show Int32.ofInt 4 = 4 by decide) rfl dL_1447 dL_1448 dL_1449 dL_1450 dL_1451 ?_
  refine lq_callM (d := 30) (C := mX12_lawsOf) (As := [.int (xs (i + 1)), .int (xs (i + 2)), .int (xs (i + 3)), .int (xs (i + 4))]) clL_161 dL_1452 rfl rfl (Nat.le_of_ble_eq_true rfl) (Nat.le_of_ble_eq_true rfl) (by decide) (dnX12_lawsOf (q := fun x ν => x = r ∧ ν = μ2) (d := 27) (xM_ok K) (xM_0 K) ⟨_, e2, rfl, rfl⟩) (fun v ν hv => ?_)
  obtain ⟨x, rfl, hr, hm⟩ := hv
  rw [hr, hm]
  show lq_Ev K 1455 i b L xs [.int r, .int r] μ1 μ2
  exact lq_eq (tgt := 2425) dL_1455 (by decide) rfl (kk _ _ h2)
theorem lc_33 {K : lx_K} {i b L : Nat} {xs : Nat → Int32} {μC μM : o_Mem} (h : Inv μC μM) (hi : i + 6 ≤ L) (hL : L ≤ 3072) (kk : ∀ μC' μM', Inv μC' μM' → lq_Ev K 2425 i b L xs [] μC' μM') : lq_Ev K 1460 i b L xs [] μC μM := by
  refine lq_a1 dL_1460 ?_
  refine lq_ld (j := 1) (by omega) hL (show Int32.ofInt 1 = 1 by decide) rfl dL_1461 dL_1462 dL_1463 dL_1464 dL_1465 ?_
  refine lq_ld (j := 2) (by omega) hL (show Int32.ofInt 2 = 2 by decide) rfl dL_1466 dL_1467 dL_1468 dL_1469 dL_1470 ?_
  refine lq_ld (j := 3) (by omega) hL (show Int32.ofInt 3 = 3 by decide) rfl dL_1471 dL_1472 dL_1473 dL_1474 dL_1475 ?_
  refine lq_ld (j := 4) (by omega) hL (show Int32.ofInt 4 = 4 by decide) rfl dL_1476 dL_1477 dL_1478 dL_1479 dL_1480 ?_
  refine lq_ld (j := 5) (by omega) hL (show Int32.ofInt 5 = 5 by decide) rfl dL_1481 dL_1482 dL_1483 dL_1484 dL_1485 ?_
  obtain ⟨r, μ1, μ2, e1, e2, h2⟩ := pu_sure h (xs (i + 1)) (xs (i + 2)) (xs (i + 3)) (xs (i + 4)) (xs (i + 5))
  refine lq_callC (d := 30) (C := mX11_sure) (As := [.int (xs (i + 1)), .int (xs (i + 2)), .int (xs (i + 3)), .int (xs (i + 4)), .int (xs (i + 5))]) clL_162 dL_1486 rfl rfl (Nat.le_of_ble_eq_true rfl) (Nat.le_of_ble_eq_true rfl) (by decide) (dnX11_sure (q := fun x ν => x = r ∧ ν = μ1) (d := 27) (xC_ok K) (xC_0 K) ⟨_, e1, rfl, rfl⟩) (fun v ν hv => ?_)
  obtain ⟨x, rfl, -, hr, hm⟩ := hv
  rw [hr, hm]
  show lq_Ev K 1489 i b L xs [.int r] μ1 μM
  refine lq_a2 dL_1489 ?_
  refine lq_ld (j := 1) (by omega) hL (show Int32.ofInt 1 = 1 by decide) rfl dL_1490 dL_1491 dL_1492 dL_1493 dL_1494 ?_
  refine lq_ld (j := 2) (by omega) hL (show Int32.ofInt 2 = 2 by decide) rfl dL_1495 dL_1496 dL_1497 dL_1498 dL_1499 ?_
  refine lq_ld (j := 3) (by omega) hL (show Int32.ofInt 3 = 3 by decide) rfl dL_1500 dL_1501 dL_1502 dL_1503 dL_1504 ?_
  refine lq_ld (j := 4) (by omega) hL (show Int32.ofInt 4 = 4 by decide) rfl dL_1505 dL_1506 dL_1507 dL_1508 dL_1509 ?_
  refine lq_ld (j := 5) (by omega) hL (show Int32.ofInt 5 = 5 by decide) rfl dL_1510 dL_1511 dL_1512 dL_1513 dL_1514 ?_
  refine lq_callM (d := 30) (C := mX12_sure) (As := [.int (xs (i + 1)), .int (xs (i + 2)), .int (xs (i + 3)), .int (xs (i + 4)), .int (xs (i + 5))]) clL_165 dL_1515 rfl rfl (Nat.le_of_ble_eq_true rfl) (Nat.le_of_ble_eq_true rfl) (by decide) (dnX12_sure (q := fun x ν => x = r ∧ ν = μ2) (d := 26) (xM_ok K) (xM_0 K) ⟨_, e2, rfl, rfl⟩) (fun v ν hv => ?_)
  obtain ⟨x, rfl, -, hr, hm⟩ := hv
  rw [hr, hm]
  show lq_Ev K 1518 i b L xs [.int r, .int r] μ1 μ2
  exact lq_eq (tgt := 2425) dL_1518 (by decide) rfl (kk _ _ h2)
theorem lc_34 {K : lx_K} {i b L : Nat} {xs : Nat → Int32} {μC μM : o_Mem} (h : Inv μC μM) (hi : i + 6 ≤ L) (hL : L ≤ 3072) (kk : ∀ μC' μM', Inv μC' μM' → lq_Ev K 2425 i b L xs [] μC' μM') : lq_Ev K 1523 i b L xs [] μC μM := by
  refine lq_a1 dL_1523 ?_
  refine lq_ld (j := 1) (by omega) hL (show Int32.ofInt 1 = 1 by decide) rfl dL_1524 dL_1525 dL_1526 dL_1527 dL_1528 ?_
  refine lq_ld (j := 2) (by omega) hL (show Int32.ofInt 2 = 2 by decide) rfl dL_1529 dL_1530 dL_1531 dL_1532 dL_1533 ?_
  refine lq_ld (j := 3) (by omega) hL (show Int32.ofInt 3 = 3 by decide) rfl dL_1534 dL_1535 dL_1536 dL_1537 dL_1538 ?_
  refine lq_ld (j := 4) (by omega) hL (show Int32.ofInt 4 = 4 by decide) rfl dL_1539 dL_1540 dL_1541 dL_1542 dL_1543 ?_
  refine lq_ld (j := 5) (by omega) hL (show Int32.ofInt 5 = 5 by decide) rfl dL_1544 dL_1545 dL_1546 dL_1547 dL_1548 ?_
  obtain ⟨r, μ1, μ2, e1, e2, h2⟩ := pu_wrap h (xs (i + 1)) (xs (i + 2)) (xs (i + 3)) (xs (i + 4)) (xs (i + 5))
  refine lq_callC (d := 30) (C := mX11_wrap) (As := [.int (xs (i + 1)), .int (xs (i + 2)), .int (xs (i + 3)), .int (xs (i + 4)), .int (xs (i + 5))]) clL_166 dL_1549 rfl rfl (Nat.le_of_ble_eq_true rfl) (Nat.le_of_ble_eq_true rfl) (by decide) (dnX11_wrap (q := fun x ν => x = r ∧ ν = μ1) (d := 26) (xC_ok K) (xC_0 K) ⟨_, e1, rfl, rfl⟩) (fun v ν hv => ?_)
  obtain ⟨x, rfl, hr, hm⟩ := hv
  rw [hr, hm]
  show lq_Ev K 1552 i b L xs [.int r] μ1 μM
  refine lq_a2 dL_1552 ?_
  refine lq_ld (j := 1) (by omega) hL (show Int32.ofInt 1 = 1 by decide) rfl dL_1553 dL_1554 dL_1555 dL_1556 dL_1557 ?_
  refine lq_ld (j := 2) (by omega) hL (show Int32.ofInt 2 = 2 by decide) rfl dL_1558 dL_1559 dL_1560 dL_1561 dL_1562 ?_
  refine lq_ld (j := 3) (by omega) hL (show Int32.ofInt 3 = 3 by decide) rfl dL_1563 dL_1564 dL_1565 dL_1566 dL_1567 ?_
  refine lq_ld (j := 4) (by omega) hL (show Int32.ofInt 4 = 4 by decide) rfl dL_1568 dL_1569 dL_1570 dL_1571 dL_1572 ?_
  refine lq_ld (j := 5) (by omega) hL (show Int32.ofInt 5 = 5 by decide) rfl dL_1573 dL_1574 dL_1575 dL_1576 dL_1577 ?_
  refine lq_callM (d := 30) (C := mX12_wrap) (As := [.int (xs (i + 1)), .int (xs (i + 2)), .int (xs (i + 3)), .int (xs (i + 4)), .int (xs (i + 5))]) clL_169 dL_1578 rfl rfl (Nat.le_of_ble_eq_true rfl) (Nat.le_of_ble_eq_true rfl) (by decide) (dnX12_wrap (q := fun x ν => x = r ∧ ν = μ2) (d := 26) (xM_ok K) (xM_0 K) ⟨_, e2, rfl, rfl⟩) (fun v ν hv => ?_)
  obtain ⟨x, rfl, hr, hm⟩ := hv
  rw [hr, hm]
  show lq_Ev K 1581 i b L xs [.int r, .int r] μ1 μ2
  exact lq_eq (tgt := 2425) dL_1581 (by decide) rfl (kk _ _ h2)
theorem lc_35 {K : lx_K} {i b L : Nat} {xs : Nat → Int32} {μC μM : o_Mem} (h : Inv μC μM) (hi : i + 6 ≤ L) (hL : L ≤ 3072) (kk : ∀ μC' μM', Inv μC' μM' → lq_Ev K 2425 i b L xs [] μC' μM') : lq_Ev K 1586 i b L xs [] μC μM := by
  refine lq_a1 dL_1586 ?_
  refine lq_ld (j := 1) (by omega) hL (show Int32.ofInt 1 = 1 by decide) rfl dL_1587 dL_1588 dL_1589 dL_1590 dL_1591 ?_
  refine lq_ld (j := 2) (by omega) hL (show Int32.ofInt 2 = 2 by decide) rfl dL_1592 dL_1593 dL_1594 dL_1595 dL_1596 ?_
  refine lq_ld (j := 3) (by omega) hL (show Int32.ofInt 3 = 3 by decide) rfl dL_1597 dL_1598 dL_1599 dL_1600 dL_1601 ?_
  refine lq_ld (j := 4) (by omega) hL (show Int32.ofInt 4 = 4 by decide) rfl dL_1602 dL_1603 dL_1604 dL_1605 dL_1606 ?_
  obtain ⟨r, μ1, μ2, e1, e2, h2⟩ := pu_weights h (xs (i + 1)) (xs (i + 2)) (xs (i + 3)) (xs (i + 4))
  refine lq_callC (d := 30) (C := mX11_weights) (As := [.int (xs (i + 1)), .int (xs (i + 2)), .int (xs (i + 3)), .int (xs (i + 4))]) clL_170 dL_1607 rfl rfl (Nat.le_of_ble_eq_true rfl) (Nat.le_of_ble_eq_true rfl) (by decide) (dnX11_weights (q := fun x ν => x = r ∧ ν = μ1) (d := 27) (xC_ok K) (xC_0 K) ⟨_, e1, rfl, rfl⟩) (fun v ν hv => ?_)
  obtain ⟨x, rfl, hr, hm⟩ := hv
  rw [hr, hm]
  show lq_Ev K 1610 i b L xs [.int r] μ1 μM
  refine lq_a2 dL_1610 ?_
  refine lq_ld (j := 1) (by omega) hL (show Int32.ofInt 1 = 1 by decide) rfl dL_1611 dL_1612 dL_1613 dL_1614 dL_1615 ?_
  refine lq_ld (j := 2) (by omega) hL (show Int32.ofInt 2 = 2 by decide) rfl dL_1616 dL_1617 dL_1618 dL_1619 dL_1620 ?_
  refine lq_ld (j := 3) (by omega) hL (show Int32.ofInt 3 = 3 by decide) rfl dL_1621 dL_1622 dL_1623 dL_1624 dL_1625 ?_
  refine lq_ld (j := 4) (by omega) hL (show Int32.ofInt 4 = 4 by decide) rfl dL_1626 dL_1627 dL_1628 dL_1629 dL_1630 ?_
  refine lq_callM (d := 30) (C := mX12_weights) (As := [.int (xs (i + 1)), .int (xs (i + 2)), .int (xs (i + 3)), .int (xs (i + 4))]) clL_173 dL_1631 rfl rfl (Nat.le_of_ble_eq_true rfl) (Nat.le_of_ble_eq_true rfl) (by decide) (dnX12_weights (q := fun x ν => x = r ∧ ν = μ2) (d := 26) (xM_ok K) (xM_0 K) ⟨_, e2, rfl, rfl⟩) (fun v ν hv => ?_)
  obtain ⟨x, rfl, hr, hm⟩ := hv
  rw [hr, hm]
  show lq_Ev K 1634 i b L xs [.int r, .int r] μ1 μ2
  exact lq_eq (tgt := 2425) dL_1634 (by decide) rfl (kk _ _ h2)
theorem lc_36 {K : lx_K} {i b L : Nat} {xs : Nat → Int32} {μC μM : o_Mem} (h : Inv μC μM) (hi : i + 6 ≤ L) (hL : L ≤ 3072) (kk : ∀ μC' μM', Inv μC' μM' → lq_Ev K 2425 i b L xs [] μC' μM') : lq_Ev K 1639 i b L xs [] μC μM := by
  refine lq_a1 dL_1639 ?_
  refine lq_ld (j := 1) (by omega) hL (show Int32.ofInt 1 = 1 by decide) rfl dL_1640 dL_1641 dL_1642 dL_1643 dL_1644 ?_
  refine lq_ld (j := 2) (by omega) hL (show Int32.ofInt 2 = 2 by decide) rfl dL_1645 dL_1646 dL_1647 dL_1648 dL_1649 ?_
  refine lq_ld (j := 3) (by omega) hL (show Int32.ofInt 3 = 3 by decide) rfl dL_1650 dL_1651 dL_1652 dL_1653 dL_1654 ?_
  refine lq_ld (j := 4) (by omega) hL (show Int32.ofInt 4 = 4 by decide) rfl dL_1655 dL_1656 dL_1657 dL_1658 dL_1659 ?_
  refine lq_ld (j := 5) (by omega) hL (show Int32.ofInt 5 = 5 by decide) rfl dL_1660 dL_1661 dL_1662 dL_1663 dL_1664 ?_
  obtain ⟨r, μ1, μ2, e1, e2, h2⟩ := pu_weightAt h (xs (i + 1)) (xs (i + 2)) (xs (i + 3)) (xs (i + 4)) (xs (i + 5))
  refine lq_callC (d := 30) (C := mX11_weightAt) (As := [.int (xs (i + 1)), .int (xs (i + 2)), .int (xs (i + 3)), .int (xs (i + 4)), .int (xs (i + 5))]) clL_174 dL_1665 rfl rfl (Nat.le_of_ble_eq_true rfl) (Nat.le_of_ble_eq_true rfl) (by decide) (dnX11_weightAt (q := fun x ν => x = r ∧ ν = μ1) (d := 26) (xC_ok K) (xC_0 K) ⟨_, e1, rfl, rfl⟩) (fun v ν hv => ?_)
  obtain ⟨x, rfl, hr, hm⟩ := hv
  rw [hr, hm]
  show lq_Ev K 1668 i b L xs [.int r] μ1 μM
  refine lq_a2 dL_1668 ?_
  refine lq_ld (j := 1) (by omega) hL (show Int32.ofInt 1 = 1 by decide) rfl dL_1669 dL_1670 dL_1671 dL_1672 dL_1673 ?_
  refine lq_ld (j := 2) (by omega) hL (show Int32.ofInt 2 = 2 by decide) rfl dL_1674 dL_1675 dL_1676 dL_1677 dL_1678 ?_
  refine lq_ld (j := 3) (by omega) hL (show Int32.ofInt 3 = 3 by decide) rfl dL_1679 dL_1680 dL_1681 dL_1682 dL_1683 ?_
  refine lq_ld (j := 4) (by omega) hL (show Int32.ofInt 4 = 4 by decide) rfl dL_1684 dL_1685 dL_1686 dL_1687 dL_1688 ?_
  refine lq_ld (j := 5) (by omega) hL (show Int32.ofInt 5 = 5 by decide) rfl dL_1689 dL_1690 dL_1691 dL_1692 dL_1693 ?_
  refine lq_callM (d := 30) (C := mX12_weightAt) (As := [.int (xs (i + 1)), .int (xs (i + 2)), .int (xs (i + 3)), .int (xs (i + 4)), .int (xs (i + 5))]) clL_177 dL_1694 rfl rfl (Nat.le_of_ble_eq_true rfl) (Nat.le_of_ble_eq_true rfl) (by decide) (dnX12_weightAt (q := fun x ν => x = r ∧ ν = μ2) (d := 26) (xM_ok K) (xM_0 K) ⟨_, e2, rfl, rfl⟩) (fun v ν hv => ?_)
  obtain ⟨x, rfl, hr, hm⟩ := hv
  rw [hr, hm]
  show lq_Ev K 1697 i b L xs [.int r, .int r] μ1 μ2
  exact lq_eq (tgt := 2425) dL_1697 (by decide) rfl (kk _ _ h2)
theorem lc_37 {K : lx_K} {i b L : Nat} {xs : Nat → Int32} {μC μM : o_Mem} (h : Inv μC μM) (hi : i + 6 ≤ L) (hL : L ≤ 3072) (kk : ∀ μC' μM', Inv μC' μM' → lq_Ev K 2425 i b L xs [] μC' μM') : lq_Ev K 1702 i b L xs [] μC μM := by
  refine lq_a1 dL_1702 ?_
  refine lq_ld (j := 1) (by omega) hL (show Int32.ofInt 1 = 1 by decide) rfl dL_1703 dL_1704 dL_1705 dL_1706 dL_1707 ?_
  refine lq_ld (j := 2) (by omega) hL (show Int32.ofInt 2 = 2 by decide) rfl dL_1708 dL_1709 dL_1710 dL_1711 dL_1712 ?_
  refine lq_ld (j := 3) (by omega) hL (show Int32.ofInt 3 = 3 by decide) rfl dL_1713 dL_1714 dL_1715 dL_1716 dL_1717 ?_
  obtain ⟨r, μ1, μ2, e1, e2, h2⟩ := pu_could h (xs (i + 1)) (xs (i + 2)) (xs (i + 3))
  refine lq_callC (d := 30) (C := mX11_could) (As := [.int (xs (i + 1)), .int (xs (i + 2)), .int (xs (i + 3))]) clL_178 dL_1718 rfl rfl (Nat.le_of_ble_eq_true rfl) (Nat.le_of_ble_eq_true rfl) (by decide) (dnX11_could (q := fun x ν => x = r ∧ ν = μ1) (d := 27) (xC_ok K) (xC_0 K) ⟨_, e1, rfl, rfl⟩) (fun v ν hv => ?_)
  obtain ⟨x, rfl, hr, hm⟩ := hv
  rw [hr, hm]
  show lq_Ev K 1721 i b L xs [.int r] μ1 μM
  refine lq_a2 dL_1721 ?_
  refine lq_ld (j := 1) (by omega) hL (show Int32.ofInt 1 = 1 by decide) rfl dL_1722 dL_1723 dL_1724 dL_1725 dL_1726 ?_
  refine lq_ld (j := 2) (by omega) hL (show Int32.ofInt 2 = 2 by decide) rfl dL_1727 dL_1728 dL_1729 dL_1730 dL_1731 ?_
  refine lq_ld (j := 3) (by omega) hL (show Int32.ofInt 3 = 3 by decide) rfl dL_1732 dL_1733 dL_1734 dL_1735 dL_1736 ?_
  refine lq_callM (d := 30) (C := mX12_could) (As := [.int (xs (i + 1)), .int (xs (i + 2)), .int (xs (i + 3))]) clL_181 dL_1737 rfl rfl (Nat.le_of_ble_eq_true rfl) (Nat.le_of_ble_eq_true rfl) (by decide) (dnX12_could (q := fun x ν => x = r ∧ ν = μ2) (d := 26) (xM_ok K) (xM_0 K) ⟨_, e2, rfl, rfl⟩) (fun v ν hv => ?_)
  obtain ⟨x, rfl, hr, hm⟩ := hv
  rw [hr, hm]
  show lq_Ev K 1740 i b L xs [.int r, .int r] μ1 μ2
  exact lq_eq (tgt := 2425) dL_1740 (by decide) rfl (kk _ _ h2)
theorem lc_38 {K : lx_K} {i b L : Nat} {xs : Nat → Int32} {μC μM : o_Mem} (h : Inv μC μM) (hi : i + 6 ≤ L) (hL : L ≤ 3072) (kk : ∀ μC' μM', Inv μC' μM' → lq_Ev K 2425 i b L xs [] μC' μM') : lq_Ev K 1745 i b L xs [] μC μM := by
  refine lq_a1 dL_1745 ?_
  obtain ⟨r, μ1, μ2, e1, e2, h2⟩ := pu_idle h 
  refine lq_callC (d := 30) (C := mX11_idle) (As := []) clL_182 dL_1746 rfl rfl (Nat.le_of_ble_eq_true rfl) (Nat.le_of_ble_eq_true rfl) (by decide) (dnX11_idle (q := fun x ν => x = r ∧ ν = μ1) (d := 27) (xC_ok K) (xC_0 K) ⟨_, e1, rfl, rfl⟩) (fun v ν hv => ?_)
  obtain ⟨x, rfl, hr, hm⟩ := hv
  rw [hr, hm]
  show lq_Ev K 1749 i b L xs [.int r] μ1 μM
  refine lq_a2 dL_1749 ?_
  refine lq_callM (d := 30) (C := mX12_idle) (As := []) clL_185 dL_1750 rfl rfl (Nat.le_of_ble_eq_true rfl) (Nat.le_of_ble_eq_true rfl) (by decide) (dnX12_idle (q := fun x ν => x = r ∧ ν = μ2) (d := 27) (xM_ok K) (xM_0 K) ⟨_, e2, rfl, rfl⟩) (fun v ν hv => ?_)
  obtain ⟨x, rfl, hr, hm⟩ := hv
  rw [hr, hm]
  show lq_Ev K 1753 i b L xs [.int r, .int r] μ1 μ2
  exact lq_eq (tgt := 2425) dL_1753 (by decide) rfl (kk _ _ h2)
theorem lc_39 {K : lx_K} {i b L : Nat} {xs : Nat → Int32} {μC μM : o_Mem} (h : Inv μC μM) (hi : i + 6 ≤ L) (hL : L ≤ 3072) (kk : ∀ μC' μM', Inv μC' μM' → lq_Ev K 2425 i b L xs [] μC' μM') : lq_Ev K 1758 i b L xs [] μC μM := by
  refine lq_a1 dL_1758 ?_
  refine lq_ld (j := 1) (by omega) hL (show Int32.ofInt 1 = 1 by decide) rfl dL_1759 dL_1760 dL_1761 dL_1762 dL_1763 ?_
  refine lq_ld (j := 2) (by omega) hL (show Int32.ofInt 2 = 2 by decide) rfl dL_1764 dL_1765 dL_1766 dL_1767 dL_1768 ?_
  refine lq_ld (j := 3) (by omega) hL (show Int32.ofInt 3 = 3 by decide) rfl dL_1769 dL_1770 dL_1771 dL_1772 dL_1773 ?_
  refine lq_ld (j := 4) (by omega) hL (show Int32.ofInt 4 = 4 by decide) rfl dL_1774 dL_1775 dL_1776 dL_1777 dL_1778 ?_
  obtain ⟨r, μ1, μ2, e1, e2, h2⟩ := pu_via h (xs (i + 1)) (xs (i + 2)) (xs (i + 3)) (xs (i + 4))
  refine lq_callC (d := 30) (C := mX11_via) (As := [.int (xs (i + 1)), .int (xs (i + 2)), .int (xs (i + 3)), .int (xs (i + 4))]) clL_186 dL_1779 rfl rfl (Nat.le_of_ble_eq_true rfl) (Nat.le_of_ble_eq_true rfl) (by decide) (dnX11_via (q := fun x ν => x = r ∧ ν = μ1) (d := 24) (xC_ok K) (xC_0 K) ⟨_, e1, rfl, rfl⟩) (fun v ν hv => ?_)
  obtain ⟨x, rfl, hr, hm⟩ := hv
  rw [hr, hm]
  show lq_Ev K 1782 i b L xs [.int r] μ1 μM
  refine lq_a2 dL_1782 ?_
  refine lq_ld (j := 1) (by omega) hL (show Int32.ofInt 1 = 1 by decide) rfl dL_1783 dL_1784 dL_1785 dL_1786 dL_1787 ?_
  refine lq_ld (j := 2) (by omega) hL (show Int32.ofInt 2 = 2 by decide) rfl dL_1788 dL_1789 dL_1790 dL_1791 dL_1792 ?_
  refine lq_ld (j := 3) (by omega) hL (show Int32.ofInt 3 = 3 by decide) rfl dL_1793 dL_1794 dL_1795 dL_1796 dL_1797 ?_
  refine lq_ld (j := 4) (by omega) hL (show Int32.ofInt 4 = 4 by decide) rfl dL_1798 dL_1799 dL_1800 dL_1801 dL_1802 ?_
  refine lq_callM (d := 30) (C := mX12_via) (As := [.int (xs (i + 1)), .int (xs (i + 2)), .int (xs (i + 3)), .int (xs (i + 4))]) clL_189 dL_1803 rfl rfl (Nat.le_of_ble_eq_true rfl) (Nat.le_of_ble_eq_true rfl) (by decide) (dnX12_via (q := fun x ν => x = r ∧ ν = μ2) (d := 24) (xM_ok K) (xM_0 K) ⟨_, e2, rfl, rfl⟩) (fun v ν hv => ?_)
  obtain ⟨x, rfl, hr, hm⟩ := hv
  rw [hr, hm]
  show lq_Ev K 1806 i b L xs [.int r, .int r] μ1 μ2
  exact lq_eq (tgt := 2425) dL_1806 (by decide) rfl (kk _ _ h2)
theorem lc_40 {K : lx_K} {i b L : Nat} {xs : Nat → Int32} {μC μM : o_Mem} (h : Inv μC μM) (hi : i + 6 ≤ L) (hL : L ≤ 3072) (kk : ∀ μC' μM', Inv μC' μM' → lq_Ev K 2425 i b L xs [] μC' μM') : lq_Ev K 1811 i b L xs [] μC μM := by
  refine lq_a1 dL_1811 ?_
  refine lq_ld (j := 1) (by omega) hL (show Int32.ofInt 1 = 1 by decide) rfl dL_1812 dL_1813 dL_1814 dL_1815 dL_1816 ?_
  refine lq_ld (j := 2) (by omega) hL (show Int32.ofInt 2 = 2 by decide) rfl dL_1817 dL_1818 dL_1819 dL_1820 dL_1821 ?_
  refine lq_ld (j := 3) (by omega) hL (show Int32.ofInt 3 = 3 by decide) rfl dL_1822 dL_1823 dL_1824 dL_1825 dL_1826 ?_
  refine lq_ld (j := 4) (by omega) hL (show Int32.ofInt 4 = 4 by decide) rfl dL_1827 dL_1828 dL_1829 dL_1830 dL_1831 ?_
  obtain ⟨r, μ1, μ2, e1, e2, h2⟩ := pu_viaFirst h (xs (i + 1)) (xs (i + 2)) (xs (i + 3)) (xs (i + 4))
  refine lq_callC (d := 30) (C := mX11_viaFirst) (As := [.int (xs (i + 1)), .int (xs (i + 2)), .int (xs (i + 3)), .int (xs (i + 4))]) clL_190 dL_1832 rfl rfl (Nat.le_of_ble_eq_true rfl) (Nat.le_of_ble_eq_true rfl) (by decide) (dnX11_viaFirst (q := fun x ν => x = r ∧ ν = μ1) (d := 24) (xC_ok K) (xC_0 K) ⟨_, e1, rfl, rfl⟩) (fun v ν hv => ?_)
  obtain ⟨x, rfl, hr, hm⟩ := hv
  rw [hr, hm]
  show lq_Ev K 1835 i b L xs [.int r] μ1 μM
  refine lq_a2 dL_1835 ?_
  refine lq_ld (j := 1) (by omega) hL (show Int32.ofInt 1 = 1 by decide) rfl dL_1836 dL_1837 dL_1838 dL_1839 dL_1840 ?_
  refine lq_ld (j := 2) (by omega) hL (show Int32.ofInt 2 = 2 by decide) rfl dL_1841 dL_1842 dL_1843 dL_1844 dL_1845 ?_
  refine lq_ld (j := 3) (by omega) hL (show Int32.ofInt 3 = 3 by decide) rfl dL_1846 dL_1847 dL_1848 dL_1849 dL_1850 ?_
  refine lq_ld (j := 4) (by omega) hL (show Int32.ofInt 4 = 4 by decide) rfl dL_1851 dL_1852 dL_1853 dL_1854 dL_1855 ?_
  refine lq_callM (d := 30) (C := mX12_viaFirst) (As := [.int (xs (i + 1)), .int (xs (i + 2)), .int (xs (i + 3)), .int (xs (i + 4))]) clL_193 dL_1856 rfl rfl (Nat.le_of_ble_eq_true rfl) (Nat.le_of_ble_eq_true rfl) (by decide) (dnX12_viaFirst (q := fun x ν => x = r ∧ ν = μ2) (d := 24) (xM_ok K) (xM_0 K) ⟨_, e2, rfl, rfl⟩) (fun v ν hv => ?_)
  obtain ⟨x, rfl, hr, hm⟩ := hv
  rw [hr, hm]
  show lq_Ev K 1859 i b L xs [.int r, .int r] μ1 μ2
  exact lq_eq (tgt := 2425) dL_1859 (by decide) rfl (kk _ _ h2)
theorem lc_41 {K : lx_K} {i b L : Nat} {xs : Nat → Int32} {μC μM : o_Mem} (h : Inv μC μM) (hi : i + 6 ≤ L) (hL : L ≤ 3072) (kk : ∀ μC' μM', Inv μC' μM' → lq_Ev K 2425 i b L xs [] μC' μM') : lq_Ev K 1864 i b L xs [] μC μM := by
  refine lq_a1 dL_1864 ?_
  refine lq_ld (j := 1) (by omega) hL (show Int32.ofInt 1 = 1 by decide) rfl dL_1865 dL_1866 dL_1867 dL_1868 dL_1869 ?_
  refine lq_ld (j := 2) (by omega) hL (show Int32.ofInt 2 = 2 by decide) rfl dL_1870 dL_1871 dL_1872 dL_1873 dL_1874 ?_
  obtain ⟨r, μ1, μ2, e1, e2, h2⟩ := pu_echo h (xs (i + 1)) (xs (i + 2))
  refine lq_callC (d := 30) (C := mX11_echo) (As := [.int (xs (i + 1)), .int (xs (i + 2))]) clL_194 dL_1875 rfl rfl (Nat.le_of_ble_eq_true rfl) (Nat.le_of_ble_eq_true rfl) (by decide) (dnX11_echo (q := fun x ν => x = r ∧ ν = μ1) (d := 24) (xC_ok K) (xC_0 K) ⟨_, e1, rfl, rfl⟩) (fun v ν hv => ?_)
  obtain ⟨x, rfl, hr, hm⟩ := hv
  rw [hr, hm]
  show lq_Ev K 1878 i b L xs [.int r] μ1 μM
  refine lq_a2 dL_1878 ?_
  refine lq_ld (j := 1) (by omega) hL (show Int32.ofInt 1 = 1 by decide) rfl dL_1879 dL_1880 dL_1881 dL_1882 dL_1883 ?_
  refine lq_ld (j := 2) (by omega) hL (show Int32.ofInt 2 = 2 by decide) rfl dL_1884 dL_1885 dL_1886 dL_1887 dL_1888 ?_
  refine lq_callM (d := 30) (C := mX12_echo) (As := [.int (xs (i + 1)), .int (xs (i + 2))]) clL_197 dL_1889 rfl rfl (Nat.le_of_ble_eq_true rfl) (Nat.le_of_ble_eq_true rfl) (by decide) (dnX12_echo (q := fun x ν => x = r ∧ ν = μ2) (d := 25) (xM_ok K) (xM_0 K) ⟨_, e2, rfl, rfl⟩) (fun v ν hv => ?_)
  obtain ⟨x, rfl, hr, hm⟩ := hv
  rw [hr, hm]
  show lq_Ev K 1892 i b L xs [.int r, .int r] μ1 μ2
  exact lq_eq (tgt := 2425) dL_1892 (by decide) rfl (kk _ _ h2)
theorem lc_42 {K : lx_K} {i b L : Nat} {xs : Nat → Int32} {μC μM : o_Mem} (h : Inv μC μM) (hi : i + 6 ≤ L) (hL : L ≤ 3072) (kk : ∀ μC' μM', Inv μC' μM' → lq_Ev K 2425 i b L xs [] μC' μM') : lq_Ev K 1897 i b L xs [] μC μM := by
  refine lq_a1 dL_1897 ?_
  refine lq_ld (j := 1) (by omega) hL (show Int32.ofInt 1 = 1 by decide) rfl dL_1898 dL_1899 dL_1900 dL_1901 dL_1902 ?_
  refine lq_ld (j := 2) (by omega) hL (show Int32.ofInt 2 = 2 by decide) rfl dL_1903 dL_1904 dL_1905 dL_1906 dL_1907 ?_
  obtain ⟨r, μ1, μ2, e1, e2, h2⟩ := pu_round h (xs (i + 1)) (xs (i + 2))
  refine lq_callC (d := 30) (C := mX11_round) (As := [.int (xs (i + 1)), .int (xs (i + 2))]) clL_198 dL_1908 rfl rfl (Nat.le_of_ble_eq_true rfl) (Nat.le_of_ble_eq_true rfl) (by decide) (dnX11_round (q := fun x ν => x = r ∧ ν = μ1) (d := 24) (xC_ok K) (xC_0 K) ⟨_, e1, rfl, rfl⟩) (fun v ν hv => ?_)
  obtain ⟨x, rfl, hr, hm⟩ := hv
  rw [hr, hm]
  show lq_Ev K 1911 i b L xs [.int r] μ1 μM
  refine lq_a2 dL_1911 ?_
  refine lq_ld (j := 1) (by omega) hL (show Int32.ofInt 1 = 1 by decide) rfl dL_1912 dL_1913 dL_1914 dL_1915 dL_1916 ?_
  refine lq_ld (j := 2) (by omega) hL (show Int32.ofInt 2 = 2 by decide) rfl dL_1917 dL_1918 dL_1919 dL_1920 dL_1921 ?_
  refine lq_callM (d := 30) (C := mX12_round) (As := [.int (xs (i + 1)), .int (xs (i + 2))]) clL_201 dL_1922 rfl rfl (Nat.le_of_ble_eq_true rfl) (Nat.le_of_ble_eq_true rfl) (by decide) (dnX12_round (q := fun x ν => x = r ∧ ν = μ2) (d := 25) (xM_ok K) (xM_0 K) ⟨_, e2, rfl, rfl⟩) (fun v ν hv => ?_)
  obtain ⟨x, rfl, hr, hm⟩ := hv
  rw [hr, hm]
  show lq_Ev K 1925 i b L xs [.int r, .int r] μ1 μ2
  exact lq_eq (tgt := 2425) dL_1925 (by decide) rfl (kk _ _ h2)
theorem lc_43 {K : lx_K} {i b L : Nat} {xs : Nat → Int32} {μC μM : o_Mem} (h : Inv μC μM) (hi : i + 6 ≤ L) (hL : L ≤ 3072) (kk : ∀ μC' μM', Inv μC' μM' → lq_Ev K 2425 i b L xs [] μC' μM') : lq_Ev K 1930 i b L xs [] μC μM := by
  refine lq_a1 dL_1930 ?_
  obtain ⟨r, μ1, μ2, e1, e2, h2⟩ := pu_rings h 
  refine lq_callC (d := 30) (C := mX11_rings) (As := []) clL_202 dL_1931 rfl rfl (Nat.le_of_ble_eq_true rfl) (Nat.le_of_ble_eq_true rfl) (by decide) (dnX11_rings (q := fun x ν => x = r ∧ ν = μ1) (d := 24) (xC_ok K) (xC_0 K) ⟨_, e1, rfl, rfl⟩) (fun v ν hv => ?_)
  obtain ⟨x, rfl, hr, hm⟩ := hv
  rw [hr, hm]
  show lq_Ev K 1934 i b L xs [.int r] μ1 μM
  refine lq_a2 dL_1934 ?_
  refine lq_callM (d := 30) (C := mX12_rings) (As := []) clL_205 dL_1935 rfl rfl (Nat.le_of_ble_eq_true rfl) (Nat.le_of_ble_eq_true rfl) (by decide) (dnX12_rings (q := fun x ν => x = r ∧ ν = μ2) (d := 25) (xM_ok K) (xM_0 K) ⟨_, e2, rfl, rfl⟩) (fun v ν hv => ?_)
  obtain ⟨x, rfl, hr, hm⟩ := hv
  rw [hr, hm]
  show lq_Ev K 1938 i b L xs [.int r, .int r] μ1 μ2
  exact lq_eq (tgt := 2425) dL_1938 (by decide) rfl (kk _ _ h2)
theorem lc_44 {K : lx_K} {i b L : Nat} {xs : Nat → Int32} {μC μM : o_Mem} (h : Inv μC μM) (hi : i + 6 ≤ L) (hL : L ≤ 3072) (kk : ∀ μC' μM', Inv μC' μM' → lq_Ev K 2425 i b L xs [] μC' μM') : lq_Ev K 1943 i b L xs [] μC μM := by
  refine lq_a1 dL_1943 ?_
  obtain ⟨r, μ1, μ2, e1, e2, h2⟩ := pu_longest h 
  refine lq_callC (d := 30) (C := mX11_longest) (As := []) clL_206 dL_1944 rfl rfl (Nat.le_of_ble_eq_true rfl) (Nat.le_of_ble_eq_true rfl) (by decide) (dnX11_longest (q := fun x ν => x = r ∧ ν = μ1) (d := 24) (xC_ok K) (xC_0 K) ⟨_, e1, rfl, rfl⟩) (fun v ν hv => ?_)
  obtain ⟨x, rfl, hr, hm⟩ := hv
  rw [hr, hm]
  show lq_Ev K 1947 i b L xs [.int r] μ1 μM
  refine lq_a2 dL_1947 ?_
  refine lq_callM (d := 30) (C := mX12_longest) (As := []) clL_209 dL_1948 rfl rfl (Nat.le_of_ble_eq_true rfl) (Nat.le_of_ble_eq_true rfl) (by decide) (dnX12_longest (q := fun x ν => x = r ∧ ν = μ2) (d := 25) (xM_ok K) (xM_0 K) ⟨_, e2, rfl, rfl⟩) (fun v ν hv => ?_)
  obtain ⟨x, rfl, hr, hm⟩ := hv
  rw [hr, hm]
  show lq_Ev K 1951 i b L xs [.int r, .int r] μ1 μ2
  exact lq_eq (tgt := 2425) dL_1951 (by decide) rfl (kk _ _ h2)
theorem lc_45 {K : lx_K} {i b L : Nat} {xs : Nat → Int32} {μC μM : o_Mem} (h : Inv μC μM) (hi : i + 6 ≤ L) (hL : L ≤ 3072) (kk : ∀ μC' μM', Inv μC' μM' → lq_Ev K 2425 i b L xs [] μC' μM') : lq_Ev K 1956 i b L xs [] μC μM := by
  refine lq_a1 dL_1956 ?_
  refine lq_ld (j := 1) (by omega) hL (show Int32.ofInt 1 = 1 by decide) rfl dL_1957 dL_1958 dL_1959 dL_1960 dL_1961 ?_
  refine lq_ld (j := 2) (by omega) hL (show Int32.ofInt 2 = 2 by decide) rfl dL_1962 dL_1963 dL_1964 dL_1965 dL_1966 ?_
  obtain ⟨r, μ1, μ2, e1, e2, h2⟩ := pu_reads h (xs (i + 1)) (xs (i + 2))
  refine lq_callC (d := 30) (C := mX11_reads) (As := [.int (xs (i + 1)), .int (xs (i + 2))]) clL_210 dL_1967 rfl rfl (Nat.le_of_ble_eq_true rfl) (Nat.le_of_ble_eq_true rfl) (by decide) (dnX11_reads (q := fun x ν => x = r ∧ ν = μ1) (d := 26) (xC_ok K) (xC_0 K) ⟨_, e1, rfl, rfl⟩) (fun v ν hv => ?_)
  obtain ⟨x, rfl, hr, hm⟩ := hv
  rw [hr, hm]
  show lq_Ev K 1970 i b L xs [.long r] μ1 μM
  refine lq_a2 dL_1970 ?_
  refine lq_ld (j := 1) (by omega) hL (show Int32.ofInt 1 = 1 by decide) rfl dL_1971 dL_1972 dL_1973 dL_1974 dL_1975 ?_
  refine lq_ld (j := 2) (by omega) hL (show Int32.ofInt 2 = 2 by decide) rfl dL_1976 dL_1977 dL_1978 dL_1979 dL_1980 ?_
  refine lq_callM (d := 30) (C := mX12_reads) (As := [.int (xs (i + 1)), .int (xs (i + 2))]) clL_213 dL_1981 rfl rfl (Nat.le_of_ble_eq_true rfl) (Nat.le_of_ble_eq_true rfl) (by decide) (dnX12_reads (q := fun x ν => x = r ∧ ν = μ2) (d := 28) (xM_ok K) (xM_0 K) ⟨_, e2, rfl, rfl⟩) (fun v ν hv => ?_)
  obtain ⟨x, rfl, hr, hm⟩ := hv
  rw [hr, hm]
  show lq_Ev K 1984 i b L xs [.long r, .long r] μ1 μ2
  exact lq_lcmp dL_1984 (lq_if (tgt := 2425) dL_1985 (by decide) (fun _ => kk _ _ h2) (fun hn => absurd ((lg_cmp_eq r r).mpr rfl) hn))
theorem lc_46 {K : lx_K} {i b L : Nat} {xs : Nat → Int32} {μC μM : o_Mem} (h : Inv μC μM) (hi : i + 6 ≤ L) (hL : L ≤ 3072) (kk : ∀ μC' μM', Inv μC' μM' → lq_Ev K 2425 i b L xs [] μC' μM') : lq_Ev K 1990 i b L xs [] μC μM := by
  refine lq_a1 dL_1990 ?_
  refine lq_ld (j := 1) (by omega) hL (show Int32.ofInt 1 = 1 by decide) rfl dL_1991 dL_1992 dL_1993 dL_1994 dL_1995 ?_
  refine lq_ld (j := 2) (by omega) hL (show Int32.ofInt 2 = 2 by decide) rfl dL_1996 dL_1997 dL_1998 dL_1999 dL_2000 ?_
  obtain ⟨r, μ1, μ2, e1, e2, h2⟩ := pu_isJust h (xs (i + 1)) (xs (i + 2))
  refine lq_callC (d := 30) (C := mX11_isJust) (As := [.int (xs (i + 1)), .int (xs (i + 2))]) clL_214 dL_2001 rfl rfl (Nat.le_of_ble_eq_true rfl) (Nat.le_of_ble_eq_true rfl) (by decide) (dnX11_isJust (q := fun x ν => x = r ∧ ν = μ1) (d := 26) (xC_ok K) (xC_0 K) ⟨_, e1, rfl, rfl⟩) (fun v ν hv => ?_)
  obtain ⟨x, rfl, hr, hm⟩ := hv
  rw [hr, hm]
  show lq_Ev K 2004 i b L xs [.int r] μ1 μM
  refine lq_a2 dL_2004 ?_
  refine lq_ld (j := 1) (by omega) hL (show Int32.ofInt 1 = 1 by decide) rfl dL_2005 dL_2006 dL_2007 dL_2008 dL_2009 ?_
  refine lq_ld (j := 2) (by omega) hL (show Int32.ofInt 2 = 2 by decide) rfl dL_2010 dL_2011 dL_2012 dL_2013 dL_2014 ?_
  refine lq_callM (d := 30) (C := mX12_isJust) (As := [.int (xs (i + 1)), .int (xs (i + 2))]) clL_217 dL_2015 rfl rfl (Nat.le_of_ble_eq_true rfl) (Nat.le_of_ble_eq_true rfl) (by decide) (dnX12_isJust (q := fun x ν => x = r ∧ ν = μ2) (d := 28) (xM_ok K) (xM_0 K) ⟨_, e2, rfl, rfl⟩) (fun v ν hv => ?_)
  obtain ⟨x, rfl, hr, hm⟩ := hv
  rw [hr, hm]
  show lq_Ev K 2018 i b L xs [.int r, .int r] μ1 μ2
  exact lq_eq (tgt := 2425) dL_2018 (by decide) rfl (kk _ _ h2)
theorem lc_47 {K : lx_K} {i b L : Nat} {xs : Nat → Int32} {μC μM : o_Mem} (h : Inv μC μM) (hi : i + 6 ≤ L) (hL : L ≤ 3072) (kk : ∀ μC' μM', Inv μC' μM' → lq_Ev K 2425 i b L xs [] μC' μM') : lq_Ev K 2023 i b L xs [] μC μM := by
  refine lq_a1 dL_2023 ?_
  refine lq_ld (j := 1) (by omega) hL (show Int32.ofInt 1 = 1 by decide) rfl dL_2024 dL_2025 dL_2026 dL_2027 dL_2028 ?_
  obtain ⟨r, μ1, μ2, e1, e2, h2⟩ := pu_copyDay h (xs (i + 1))
  refine lq_callC (d := 30) (C := mX11_copyDay) (As := [.int (xs (i + 1))]) clL_218 dL_2029 rfl rfl (Nat.le_of_ble_eq_true rfl) (Nat.le_of_ble_eq_true rfl) (by decide) (dnX11_copyDay (q := fun x ν => x = r ∧ ν = μ1) (d := 27) (xC_ok K) (xC_0 K) ⟨_, e1, rfl, rfl⟩) (fun v ν hv => ?_)
  obtain ⟨x, rfl, hr, hm⟩ := hv
  rw [hr, hm]
  show lq_Ev K 2032 i b L xs [.int r] μ1 μM
  refine lq_a2 dL_2032 ?_
  refine lq_ld (j := 1) (by omega) hL (show Int32.ofInt 1 = 1 by decide) rfl dL_2033 dL_2034 dL_2035 dL_2036 dL_2037 ?_
  refine lq_callM (d := 30) (C := mX12_copyDay) (As := [.int (xs (i + 1))]) clL_221 dL_2038 rfl rfl (Nat.le_of_ble_eq_true rfl) (Nat.le_of_ble_eq_true rfl) (by decide) (dnX12_copyDay (q := fun x ν => x = r ∧ ν = μ2) (d := 29) (xM_ok K) (xM_0 K) ⟨_, e2, rfl, rfl⟩) (fun v ν hv => ?_)
  obtain ⟨x, rfl, hr, hm⟩ := hv
  rw [hr, hm]
  show lq_Ev K 2041 i b L xs [.int r, .int r] μ1 μ2
  exact lq_eq (tgt := 2425) dL_2041 (by decide) rfl (kk _ _ h2)
