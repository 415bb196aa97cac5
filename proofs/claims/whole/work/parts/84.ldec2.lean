/-! ===== the law: its code ===== -/
theorem dL_1362 : decode code 1362 = .ok (.iconst 2, 1) := by decide +kernel
theorem dL_1363 : decode code 1363 = .ok (.iadd, 1) := by decide +kernel
theorem dL_1364 : decode code 1364 = .ok (.iaload, 1) := by decide +kernel
theorem dL_1365 : decode code 1365 = .ok (.aload_n 0, 1) := by decide +kernel
theorem dL_1366 : decode code 1366 = .ok (.iload_n 3, 1) := by decide +kernel
theorem dL_1367 : decode code 1367 = .ok (.iconst 3, 1) := by decide +kernel
theorem dL_1368 : decode code 1368 = .ok (.iadd, 1) := by decide +kernel
theorem dL_1369 : decode code 1369 = .ok (.iaload, 1) := by decide +kernel
theorem dL_1370 : decode code 1370 = .ok (.aload_n 0, 1) := by decide +kernel
theorem dL_1371 : decode code 1371 = .ok (.iload_n 3, 1) := by decide +kernel
theorem dL_1372 : decode code 1372 = .ok (.iconst 4, 1) := by decide +kernel
theorem dL_1373 : decode code 1373 = .ok (.iadd, 1) := by decide +kernel
theorem dL_1374 : decode code 1374 = .ok (.iaload, 1) := by decide +kernel
theorem dL_1375 : decode code 1375 = .ok (.invokevirtual 154, 3) := by decide +kernel
theorem dL_1378 : decode code 1378 = .ok (.aload_n 2, 1) := by decide +kernel
theorem dL_1379 : decode code 1379 = .ok (.aload_n 0, 1) := by decide +kernel
theorem dL_1380 : decode code 1380 = .ok (.iload_n 3, 1) := by decide +kernel
theorem dL_1381 : decode code 1381 = .ok (.iconst 1, 1) := by decide +kernel
theorem dL_1382 : decode code 1382 = .ok (.iadd, 1) := by decide +kernel
theorem dL_1383 : decode code 1383 = .ok (.iaload, 1) := by decide +kernel
theorem dL_1384 : decode code 1384 = .ok (.aload_n 0, 1) := by decide +kernel
theorem dL_1385 : decode code 1385 = .ok (.iload_n 3, 1) := by decide +kernel
theorem dL_1386 : decode code 1386 = .ok (.iconst 2, 1) := by decide +kernel
theorem dL_1387 : decode code 1387 = .ok (.iadd, 1) := by decide +kernel
theorem dL_1388 : decode code 1388 = .ok (.iaload, 1) := by decide +kernel
theorem dL_1389 : decode code 1389 = .ok (.aload_n 0, 1) := by decide +kernel
theorem dL_1390 : decode code 1390 = .ok (.iload_n 3, 1) := by decide +kernel
theorem dL_1391 : decode code 1391 = .ok (.iconst 3, 1) := by decide +kernel
theorem dL_1392 : decode code 1392 = .ok (.iadd, 1) := by decide +kernel
theorem dL_1393 : decode code 1393 = .ok (.iaload, 1) := by decide +kernel
theorem dL_1394 : decode code 1394 = .ok (.aload_n 0, 1) := by decide +kernel
theorem dL_1395 : decode code 1395 = .ok (.iload_n 3, 1) := by decide +kernel
theorem dL_1396 : decode code 1396 = .ok (.iconst 4, 1) := by decide +kernel
theorem dL_1397 : decode code 1397 = .ok (.iadd, 1) := by decide +kernel
theorem dL_1398 : decode code 1398 = .ok (.iaload, 1) := by decide +kernel
theorem dL_1399 : decode code 1399 = .ok (.invokevirtual 157, 3) := by decide +kernel
theorem dL_1402 : decode code 1402 = .ok (.if_icmp .eq 1023, 3) := by decide +kernel
theorem dL_1407 : decode code 1407 = .ok (.aload_n 1, 1) := by decide +kernel
theorem dL_1408 : decode code 1408 = .ok (.aload_n 0, 1) := by decide +kernel
theorem dL_1409 : decode code 1409 = .ok (.iload_n 3, 1) := by decide +kernel
theorem dL_1410 : decode code 1410 = .ok (.iconst 1, 1) := by decide +kernel
theorem dL_1411 : decode code 1411 = .ok (.iadd, 1) := by decide +kernel
theorem dL_1412 : decode code 1412 = .ok (.iaload, 1) := by decide +kernel
theorem dL_1413 : decode code 1413 = .ok (.aload_n 0, 1) := by decide +kernel
theorem dL_1414 : decode code 1414 = .ok (.iload_n 3, 1) := by decide +kernel
theorem dL_1415 : decode code 1415 = .ok (.iconst 2, 1) := by decide +kernel
theorem dL_1416 : decode code 1416 = .ok (.iadd, 1) := by decide +kernel
theorem dL_1417 : decode code 1417 = .ok (.iaload, 1) := by decide +kernel
theorem dL_1418 : decode code 1418 = .ok (.aload_n 0, 1) := by decide +kernel
theorem dL_1419 : decode code 1419 = .ok (.iload_n 3, 1) := by decide +kernel
theorem dL_1420 : decode code 1420 = .ok (.iconst 3, 1) := by decide +kernel
theorem dL_1421 : decode code 1421 = .ok (.iadd, 1) := by decide +kernel
theorem dL_1422 : decode code 1422 = .ok (.iaload, 1) := by decide +kernel
theorem dL_1423 : decode code 1423 = .ok (.aload_n 0, 1) := by decide +kernel
theorem dL_1424 : decode code 1424 = .ok (.iload_n 3, 1) := by decide +kernel
theorem dL_1425 : decode code 1425 = .ok (.iconst 4, 1) := by decide +kernel
theorem dL_1426 : decode code 1426 = .ok (.iadd, 1) := by decide +kernel
theorem dL_1427 : decode code 1427 = .ok (.iaload, 1) := by decide +kernel
theorem dL_1428 : decode code 1428 = .ok (.invokevirtual 158, 3) := by decide +kernel
theorem dL_1431 : decode code 1431 = .ok (.aload_n 2, 1) := by decide +kernel
theorem dL_1432 : decode code 1432 = .ok (.aload_n 0, 1) := by decide +kernel
theorem dL_1433 : decode code 1433 = .ok (.iload_n 3, 1) := by decide +kernel
theorem dL_1434 : decode code 1434 = .ok (.iconst 1, 1) := by decide +kernel
theorem dL_1435 : decode code 1435 = .ok (.iadd, 1) := by decide +kernel
theorem dL_1436 : decode code 1436 = .ok (.iaload, 1) := by decide +kernel
theorem dL_1437 : decode code 1437 = .ok (.aload_n 0, 1) := by decide +kernel
theorem dL_1438 : decode code 1438 = .ok (.iload_n 3, 1) := by decide +kernel
theorem dL_1439 : decode code 1439 = .ok (.iconst 2, 1) := by decide +kernel
theorem dL_1440 : decode code 1440 = .ok (.iadd, 1) := by decide +kernel
theorem dL_1441 : decode code 1441 = .ok (.iaload, 1) := by decide +kernel
theorem dL_1442 : decode code 1442 = .ok (.aload_n 0, 1) := by decide +kernel
theorem dL_1443 : decode code 1443 = .ok (.iload_n 3, 1) := by decide +kernel
theorem dL_1444 : decode code 1444 = .ok (.iconst 3, 1) := by decide +kernel
theorem dL_1445 : decode code 1445 = .ok (.iadd, 1) := by decide +kernel
theorem dL_1446 : decode code 1446 = .ok (.iaload, 1) := by decide +kernel
theorem dL_1447 : decode code 1447 = .ok (.aload_n 0, 1) := by decide +kernel
theorem dL_1448 : decode code 1448 = .ok (.iload_n 3, 1) := by decide +kernel
theorem dL_1449 : decode code 1449 = .ok (.iconst 4, 1) := by decide +kernel
theorem dL_1450 : decode code 1450 = .ok (.iadd, 1) := by decide +kernel
theorem dL_1451 : decode code 1451 = .ok (.iaload, 1) := by decide +kernel
theorem dL_1452 : decode code 1452 = .ok (.invokevirtual 161, 3) := by decide +kernel
theorem dL_1455 : decode code 1455 = .ok (.if_icmp .eq 970, 3) := by decide +kernel
theorem dL_1460 : decode code 1460 = .ok (.aload_n 1, 1) := by decide +kernel
theorem dL_1461 : decode code 1461 = .ok (.aload_n 0, 1) := by decide +kernel
theorem dL_1462 : decode code 1462 = .ok (.iload_n 3, 1) := by decide +kernel
theorem dL_1463 : decode code 1463 = .ok (.iconst 1, 1) := by decide +kernel
theorem dL_1464 : decode code 1464 = .ok (.iadd, 1) := by decide +kernel
theorem dL_1465 : decode code 1465 = .ok (.iaload, 1) := by decide +kernel
theorem dL_1466 : decode code 1466 = .ok (.aload_n 0, 1) := by decide +kernel
theorem dL_1467 : decode code 1467 = .ok (.iload_n 3, 1) := by decide +kernel
theorem dL_1468 : decode code 1468 = .ok (.iconst 2, 1) := by decide +kernel
theorem dL_1469 : decode code 1469 = .ok (.iadd, 1) := by decide +kernel
theorem dL_1470 : decode code 1470 = .ok (.iaload, 1) := by decide +kernel
theorem dL_1471 : decode code 1471 = .ok (.aload_n 0, 1) := by decide +kernel
theorem dL_1472 : decode code 1472 = .ok (.iload_n 3, 1) := by decide +kernel
theorem dL_1473 : decode code 1473 = .ok (.iconst 3, 1) := by decide +kernel
theorem dL_1474 : decode code 1474 = .ok (.iadd, 1) := by decide +kernel
theorem dL_1475 : decode code 1475 = .ok (.iaload, 1) := by decide +kernel
theorem dL_1476 : decode code 1476 = .ok (.aload_n 0, 1) := by decide +kernel
theorem dL_1477 : decode code 1477 = .ok (.iload_n 3, 1) := by decide +kernel
theorem dL_1478 : decode code 1478 = .ok (.iconst 4, 1) := by decide +kernel
theorem dL_1479 : decode code 1479 = .ok (.iadd, 1) := by decide +kernel
theorem dL_1480 : decode code 1480 = .ok (.iaload, 1) := by decide +kernel
theorem dL_1481 : decode code 1481 = .ok (.aload_n 0, 1) := by decide +kernel
theorem dL_1482 : decode code 1482 = .ok (.iload_n 3, 1) := by decide +kernel
theorem dL_1483 : decode code 1483 = .ok (.iconst 5, 1) := by decide +kernel
theorem dL_1484 : decode code 1484 = .ok (.iadd, 1) := by decide +kernel
theorem dL_1485 : decode code 1485 = .ok (.iaload, 1) := by decide +kernel
theorem dL_1486 : decode code 1486 = .ok (.invokevirtual 162, 3) := by decide +kernel
theorem dL_1489 : decode code 1489 = .ok (.aload_n 2, 1) := by decide +kernel
theorem dL_1490 : decode code 1490 = .ok (.aload_n 0, 1) := by decide +kernel
theorem dL_1491 : decode code 1491 = .ok (.iload_n 3, 1) := by decide +kernel
theorem dL_1492 : decode code 1492 = .ok (.iconst 1, 1) := by decide +kernel
theorem dL_1493 : decode code 1493 = .ok (.iadd, 1) := by decide +kernel
theorem dL_1494 : decode code 1494 = .ok (.iaload, 1) := by decide +kernel
theorem dL_1495 : decode code 1495 = .ok (.aload_n 0, 1) := by decide +kernel
theorem dL_1496 : decode code 1496 = .ok (.iload_n 3, 1) := by decide +kernel
theorem dL_1497 : decode code 1497 = .ok (.iconst 2, 1) := by decide +kernel
theorem dL_1498 : decode code 1498 = .ok (.iadd, 1) := by decide +kernel
theorem dL_1499 : decode code 1499 = .ok (.iaload, 1) := by decide +kernel
theorem dL_1500 : decode code 1500 = .ok (.aload_n 0, 1) := by decide +kernel
theorem dL_1501 : decode code 1501 = .ok (.iload_n 3, 1) := by decide +kernel
theorem dL_1502 : decode code 1502 = .ok (.iconst 3, 1) := by decide +kernel
theorem dL_1503 : decode code 1503 = .ok (.iadd, 1) := by decide +kernel
theorem dL_1504 : decode code 1504 = .ok (.iaload, 1) := by decide +kernel
theorem dL_1505 : decode code 1505 = .ok (.aload_n 0, 1) := by decide +kernel
theorem dL_1506 : decode code 1506 = .ok (.iload_n 3, 1) := by decide +kernel
theorem dL_1507 : decode code 1507 = .ok (.iconst 4, 1) := by decide +kernel
theorem dL_1508 : decode code 1508 = .ok (.iadd, 1) := by decide +kernel
theorem dL_1509 : decode code 1509 = .ok (.iaload, 1) := by decide +kernel
theorem dL_1510 : decode code 1510 = .ok (.aload_n 0, 1) := by decide +kernel
theorem dL_1511 : decode code 1511 = .ok (.iload_n 3, 1) := by decide +kernel
theorem dL_1512 : decode code 1512 = .ok (.iconst 5, 1) := by decide +kernel
theorem dL_1513 : decode code 1513 = .ok (.iadd, 1) := by decide +kernel
theorem dL_1514 : decode code 1514 = .ok (.iaload, 1) := by decide +kernel
theorem dL_1515 : decode code 1515 = .ok (.invokevirtual 165, 3) := by decide +kernel
theorem dL_1518 : decode code 1518 = .ok (.if_icmp .eq 907, 3) := by decide +kernel
theorem dL_1523 : decode code 1523 = .ok (.aload_n 1, 1) := by decide +kernel
theorem dL_1524 : decode code 1524 = .ok (.aload_n 0, 1) := by decide +kernel
theorem dL_1525 : decode code 1525 = .ok (.iload_n 3, 1) := by decide +kernel
theorem dL_1526 : decode code 1526 = .ok (.iconst 1, 1) := by decide +kernel
theorem dL_1527 : decode code 1527 = .ok (.iadd, 1) := by decide +kernel
theorem dL_1528 : decode code 1528 = .ok (.iaload, 1) := by decide +kernel
theorem dL_1529 : decode code 1529 = .ok (.aload_n 0, 1) := by decide +kernel
theorem dL_1530 : decode code 1530 = .ok (.iload_n 3, 1) := by decide +kernel
theorem dL_1531 : decode code 1531 = .ok (.iconst 2, 1) := by decide +kernel
theorem dL_1532 : decode code 1532 = .ok (.iadd, 1) := by decide +kernel
theorem dL_1533 : decode code 1533 = .ok (.iaload, 1) := by decide +kernel
theorem dL_1534 : decode code 1534 = .ok (.aload_n 0, 1) := by decide +kernel
theorem dL_1535 : decode code 1535 = .ok (.iload_n 3, 1) := by decide +kernel
theorem dL_1536 : decode code 1536 = .ok (.iconst 3, 1) := by decide +kernel
theorem dL_1537 : decode code 1537 = .ok (.iadd, 1) := by decide +kernel
theorem dL_1538 : decode code 1538 = .ok (.iaload, 1) := by decide +kernel
theorem dL_1539 : decode code 1539 = .ok (.aload_n 0, 1) := by decide +kernel
theorem dL_1540 : decode code 1540 = .ok (.iload_n 3, 1) := by decide +kernel
theorem dL_1541 : decode code 1541 = .ok (.iconst 4, 1) := by decide +kernel
theorem dL_1542 : decode code 1542 = .ok (.iadd, 1) := by decide +kernel
theorem dL_1543 : decode code 1543 = .ok (.iaload, 1) := by decide +kernel
theorem dL_1544 : decode code 1544 = .ok (.aload_n 0, 1) := by decide +kernel
theorem dL_1545 : decode code 1545 = .ok (.iload_n 3, 1) := by decide +kernel
theorem dL_1546 : decode code 1546 = .ok (.iconst 5, 1) := by decide +kernel
theorem dL_1547 : decode code 1547 = .ok (.iadd, 1) := by decide +kernel
theorem dL_1548 : decode code 1548 = .ok (.iaload, 1) := by decide +kernel
theorem dL_1549 : decode code 1549 = .ok (.invokevirtual 166, 3) := by decide +kernel
theorem dL_1552 : decode code 1552 = .ok (.aload_n 2, 1) := by decide +kernel
theorem dL_1553 : decode code 1553 = .ok (.aload_n 0, 1) := by decide +kernel
theorem dL_1554 : decode code 1554 = .ok (.iload_n 3, 1) := by decide +kernel
theorem dL_1555 : decode code 1555 = .ok (.iconst 1, 1) := by decide +kernel
theorem dL_1556 : decode code 1556 = .ok (.iadd, 1) := by decide +kernel
theorem dL_1557 : decode code 1557 = .ok (.iaload, 1) := by decide +kernel
theorem dL_1558 : decode code 1558 = .ok (.aload_n 0, 1) := by decide +kernel
theorem dL_1559 : decode code 1559 = .ok (.iload_n 3, 1) := by decide +kernel
theorem dL_1560 : decode code 1560 = .ok (.iconst 2, 1) := by decide +kernel
theorem dL_1561 : decode code 1561 = .ok (.iadd, 1) := by decide +kernel
theorem dL_1562 : decode code 1562 = .ok (.iaload, 1) := by decide +kernel
theorem dL_1563 : decode code 1563 = .ok (.aload_n 0, 1) := by decide +kernel
theorem dL_1564 : decode code 1564 = .ok (.iload_n 3, 1) := by decide +kernel
theorem dL_1565 : decode code 1565 = .ok (.iconst 3, 1) := by decide +kernel
theorem dL_1566 : decode code 1566 = .ok (.iadd, 1) := by decide +kernel
theorem dL_1567 : decode code 1567 = .ok (.iaload, 1) := by decide +kernel
theorem dL_1568 : decode code 1568 = .ok (.aload_n 0, 1) := by decide +kernel
theorem dL_1569 : decode code 1569 = .ok (.iload_n 3, 1) := by decide +kernel
theorem dL_1570 : decode code 1570 = .ok (.iconst 4, 1) := by decide +kernel
theorem dL_1571 : decode code 1571 = .ok (.iadd, 1) := by decide +kernel
theorem dL_1572 : decode code 1572 = .ok (.iaload, 1) := by decide +kernel
theorem dL_1573 : decode code 1573 = .ok (.aload_n 0, 1) := by decide +kernel
theorem dL_1574 : decode code 1574 = .ok (.iload_n 3, 1) := by decide +kernel
theorem dL_1575 : decode code 1575 = .ok (.iconst 5, 1) := by decide +kernel
theorem dL_1576 : decode code 1576 = .ok (.iadd, 1) := by decide +kernel
theorem dL_1577 : decode code 1577 = .ok (.iaload, 1) := by decide +kernel
theorem dL_1578 : decode code 1578 = .ok (.invokevirtual 169, 3) := by decide +kernel
theorem dL_1581 : decode code 1581 = .ok (.if_icmp .eq 844, 3) := by decide +kernel
theorem dL_1586 : decode code 1586 = .ok (.aload_n 1, 1) := by decide +kernel
theorem dL_1587 : decode code 1587 = .ok (.aload_n 0, 1) := by decide +kernel
theorem dL_1588 : decode code 1588 = .ok (.iload_n 3, 1) := by decide +kernel
theorem dL_1589 : decode code 1589 = .ok (.iconst 1, 1) := by decide +kernel
theorem dL_1590 : decode code 1590 = .ok (.iadd, 1) := by decide +kernel
theorem dL_1591 : decode code 1591 = .ok (.iaload, 1) := by decide +kernel
theorem dL_1592 : decode code 1592 = .ok (.aload_n 0, 1) := by decide +kernel
theorem dL_1593 : decode code 1593 = .ok (.iload_n 3, 1) := by decide +kernel
theorem dL_1594 : decode code 1594 = .ok (.iconst 2, 1) := by decide +kernel
theorem dL_1595 : decode code 1595 = .ok (.iadd, 1) := by decide +kernel
theorem dL_1596 : decode code 1596 = .ok (.iaload, 1) := by decide +kernel
theorem dL_1597 : decode code 1597 = .ok (.aload_n 0, 1) := by decide +kernel
theorem dL_1598 : decode code 1598 = .ok (.iload_n 3, 1) := by decide +kernel
theorem dL_1599 : decode code 1599 = .ok (.iconst 3, 1) := by decide +kernel
theorem dL_1600 : decode code 1600 = .ok (.iadd, 1) := by decide +kernel
theorem dL_1601 : decode code 1601 = .ok (.iaload, 1) := by decide +kernel
theorem dL_1602 : decode code 1602 = .ok (.aload_n 0, 1) := by decide +kernel
theorem dL_1603 : decode code 1603 = .ok (.iload_n 3, 1) := by decide +kernel
theorem dL_1604 : decode code 1604 = .ok (.iconst 4, 1) := by decide +kernel
theorem dL_1605 : decode code 1605 = .ok (.iadd, 1) := by decide +kernel
theorem dL_1606 : decode code 1606 = .ok (.iaload, 1) := by decide +kernel
theorem dL_1607 : decode code 1607 = .ok (.invokevirtual 170, 3) := by decide +kernel
theorem dL_1610 : decode code 1610 = .ok (.aload_n 2, 1) := by decide +kernel
theorem dL_1611 : decode code 1611 = .ok (.aload_n 0, 1) := by decide +kernel
theorem dL_1612 : decode code 1612 = .ok (.iload_n 3, 1) := by decide +kernel
theorem dL_1613 : decode code 1613 = .ok (.iconst 1, 1) := by decide +kernel
theorem dL_1614 : decode code 1614 = .ok (.iadd, 1) := by decide +kernel
theorem dL_1615 : decode code 1615 = .ok (.iaload, 1) := by decide +kernel
theorem dL_1616 : decode code 1616 = .ok (.aload_n 0, 1) := by decide +kernel
theorem dL_1617 : decode code 1617 = .ok (.iload_n 3, 1) := by decide +kernel
theorem dL_1618 : decode code 1618 = .ok (.iconst 2, 1) := by decide +kernel
theorem dL_1619 : decode code 1619 = .ok (.iadd, 1) := by decide +kernel
theorem dL_1620 : decode code 1620 = .ok (.iaload, 1) := by decide +kernel
theorem dL_1621 : decode code 1621 = .ok (.aload_n 0, 1) := by decide +kernel
theorem dL_1622 : decode code 1622 = .ok (.iload_n 3, 1) := by decide +kernel
theorem dL_1623 : decode code 1623 = .ok (.iconst 3, 1) := by decide +kernel
theorem dL_1624 : decode code 1624 = .ok (.iadd, 1) := by decide +kernel
theorem dL_1625 : decode code 1625 = .ok (.iaload, 1) := by decide +kernel
theorem dL_1626 : decode code 1626 = .ok (.aload_n 0, 1) := by decide +kernel
theorem dL_1627 : decode code 1627 = .ok (.iload_n 3, 1) := by decide +kernel
theorem dL_1628 : decode code 1628 = .ok (.iconst 4, 1) := by decide +kernel
theorem dL_1629 : decode code 1629 = .ok (.iadd, 1) := by decide +kernel
theorem dL_1630 : decode code 1630 = .ok (.iaload, 1) := by decide +kernel
theorem dL_1631 : decode code 1631 = .ok (.invokevirtual 173, 3) := by decide +kernel
theorem dL_1634 : decode code 1634 = .ok (.if_icmp .eq 791, 3) := by decide +kernel
theorem dL_1639 : decode code 1639 = .ok (.aload_n 1, 1) := by decide +kernel
theorem dL_1640 : decode code 1640 = .ok (.aload_n 0, 1) := by decide +kernel
theorem dL_1641 : decode code 1641 = .ok (.iload_n 3, 1) := by decide +kernel
theorem dL_1642 : decode code 1642 = .ok (.iconst 1, 1) := by decide +kernel
theorem dL_1643 : decode code 1643 = .ok (.iadd, 1) := by decide +kernel
theorem dL_1644 : decode code 1644 = .ok (.iaload, 1) := by decide +kernel
theorem dL_1645 : decode code 1645 = .ok (.aload_n 0, 1) := by decide +kernel
theorem dL_1646 : decode code 1646 = .ok (.iload_n 3, 1) := by decide +kernel
theorem dL_1647 : decode code 1647 = .ok (.iconst 2, 1) := by decide +kernel
theorem dL_1648 : decode code 1648 = .ok (.iadd, 1) := by decide +kernel
theorem dL_1649 : decode code 1649 = .ok (.iaload, 1) := by decide +kernel
theorem dL_1650 : decode code 1650 = .ok (.aload_n 0, 1) := by decide +kernel
theorem dL_1651 : decode code 1651 = .ok (.iload_n 3, 1) := by decide +kernel
theorem dL_1652 : decode code 1652 = .ok (.iconst 3, 1) := by decide +kernel
theorem dL_1653 : decode code 1653 = .ok (.iadd, 1) := by decide +kernel
theorem dL_1654 : decode code 1654 = .ok (.iaload, 1) := by decide +kernel
theorem dL_1655 : decode code 1655 = .ok (.aload_n 0, 1) := by decide +kernel
theorem dL_1656 : decode code 1656 = .ok (.iload_n 3, 1) := by decide +kernel
theorem dL_1657 : decode code 1657 = .ok (.iconst 4, 1) := by decide +kernel
theorem dL_1658 : decode code 1658 = .ok (.iadd, 1) := by decide +kernel
theorem dL_1659 : decode code 1659 = .ok (.iaload, 1) := by decide +kernel
theorem dL_1660 : decode code 1660 = .ok (.aload_n 0, 1) := by decide +kernel
theorem dL_1661 : decode code 1661 = .ok (.iload_n 3, 1) := by decide +kernel
theorem dL_1662 : decode code 1662 = .ok (.iconst 5, 1) := by decide +kernel
theorem dL_1663 : decode code 1663 = .ok (.iadd, 1) := by decide +kernel
theorem dL_1664 : decode code 1664 = .ok (.iaload, 1) := by decide +kernel
theorem dL_1665 : decode code 1665 = .ok (.invokevirtual 174, 3) := by decide +kernel
theorem dL_1668 : decode code 1668 = .ok (.aload_n 2, 1) := by decide +kernel
theorem dL_1669 : decode code 1669 = .ok (.aload_n 0, 1) := by decide +kernel
theorem dL_1670 : decode code 1670 = .ok (.iload_n 3, 1) := by decide +kernel
theorem dL_1671 : decode code 1671 = .ok (.iconst 1, 1) := by decide +kernel
theorem dL_1672 : decode code 1672 = .ok (.iadd, 1) := by decide +kernel
theorem dL_1673 : decode code 1673 = .ok (.iaload, 1) := by decide +kernel
theorem dL_1674 : decode code 1674 = .ok (.aload_n 0, 1) := by decide +kernel
theorem dL_1675 : decode code 1675 = .ok (.iload_n 3, 1) := by decide +kernel
theorem dL_1676 : decode code 1676 = .ok (.iconst 2, 1) := by decide +kernel
theorem dL_1677 : decode code 1677 = .ok (.iadd, 1) := by decide +kernel
theorem dL_1678 : decode code 1678 = .ok (.iaload, 1) := by decide +kernel
theorem dL_1679 : decode code 1679 = .ok (.aload_n 0, 1) := by decide +kernel
theorem dL_1680 : decode code 1680 = .ok (.iload_n 3, 1) := by decide +kernel
theorem dL_1681 : decode code 1681 = .ok (.iconst 3, 1) := by decide +kernel
theorem dL_1682 : decode code 1682 = .ok (.iadd, 1) := by decide +kernel
theorem dL_1683 : decode code 1683 = .ok (.iaload, 1) := by decide +kernel
theorem dL_1684 : decode code 1684 = .ok (.aload_n 0, 1) := by decide +kernel
theorem dL_1685 : decode code 1685 = .ok (.iload_n 3, 1) := by decide +kernel
theorem dL_1686 : decode code 1686 = .ok (.iconst 4, 1) := by decide +kernel
theorem dL_1687 : decode code 1687 = .ok (.iadd, 1) := by decide +kernel
theorem dL_1688 : decode code 1688 = .ok (.iaload, 1) := by decide +kernel
theorem dL_1689 : decode code 1689 = .ok (.aload_n 0, 1) := by decide +kernel
theorem dL_1690 : decode code 1690 = .ok (.iload_n 3, 1) := by decide +kernel
theorem dL_1691 : decode code 1691 = .ok (.iconst 5, 1) := by decide +kernel
theorem dL_1692 : decode code 1692 = .ok (.iadd, 1) := by decide +kernel
theorem dL_1693 : decode code 1693 = .ok (.iaload, 1) := by decide +kernel
theorem dL_1694 : decode code 1694 = .ok (.invokevirtual 177, 3) := by decide +kernel
theorem dL_1697 : decode code 1697 = .ok (.if_icmp .eq 728, 3) := by decide +kernel
theorem dL_1702 : decode code 1702 = .ok (.aload_n 1, 1) := by decide +kernel
theorem dL_1703 : decode code 1703 = .ok (.aload_n 0, 1) := by decide +kernel
theorem dL_1704 : decode code 1704 = .ok (.iload_n 3, 1) := by decide +kernel
theorem dL_1705 : decode code 1705 = .ok (.iconst 1, 1) := by decide +kernel
theorem dL_1706 : decode code 1706 = .ok (.iadd, 1) := by decide +kernel
theorem dL_1707 : decode code 1707 = .ok (.iaload, 1) := by decide +kernel
theorem dL_1708 : decode code 1708 = .ok (.aload_n 0, 1) := by decide +kernel
theorem dL_1709 : decode code 1709 = .ok (.iload_n 3, 1) := by decide +kernel
theorem dL_1710 : decode code 1710 = .ok (.iconst 2, 1) := by decide +kernel
theorem dL_1711 : decode code 1711 = .ok (.iadd, 1) := by decide +kernel
theorem dL_1712 : decode code 1712 = .ok (.iaload, 1) := by decide +kernel
theorem dL_1713 : decode code 1713 = .ok (.aload_n 0, 1) := by decide +kernel
theorem dL_1714 : decode code 1714 = .ok (.iload_n 3, 1) := by decide +kernel
theorem dL_1715 : decode code 1715 = .ok (.iconst 3, 1) := by decide +kernel
theorem dL_1716 : decode code 1716 = .ok (.iadd, 1) := by decide +kernel
theorem dL_1717 : decode code 1717 = .ok (.iaload, 1) := by decide +kernel
theorem dL_1718 : decode code 1718 = .ok (.invokevirtual 178, 3) := by decide +kernel
theorem dL_1721 : decode code 1721 = .ok (.aload_n 2, 1) := by decide +kernel
theorem dL_1722 : decode code 1722 = .ok (.aload_n 0, 1) := by decide +kernel
theorem dL_1723 : decode code 1723 = .ok (.iload_n 3, 1) := by decide +kernel
theorem dL_1724 : decode code 1724 = .ok (.iconst 1, 1) := by decide +kernel
theorem dL_1725 : decode code 1725 = .ok (.iadd, 1) := by decide +kernel
theorem dL_1726 : decode code 1726 = .ok (.iaload, 1) := by decide +kernel
theorem dL_1727 : decode code 1727 = .ok (.aload_n 0, 1) := by decide +kernel
theorem dL_1728 : decode code 1728 = .ok (.iload_n 3, 1) := by decide +kernel
theorem dL_1729 : decode code 1729 = .ok (.iconst 2, 1) := by decide +kernel
theorem dL_1730 : decode code 1730 = .ok (.iadd, 1) := by decide +kernel
theorem dL_1731 : decode code 1731 = .ok (.iaload, 1) := by decide +kernel
theorem dL_1732 : decode code 1732 = .ok (.aload_n 0, 1) := by decide +kernel
theorem dL_1733 : decode code 1733 = .ok (.iload_n 3, 1) := by decide +kernel
theorem dL_1734 : decode code 1734 = .ok (.iconst 3, 1) := by decide +kernel
theorem dL_1735 : decode code 1735 = .ok (.iadd, 1) := by decide +kernel
theorem dL_1736 : decode code 1736 = .ok (.iaload, 1) := by decide +kernel
theorem dL_1737 : decode code 1737 = .ok (.invokevirtual 181, 3) := by decide +kernel
theorem dL_1740 : decode code 1740 = .ok (.if_icmp .eq 685, 3) := by decide +kernel
theorem dL_1745 : decode code 1745 = .ok (.aload_n 1, 1) := by decide +kernel
theorem dL_1746 : decode code 1746 = .ok (.invokevirtual 182, 3) := by decide +kernel
theorem dL_1749 : decode code 1749 = .ok (.aload_n 2, 1) := by decide +kernel
theorem dL_1750 : decode code 1750 = .ok (.invokevirtual 185, 3) := by decide +kernel
theorem dL_1753 : decode code 1753 = .ok (.if_icmp .eq 672, 3) := by decide +kernel
theorem dL_1758 : decode code 1758 = .ok (.aload_n 1, 1) := by decide +kernel
theorem dL_1759 : decode code 1759 = .ok (.aload_n 0, 1) := by decide +kernel
theorem dL_1760 : decode code 1760 = .ok (.iload_n 3, 1) := by decide +kernel
theorem dL_1761 : decode code 1761 = .ok (.iconst 1, 1) := by decide +kernel
theorem dL_1762 : decode code 1762 = .ok (.iadd, 1) := by decide +kernel
theorem dL_1763 : decode code 1763 = .ok (.iaload, 1) := by decide +kernel
theorem dL_1764 : decode code 1764 = .ok (.aload_n 0, 1) := by decide +kernel
theorem dL_1765 : decode code 1765 = .ok (.iload_n 3, 1) := by decide +kernel
theorem dL_1766 : decode code 1766 = .ok (.iconst 2, 1) := by decide +kernel
theorem dL_1767 : decode code 1767 = .ok (.iadd, 1) := by decide +kernel
theorem dL_1768 : decode code 1768 = .ok (.iaload, 1) := by decide +kernel
theorem dL_1769 : decode code 1769 = .ok (.aload_n 0, 1) := by decide +kernel
theorem dL_1770 : decode code 1770 = .ok (.iload_n 3, 1) := by decide +kernel
theorem dL_1771 : decode code 1771 = .ok (.iconst 3, 1) := by decide +kernel
theorem dL_1772 : decode code 1772 = .ok (.iadd, 1) := by decide +kernel
theorem dL_1773 : decode code 1773 = .ok (.iaload, 1) := by decide +kernel
theorem dL_1774 : decode code 1774 = .ok (.aload_n 0, 1) := by decide +kernel
theorem dL_1775 : decode code 1775 = .ok (.iload_n 3, 1) := by decide +kernel
theorem dL_1776 : decode code 1776 = .ok (.iconst 4, 1) := by decide +kernel
theorem dL_1777 : decode code 1777 = .ok (.iadd, 1) := by decide +kernel
theorem dL_1778 : decode code 1778 = .ok (.iaload, 1) := by decide +kernel
theorem dL_1779 : decode code 1779 = .ok (.invokevirtual 186, 3) := by decide +kernel
theorem dL_1782 : decode code 1782 = .ok (.aload_n 2, 1) := by decide +kernel
theorem dL_1783 : decode code 1783 = .ok (.aload_n 0, 1) := by decide +kernel
theorem dL_1784 : decode code 1784 = .ok (.iload_n 3, 1) := by decide +kernel
theorem dL_1785 : decode code 1785 = .ok (.iconst 1, 1) := by decide +kernel
theorem dL_1786 : decode code 1786 = .ok (.iadd, 1) := by decide +kernel
theorem dL_1787 : decode code 1787 = .ok (.iaload, 1) := by decide +kernel
theorem dL_1788 : decode code 1788 = .ok (.aload_n 0, 1) := by decide +kernel
theorem dL_1789 : decode code 1789 = .ok (.iload_n 3, 1) := by decide +kernel
theorem dL_1790 : decode code 1790 = .ok (.iconst 2, 1) := by decide +kernel
theorem dL_1791 : decode code 1791 = .ok (.iadd, 1) := by decide +kernel
theorem dL_1792 : decode code 1792 = .ok (.iaload, 1) := by decide +kernel
theorem dL_1793 : decode code 1793 = .ok (.aload_n 0, 1) := by decide +kernel
theorem dL_1794 : decode code 1794 = .ok (.iload_n 3, 1) := by decide +kernel
theorem dL_1795 : decode code 1795 = .ok (.iconst 3, 1) := by decide +kernel
theorem dL_1796 : decode code 1796 = .ok (.iadd, 1) := by decide +kernel
theorem dL_1797 : decode code 1797 = .ok (.iaload, 1) := by decide +kernel
theorem dL_1798 : decode code 1798 = .ok (.aload_n 0, 1) := by decide +kernel
theorem dL_1799 : decode code 1799 = .ok (.iload_n 3, 1) := by decide +kernel
theorem dL_1800 : decode code 1800 = .ok (.iconst 4, 1) := by decide +kernel
theorem dL_1801 : decode code 1801 = .ok (.iadd, 1) := by decide +kernel
theorem dL_1802 : decode code 1802 = .ok (.iaload, 1) := by decide +kernel
theorem dL_1803 : decode code 1803 = .ok (.invokevirtual 189, 3) := by decide +kernel
theorem dL_1806 : decode code 1806 = .ok (.if_icmp .eq 619, 3) := by decide +kernel
theorem dL_1811 : decode code 1811 = .ok (.aload_n 1, 1) := by decide +kernel
theorem dL_1812 : decode code 1812 = .ok (.aload_n 0, 1) := by decide +kernel
theorem dL_1813 : decode code 1813 = .ok (.iload_n 3, 1) := by decide +kernel
theorem dL_1814 : decode code 1814 = .ok (.iconst 1, 1) := by decide +kernel
theorem dL_1815 : decode code 1815 = .ok (.iadd, 1) := by decide +kernel
theorem dL_1816 : decode code 1816 = .ok (.iaload, 1) := by decide +kernel
theorem dL_1817 : decode code 1817 = .ok (.aload_n 0, 1) := by decide +kernel
theorem dL_1818 : decode code 1818 = .ok (.iload_n 3, 1) := by decide +kernel
theorem dL_1819 : decode code 1819 = .ok (.iconst 2, 1) := by decide +kernel
theorem dL_1820 : decode code 1820 = .ok (.iadd, 1) := by decide +kernel
theorem dL_1821 : decode code 1821 = .ok (.iaload, 1) := by decide +kernel
theorem dL_1822 : decode code 1822 = .ok (.aload_n 0, 1) := by decide +kernel
theorem dL_1823 : decode code 1823 = .ok (.iload_n 3, 1) := by decide +kernel
theorem dL_1824 : decode code 1824 = .ok (.iconst 3, 1) := by decide +kernel
theorem dL_1825 : decode code 1825 = .ok (.iadd, 1) := by decide +kernel
theorem dL_1826 : decode code 1826 = .ok (.iaload, 1) := by decide +kernel
theorem dL_1827 : decode code 1827 = .ok (.aload_n 0, 1) := by decide +kernel
theorem dL_1828 : decode code 1828 = .ok (.iload_n 3, 1) := by decide +kernel
theorem dL_1829 : decode code 1829 = .ok (.iconst 4, 1) := by decide +kernel
theorem dL_1830 : decode code 1830 = .ok (.iadd, 1) := by decide +kernel
theorem dL_1831 : decode code 1831 = .ok (.iaload, 1) := by decide +kernel
theorem dL_1832 : decode code 1832 = .ok (.invokevirtual 190, 3) := by decide +kernel
theorem dL_1835 : decode code 1835 = .ok (.aload_n 2, 1) := by decide +kernel
theorem dL_1836 : decode code 1836 = .ok (.aload_n 0, 1) := by decide +kernel
theorem dL_1837 : decode code 1837 = .ok (.iload_n 3, 1) := by decide +kernel
theorem dL_1838 : decode code 1838 = .ok (.iconst 1, 1) := by decide +kernel
theorem dL_1839 : decode code 1839 = .ok (.iadd, 1) := by decide +kernel
theorem dL_1840 : decode code 1840 = .ok (.iaload, 1) := by decide +kernel
theorem dL_1841 : decode code 1841 = .ok (.aload_n 0, 1) := by decide +kernel
theorem dL_1842 : decode code 1842 = .ok (.iload_n 3, 1) := by decide +kernel
theorem dL_1843 : decode code 1843 = .ok (.iconst 2, 1) := by decide +kernel
theorem dL_1844 : decode code 1844 = .ok (.iadd, 1) := by decide +kernel
theorem dL_1845 : decode code 1845 = .ok (.iaload, 1) := by decide +kernel
theorem dL_1846 : decode code 1846 = .ok (.aload_n 0, 1) := by decide +kernel
theorem dL_1847 : decode code 1847 = .ok (.iload_n 3, 1) := by decide +kernel
theorem dL_1848 : decode code 1848 = .ok (.iconst 3, 1) := by decide +kernel
theorem dL_1849 : decode code 1849 = .ok (.iadd, 1) := by decide +kernel
theorem dL_1850 : decode code 1850 = .ok (.iaload, 1) := by decide +kernel
