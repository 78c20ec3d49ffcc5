/-! decode rows of the law's body, 6 -/
theorem dL_law_1470 : decode code 1470 = .ok (.aload_n 0, 1) := by decide +kernel
theorem dL_law_1471 : decode code 1471 = .ok (.iload 4, 2) := by decide +kernel
theorem dL_law_1473 : decode code 1473 = .ok (.iconst 3, 1) := by decide +kernel
theorem dL_law_1474 : decode code 1474 = .ok (.iadd, 1) := by decide +kernel
theorem dL_law_1475 : decode code 1475 = .ok (.iaload, 1) := by decide +kernel
theorem dL_law_1476 : decode code 1476 = .ok (.aload_n 3, 1) := by decide +kernel
theorem dL_law_1477 : decode code 1477 = .ok (.invokestatic 252, 3) := by decide +kernel
theorem dL_law_1480 : decode code 1480 = .ok (.istore 5, 2) := by decide +kernel
theorem dL_law_1482 : decode code 1482 = .ok (.aload_n 2, 1) := by decide +kernel
theorem dL_law_1483 : decode code 1483 = .ok (.aload_n 0, 1) := by decide +kernel
theorem dL_law_1484 : decode code 1484 = .ok (.iload 4, 2) := by decide +kernel
theorem dL_law_1486 : decode code 1486 = .ok (.iconst 1, 1) := by decide +kernel
theorem dL_law_1487 : decode code 1487 = .ok (.iadd, 1) := by decide +kernel
theorem dL_law_1488 : decode code 1488 = .ok (.iaload, 1) := by decide +kernel
theorem dL_law_1489 : decode code 1489 = .ok (.aload_n 0, 1) := by decide +kernel
theorem dL_law_1490 : decode code 1490 = .ok (.iload 4, 2) := by decide +kernel
theorem dL_law_1492 : decode code 1492 = .ok (.iconst 2, 1) := by decide +kernel
theorem dL_law_1493 : decode code 1493 = .ok (.iadd, 1) := by decide +kernel
theorem dL_law_1494 : decode code 1494 = .ok (.iaload, 1) := by decide +kernel
theorem dL_law_1495 : decode code 1495 = .ok (.ifCond .eq 7, 3) := by decide +kernel
theorem dL_law_1498 : decode code 1498 = .ok (.iconst 1, 1) := by decide +kernel
theorem dL_law_1499 : decode code 1499 = .ok (.goto 4, 3) := by decide +kernel
theorem dL_law_1502 : decode code 1502 = .ok (.iconst 0, 1) := by decide +kernel
theorem dL_law_1503 : decode code 1503 = .ok (.aload_n 0, 1) := by decide +kernel
theorem dL_law_1504 : decode code 1504 = .ok (.iload 4, 2) := by decide +kernel
theorem dL_law_1506 : decode code 1506 = .ok (.iconst 3, 1) := by decide +kernel
theorem dL_law_1507 : decode code 1507 = .ok (.iadd, 1) := by decide +kernel
theorem dL_law_1508 : decode code 1508 = .ok (.iaload, 1) := by decide +kernel
theorem dL_law_1509 : decode code 1509 = .ok (.invokevirtual 255, 3) := by decide +kernel
theorem dL_law_1512 : decode code 1512 = .ok (.istore 6, 2) := by decide +kernel
theorem dL_law_1514 : decode code 1514 = .ok (.aload_n 2, 1) := by decide +kernel
theorem dL_law_1515 : decode code 1515 = .ok (.invokevirtual 166, 3) := by decide +kernel
theorem dL_law_1518 : decode code 1518 = .ok (.iload 5, 2) := by decide +kernel
theorem dL_law_1520 : decode code 1520 = .ok (.if_icmp .eq 5, 3) := by decide +kernel
theorem dL_law_1523 : decode code 1523 = .ok (.iconst 0, 1) := by decide +kernel
theorem dL_law_1524 : decode code 1524 = .ok (.ireturn, 1) := by decide +kernel
theorem dL_law_1525 : decode code 1525 = .ok (.iload 5, 2) := by decide +kernel
theorem dL_law_1527 : decode code 1527 = .ok (.ifCond .ne 15, 3) := by decide +kernel
theorem dL_law_1530 : decode code 1530 = .ok (.aload_n 3, 1) := by decide +kernel
theorem dL_law_1531 : decode code 1531 = .ok (.iconst 0, 1) := by decide +kernel
theorem dL_law_1532 : decode code 1532 = .ok (.laload, 1) := by decide +kernel
theorem dL_law_1533 : decode code 1533 = .ok (.iload 6, 2) := by decide +kernel
theorem dL_law_1535 : decode code 1535 = .ok (.i2l, 1) := by decide +kernel
theorem dL_law_1536 : decode code 1536 = .ok (.lcmp, 1) := by decide +kernel
theorem dL_law_1537 : decode code 1537 = .ok (.ifCond .eq 5, 3) := by decide +kernel
theorem dL_law_1540 : decode code 1540 = .ok (.iconst 0, 1) := by decide +kernel
theorem dL_law_1541 : decode code 1541 = .ok (.ireturn, 1) := by decide +kernel
theorem dL_law_1542 : decode code 1542 = .ok (.goto 1939, 3) := by decide +kernel
theorem dL_law_1545 : decode code 1545 = .ok (.aload_n 1, 1) := by decide +kernel
theorem dL_law_1546 : decode code 1546 = .ok (.aload_n 0, 1) := by decide +kernel
theorem dL_law_1547 : decode code 1547 = .ok (.iload 4, 2) := by decide +kernel
theorem dL_law_1549 : decode code 1549 = .ok (.iconst 1, 1) := by decide +kernel
theorem dL_law_1550 : decode code 1550 = .ok (.iadd, 1) := by decide +kernel
theorem dL_law_1551 : decode code 1551 = .ok (.iaload, 1) := by decide +kernel
theorem dL_law_1552 : decode code 1552 = .ok (.aload_n 0, 1) := by decide +kernel
theorem dL_law_1553 : decode code 1553 = .ok (.iload 4, 2) := by decide +kernel
theorem dL_law_1555 : decode code 1555 = .ok (.iconst 2, 1) := by decide +kernel
theorem dL_law_1556 : decode code 1556 = .ok (.iadd, 1) := by decide +kernel
theorem dL_law_1557 : decode code 1557 = .ok (.iaload, 1) := by decide +kernel
theorem dL_law_1558 : decode code 1558 = .ok (.ifCond .eq 7, 3) := by decide +kernel
theorem dL_law_1561 : decode code 1561 = .ok (.iconst 1, 1) := by decide +kernel
theorem dL_law_1562 : decode code 1562 = .ok (.goto 4, 3) := by decide +kernel
theorem dL_law_1565 : decode code 1565 = .ok (.iconst 0, 1) := by decide +kernel
theorem dL_law_1566 : decode code 1566 = .ok (.aload_n 0, 1) := by decide +kernel
theorem dL_law_1567 : decode code 1567 = .ok (.iload 4, 2) := by decide +kernel
theorem dL_law_1569 : decode code 1569 = .ok (.iconst 3, 1) := by decide +kernel
theorem dL_law_1570 : decode code 1570 = .ok (.iadd, 1) := by decide +kernel
theorem dL_law_1571 : decode code 1571 = .ok (.iaload, 1) := by decide +kernel
theorem dL_law_1572 : decode code 1572 = .ok (.aload_n 3, 1) := by decide +kernel
theorem dL_law_1573 : decode code 1573 = .ok (.invokestatic 256, 3) := by decide +kernel
theorem dL_law_1576 : decode code 1576 = .ok (.istore 5, 2) := by decide +kernel
theorem dL_law_1578 : decode code 1578 = .ok (.aload_n 2, 1) := by decide +kernel
theorem dL_law_1579 : decode code 1579 = .ok (.aload_n 0, 1) := by decide +kernel
theorem dL_law_1580 : decode code 1580 = .ok (.iload 4, 2) := by decide +kernel
theorem dL_law_1582 : decode code 1582 = .ok (.iconst 1, 1) := by decide +kernel
theorem dL_law_1583 : decode code 1583 = .ok (.iadd, 1) := by decide +kernel
theorem dL_law_1584 : decode code 1584 = .ok (.iaload, 1) := by decide +kernel
theorem dL_law_1585 : decode code 1585 = .ok (.aload_n 0, 1) := by decide +kernel
theorem dL_law_1586 : decode code 1586 = .ok (.iload 4, 2) := by decide +kernel
theorem dL_law_1588 : decode code 1588 = .ok (.iconst 2, 1) := by decide +kernel
theorem dL_law_1589 : decode code 1589 = .ok (.iadd, 1) := by decide +kernel
theorem dL_law_1590 : decode code 1590 = .ok (.iaload, 1) := by decide +kernel
theorem dL_law_1591 : decode code 1591 = .ok (.ifCond .eq 7, 3) := by decide +kernel
theorem dL_law_1594 : decode code 1594 = .ok (.iconst 1, 1) := by decide +kernel
theorem dL_law_1595 : decode code 1595 = .ok (.goto 4, 3) := by decide +kernel
theorem dL_law_1598 : decode code 1598 = .ok (.iconst 0, 1) := by decide +kernel
theorem dL_law_1599 : decode code 1599 = .ok (.aload_n 0, 1) := by decide +kernel
theorem dL_law_1600 : decode code 1600 = .ok (.iload 4, 2) := by decide +kernel
theorem dL_law_1602 : decode code 1602 = .ok (.iconst 3, 1) := by decide +kernel
theorem dL_law_1603 : decode code 1603 = .ok (.iadd, 1) := by decide +kernel
theorem dL_law_1604 : decode code 1604 = .ok (.iaload, 1) := by decide +kernel
theorem dL_law_1605 : decode code 1605 = .ok (.invokevirtual 258, 3) := by decide +kernel
theorem dL_law_1608 : decode code 1608 = .ok (.istore 6, 2) := by decide +kernel
theorem dL_law_1610 : decode code 1610 = .ok (.aload_n 2, 1) := by decide +kernel
theorem dL_law_1611 : decode code 1611 = .ok (.invokevirtual 166, 3) := by decide +kernel
theorem dL_law_1614 : decode code 1614 = .ok (.iload 5, 2) := by decide +kernel
theorem dL_law_1616 : decode code 1616 = .ok (.if_icmp .eq 5, 3) := by decide +kernel
theorem dL_law_1619 : decode code 1619 = .ok (.iconst 0, 1) := by decide +kernel
theorem dL_law_1620 : decode code 1620 = .ok (.ireturn, 1) := by decide +kernel
theorem dL_law_1621 : decode code 1621 = .ok (.iload 5, 2) := by decide +kernel
theorem dL_law_1623 : decode code 1623 = .ok (.ifCond .ne 15, 3) := by decide +kernel
theorem dL_law_1626 : decode code 1626 = .ok (.aload_n 3, 1) := by decide +kernel
theorem dL_law_1627 : decode code 1627 = .ok (.iconst 0, 1) := by decide +kernel
theorem dL_law_1628 : decode code 1628 = .ok (.laload, 1) := by decide +kernel
theorem dL_law_1629 : decode code 1629 = .ok (.iload 6, 2) := by decide +kernel
theorem dL_law_1631 : decode code 1631 = .ok (.i2l, 1) := by decide +kernel
theorem dL_law_1632 : decode code 1632 = .ok (.lcmp, 1) := by decide +kernel
theorem dL_law_1633 : decode code 1633 = .ok (.ifCond .eq 5, 3) := by decide +kernel
theorem dL_law_1636 : decode code 1636 = .ok (.iconst 0, 1) := by decide +kernel
theorem dL_law_1637 : decode code 1637 = .ok (.ireturn, 1) := by decide +kernel
theorem dL_law_1638 : decode code 1638 = .ok (.goto 1843, 3) := by decide +kernel
theorem dL_law_1641 : decode code 1641 = .ok (.aload_n 1, 1) := by decide +kernel
theorem dL_law_1642 : decode code 1642 = .ok (.aload_n 0, 1) := by decide +kernel
theorem dL_law_1643 : decode code 1643 = .ok (.iload 4, 2) := by decide +kernel
theorem dL_law_1645 : decode code 1645 = .ok (.iconst 1, 1) := by decide +kernel
theorem dL_law_1646 : decode code 1646 = .ok (.iadd, 1) := by decide +kernel
theorem dL_law_1647 : decode code 1647 = .ok (.iaload, 1) := by decide +kernel
theorem dL_law_1648 : decode code 1648 = .ok (.aload_n 0, 1) := by decide +kernel
theorem dL_law_1649 : decode code 1649 = .ok (.iload 4, 2) := by decide +kernel
theorem dL_law_1651 : decode code 1651 = .ok (.iconst 2, 1) := by decide +kernel
theorem dL_law_1652 : decode code 1652 = .ok (.iadd, 1) := by decide +kernel
theorem dL_law_1653 : decode code 1653 = .ok (.iaload, 1) := by decide +kernel
theorem dL_law_1654 : decode code 1654 = .ok (.ifCond .eq 7, 3) := by decide +kernel
theorem dL_law_1657 : decode code 1657 = .ok (.iconst 1, 1) := by decide +kernel
theorem dL_law_1658 : decode code 1658 = .ok (.goto 4, 3) := by decide +kernel
theorem dL_law_1661 : decode code 1661 = .ok (.iconst 0, 1) := by decide +kernel
theorem dL_law_1662 : decode code 1662 = .ok (.aload_n 0, 1) := by decide +kernel
theorem dL_law_1663 : decode code 1663 = .ok (.iload 4, 2) := by decide +kernel
theorem dL_law_1665 : decode code 1665 = .ok (.iconst 3, 1) := by decide +kernel
theorem dL_law_1666 : decode code 1666 = .ok (.iadd, 1) := by decide +kernel
theorem dL_law_1667 : decode code 1667 = .ok (.iaload, 1) := by decide +kernel
theorem dL_law_1668 : decode code 1668 = .ok (.aload_n 3, 1) := by decide +kernel
theorem dL_law_1669 : decode code 1669 = .ok (.invokestatic 259, 3) := by decide +kernel
theorem dL_law_1672 : decode code 1672 = .ok (.istore 5, 2) := by decide +kernel
theorem dL_law_1674 : decode code 1674 = .ok (.aload_n 2, 1) := by decide +kernel
theorem dL_law_1675 : decode code 1675 = .ok (.aload_n 0, 1) := by decide +kernel
theorem dL_law_1676 : decode code 1676 = .ok (.iload 4, 2) := by decide +kernel
theorem dL_law_1678 : decode code 1678 = .ok (.iconst 1, 1) := by decide +kernel
theorem dL_law_1679 : decode code 1679 = .ok (.iadd, 1) := by decide +kernel
theorem dL_law_1680 : decode code 1680 = .ok (.iaload, 1) := by decide +kernel
theorem dL_law_1681 : decode code 1681 = .ok (.aload_n 0, 1) := by decide +kernel
theorem dL_law_1682 : decode code 1682 = .ok (.iload 4, 2) := by decide +kernel
theorem dL_law_1684 : decode code 1684 = .ok (.iconst 2, 1) := by decide +kernel
theorem dL_law_1685 : decode code 1685 = .ok (.iadd, 1) := by decide +kernel
theorem dL_law_1686 : decode code 1686 = .ok (.iaload, 1) := by decide +kernel
theorem dL_law_1687 : decode code 1687 = .ok (.ifCond .eq 7, 3) := by decide +kernel
theorem dL_law_1690 : decode code 1690 = .ok (.iconst 1, 1) := by decide +kernel
theorem dL_law_1691 : decode code 1691 = .ok (.goto 4, 3) := by decide +kernel
theorem dL_law_1694 : decode code 1694 = .ok (.iconst 0, 1) := by decide +kernel
theorem dL_law_1695 : decode code 1695 = .ok (.aload_n 0, 1) := by decide +kernel
