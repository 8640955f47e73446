theorem dL_law__1498 : decode cL_law_ 1498 = .ok (.if_icmp .eq 749, 3) := by decide +kernel
theorem dL_law__1501 : decode cL_law_ 1501 = .ok (.iconst 0, 1) := by decide +kernel
theorem dL_law__1502 : decode cL_law_ 1502 = .ok (.ireturn, 1) := by decide +kernel
theorem dL_law__1503 : decode cL_law_ 1503 = .ok (.aload_n 1, 1) := by decide +kernel
theorem dL_law__1504 : decode cL_law_ 1504 = .ok (.aload_n 0, 1) := by decide +kernel
theorem dL_law__1505 : decode cL_law_ 1505 = .ok (.iload 4, 2) := by decide +kernel
theorem dL_law__1507 : decode cL_law_ 1507 = .ok (.iconst 1, 1) := by decide +kernel
theorem dL_law__1508 : decode cL_law_ 1508 = .ok (.iadd, 1) := by decide +kernel
theorem dL_law__1509 : decode cL_law_ 1509 = .ok (.iaload, 1) := by decide +kernel
theorem dL_law__1510 : decode cL_law_ 1510 = .ok (.aload_n 0, 1) := by decide +kernel
theorem dL_law__1511 : decode cL_law_ 1511 = .ok (.iload 4, 2) := by decide +kernel
theorem dL_law__1513 : decode cL_law_ 1513 = .ok (.iconst 2, 1) := by decide +kernel
theorem dL_law__1514 : decode cL_law_ 1514 = .ok (.iadd, 1) := by decide +kernel
theorem dL_law__1515 : decode cL_law_ 1515 = .ok (.iaload, 1) := by decide +kernel
theorem dL_law__1516 : decode cL_law_ 1516 = .ok (.aload_n 3, 1) := by decide +kernel
theorem dL_law__1517 : decode cL_law_ 1517 = .ok (.invokestatic 199, 3) := by decide +kernel
theorem dL_law__1520 : decode cL_law_ 1520 = .ok (.istore 5, 2) := by decide +kernel
theorem dL_law__1522 : decode cL_law_ 1522 = .ok (.aload_n 2, 1) := by decide +kernel
theorem dL_law__1523 : decode cL_law_ 1523 = .ok (.aload_n 0, 1) := by decide +kernel
theorem dL_law__1524 : decode cL_law_ 1524 = .ok (.iload 4, 2) := by decide +kernel
theorem dL_law__1526 : decode cL_law_ 1526 = .ok (.iconst 1, 1) := by decide +kernel
theorem dL_law__1527 : decode cL_law_ 1527 = .ok (.iadd, 1) := by decide +kernel
theorem dL_law__1528 : decode cL_law_ 1528 = .ok (.iaload, 1) := by decide +kernel
theorem dL_law__1529 : decode cL_law_ 1529 = .ok (.aload_n 0, 1) := by decide +kernel
theorem dL_law__1530 : decode cL_law_ 1530 = .ok (.iload 4, 2) := by decide +kernel
theorem dL_law__1532 : decode cL_law_ 1532 = .ok (.iconst 2, 1) := by decide +kernel
theorem dL_law__1533 : decode cL_law_ 1533 = .ok (.iadd, 1) := by decide +kernel
theorem dL_law__1534 : decode cL_law_ 1534 = .ok (.iaload, 1) := by decide +kernel
theorem dL_law__1535 : decode cL_law_ 1535 = .ok (.invokevirtual 201, 3) := by decide +kernel
theorem dL_law__1538 : decode cL_law_ 1538 = .ok (.istore 6, 2) := by decide +kernel
theorem dL_law__1540 : decode cL_law_ 1540 = .ok (.aload_n 2, 1) := by decide +kernel
theorem dL_law__1541 : decode cL_law_ 1541 = .ok (.invokevirtual 116, 3) := by decide +kernel
theorem dL_law__1544 : decode cL_law_ 1544 = .ok (.iload 5, 2) := by decide +kernel
theorem dL_law__1546 : decode cL_law_ 1546 = .ok (.if_icmp .eq 5, 3) := by decide +kernel
theorem dL_law__1549 : decode cL_law_ 1549 = .ok (.iconst 0, 1) := by decide +kernel
theorem dL_law__1550 : decode cL_law_ 1550 = .ok (.ireturn, 1) := by decide +kernel
theorem dL_law__1551 : decode cL_law_ 1551 = .ok (.iload 5, 2) := by decide +kernel
theorem dL_law__1553 : decode cL_law_ 1553 = .ok (.ifCond .ne 15, 3) := by decide +kernel
theorem dL_law__1556 : decode cL_law_ 1556 = .ok (.aload_n 3, 1) := by decide +kernel
theorem dL_law__1557 : decode cL_law_ 1557 = .ok (.iconst 0, 1) := by decide +kernel
theorem dL_law__1558 : decode cL_law_ 1558 = .ok (.laload, 1) := by decide +kernel
theorem dL_law__1559 : decode cL_law_ 1559 = .ok (.iload 6, 2) := by decide +kernel
theorem dL_law__1561 : decode cL_law_ 1561 = .ok (.i2l, 1) := by decide +kernel
theorem dL_law__1562 : decode cL_law_ 1562 = .ok (.lcmp, 1) := by decide +kernel
theorem dL_law__1563 : decode cL_law_ 1563 = .ok (.ifCond .eq 5, 3) := by decide +kernel
theorem dL_law__1566 : decode cL_law_ 1566 = .ok (.iconst 0, 1) := by decide +kernel
theorem dL_law__1567 : decode cL_law_ 1567 = .ok (.ireturn, 1) := by decide +kernel
theorem dL_law__1568 : decode cL_law_ 1568 = .ok (.goto 679, 3) := by decide +kernel
theorem dL_law__1571 : decode cL_law_ 1571 = .ok (.aload_n 1, 1) := by decide +kernel
theorem dL_law__1572 : decode cL_law_ 1572 = .ok (.aload_n 0, 1) := by decide +kernel
theorem dL_law__1573 : decode cL_law_ 1573 = .ok (.iload 4, 2) := by decide +kernel
theorem dL_law__1575 : decode cL_law_ 1575 = .ok (.iconst 1, 1) := by decide +kernel
theorem dL_law__1576 : decode cL_law_ 1576 = .ok (.iadd, 1) := by decide +kernel
theorem dL_law__1577 : decode cL_law_ 1577 = .ok (.iaload, 1) := by decide +kernel
theorem dL_law__1578 : decode cL_law_ 1578 = .ok (.aload_n 0, 1) := by decide +kernel
theorem dL_law__1579 : decode cL_law_ 1579 = .ok (.iload 4, 2) := by decide +kernel
theorem dL_law__1581 : decode cL_law_ 1581 = .ok (.iconst 2, 1) := by decide +kernel
theorem dL_law__1582 : decode cL_law_ 1582 = .ok (.iadd, 1) := by decide +kernel
theorem dL_law__1583 : decode cL_law_ 1583 = .ok (.iaload, 1) := by decide +kernel
theorem dL_law__1584 : decode cL_law_ 1584 = .ok (.aload_n 3, 1) := by decide +kernel
theorem dL_law__1585 : decode cL_law_ 1585 = .ok (.invokestatic 202, 3) := by decide +kernel
theorem dL_law__1588 : decode cL_law_ 1588 = .ok (.istore 5, 2) := by decide +kernel
theorem dL_law__1590 : decode cL_law_ 1590 = .ok (.aload_n 2, 1) := by decide +kernel
theorem dL_law__1591 : decode cL_law_ 1591 = .ok (.aload_n 0, 1) := by decide +kernel
theorem dL_law__1592 : decode cL_law_ 1592 = .ok (.iload 4, 2) := by decide +kernel
theorem dL_law__1594 : decode cL_law_ 1594 = .ok (.iconst 1, 1) := by decide +kernel
theorem dL_law__1595 : decode cL_law_ 1595 = .ok (.iadd, 1) := by decide +kernel
theorem dL_law__1596 : decode cL_law_ 1596 = .ok (.iaload, 1) := by decide +kernel
theorem dL_law__1597 : decode cL_law_ 1597 = .ok (.aload_n 0, 1) := by decide +kernel
theorem dL_law__1598 : decode cL_law_ 1598 = .ok (.iload 4, 2) := by decide +kernel
theorem dL_law__1600 : decode cL_law_ 1600 = .ok (.iconst 2, 1) := by decide +kernel
theorem dL_law__1601 : decode cL_law_ 1601 = .ok (.iadd, 1) := by decide +kernel
theorem dL_law__1602 : decode cL_law_ 1602 = .ok (.iaload, 1) := by decide +kernel
theorem dL_law__1603 : decode cL_law_ 1603 = .ok (.invokevirtual 204, 3) := by decide +kernel
theorem dL_law__1606 : decode cL_law_ 1606 = .ok (.istore 6, 2) := by decide +kernel
theorem dL_law__1608 : decode cL_law_ 1608 = .ok (.aload_n 2, 1) := by decide +kernel
theorem dL_law__1609 : decode cL_law_ 1609 = .ok (.invokevirtual 116, 3) := by decide +kernel
theorem dL_law__1612 : decode cL_law_ 1612 = .ok (.iload 5, 2) := by decide +kernel
theorem dL_law__1614 : decode cL_law_ 1614 = .ok (.if_icmp .eq 5, 3) := by decide +kernel
theorem dL_law__1617 : decode cL_law_ 1617 = .ok (.iconst 0, 1) := by decide +kernel
theorem dL_law__1618 : decode cL_law_ 1618 = .ok (.ireturn, 1) := by decide +kernel
theorem dL_law__1619 : decode cL_law_ 1619 = .ok (.iload 5, 2) := by decide +kernel
theorem dL_law__1621 : decode cL_law_ 1621 = .ok (.ifCond .ne 15, 3) := by decide +kernel
theorem dL_law__1624 : decode cL_law_ 1624 = .ok (.aload_n 3, 1) := by decide +kernel
theorem dL_law__1625 : decode cL_law_ 1625 = .ok (.iconst 0, 1) := by decide +kernel
theorem dL_law__1626 : decode cL_law_ 1626 = .ok (.laload, 1) := by decide +kernel
theorem dL_law__1627 : decode cL_law_ 1627 = .ok (.iload 6, 2) := by decide +kernel
theorem dL_law__1629 : decode cL_law_ 1629 = .ok (.i2l, 1) := by decide +kernel
theorem dL_law__1630 : decode cL_law_ 1630 = .ok (.lcmp, 1) := by decide +kernel
theorem dL_law__1631 : decode cL_law_ 1631 = .ok (.ifCond .eq 5, 3) := by decide +kernel
theorem dL_law__1634 : decode cL_law_ 1634 = .ok (.iconst 0, 1) := by decide +kernel
theorem dL_law__1635 : decode cL_law_ 1635 = .ok (.ireturn, 1) := by decide +kernel
theorem dL_law__1636 : decode cL_law_ 1636 = .ok (.goto 611, 3) := by decide +kernel
theorem dL_law__1639 : decode cL_law_ 1639 = .ok (.aload_n 1, 1) := by decide +kernel
theorem dL_law__1640 : decode cL_law_ 1640 = .ok (.aload_n 0, 1) := by decide +kernel
theorem dL_law__1641 : decode cL_law_ 1641 = .ok (.iload 4, 2) := by decide +kernel
theorem dL_law__1643 : decode cL_law_ 1643 = .ok (.iconst 1, 1) := by decide +kernel
theorem dL_law__1644 : decode cL_law_ 1644 = .ok (.iadd, 1) := by decide +kernel
theorem dL_law__1645 : decode cL_law_ 1645 = .ok (.iaload, 1) := by decide +kernel
theorem dL_law__1646 : decode cL_law_ 1646 = .ok (.aload_n 3, 1) := by decide +kernel
theorem dL_law__1647 : decode cL_law_ 1647 = .ok (.invokestatic 205, 3) := by decide +kernel
theorem dL_law__1650 : decode cL_law_ 1650 = .ok (.istore 5, 2) := by decide +kernel
theorem dL_law__1652 : decode cL_law_ 1652 = .ok (.aload_n 2, 1) := by decide +kernel
theorem dL_law__1653 : decode cL_law_ 1653 = .ok (.aload_n 0, 1) := by decide +kernel
theorem dL_law__1654 : decode cL_law_ 1654 = .ok (.iload 4, 2) := by decide +kernel
theorem dL_law__1656 : decode cL_law_ 1656 = .ok (.iconst 1, 1) := by decide +kernel
theorem dL_law__1657 : decode cL_law_ 1657 = .ok (.iadd, 1) := by decide +kernel
theorem dL_law__1658 : decode cL_law_ 1658 = .ok (.iaload, 1) := by decide +kernel
theorem dL_law__1659 : decode cL_law_ 1659 = .ok (.invokevirtual 207, 3) := by decide +kernel
theorem dL_law__1662 : decode cL_law_ 1662 = .ok (.istore 6, 2) := by decide +kernel
theorem dL_law__1664 : decode cL_law_ 1664 = .ok (.aload_n 2, 1) := by decide +kernel
theorem dL_law__1665 : decode cL_law_ 1665 = .ok (.invokevirtual 116, 3) := by decide +kernel
theorem dL_law__1668 : decode cL_law_ 1668 = .ok (.iload 5, 2) := by decide +kernel
theorem dL_law__1670 : decode cL_law_ 1670 = .ok (.if_icmp .eq 5, 3) := by decide +kernel
theorem dL_law__1673 : decode cL_law_ 1673 = .ok (.iconst 0, 1) := by decide +kernel
theorem dL_law__1674 : decode cL_law_ 1674 = .ok (.ireturn, 1) := by decide +kernel
theorem dL_law__1675 : decode cL_law_ 1675 = .ok (.iload 5, 2) := by decide +kernel
theorem dL_law__1677 : decode cL_law_ 1677 = .ok (.ifCond .ne 15, 3) := by decide +kernel
theorem dL_law__1680 : decode cL_law_ 1680 = .ok (.aload_n 3, 1) := by decide +kernel
theorem dL_law__1681 : decode cL_law_ 1681 = .ok (.iconst 0, 1) := by decide +kernel
theorem dL_law__1682 : decode cL_law_ 1682 = .ok (.laload, 1) := by decide +kernel
theorem dL_law__1683 : decode cL_law_ 1683 = .ok (.iload 6, 2) := by decide +kernel
theorem dL_law__1685 : decode cL_law_ 1685 = .ok (.i2l, 1) := by decide +kernel
theorem dL_law__1686 : decode cL_law_ 1686 = .ok (.lcmp, 1) := by decide +kernel
theorem dL_law__1687 : decode cL_law_ 1687 = .ok (.ifCond .eq 5, 3) := by decide +kernel
theorem dL_law__1690 : decode cL_law_ 1690 = .ok (.iconst 0, 1) := by decide +kernel
theorem dL_law__1691 : decode cL_law_ 1691 = .ok (.ireturn, 1) := by decide +kernel
theorem dL_law__1692 : decode cL_law_ 1692 = .ok (.goto 555, 3) := by decide +kernel
theorem dL_law__1695 : decode cL_law_ 1695 = .ok (.aload_n 1, 1) := by decide +kernel
theorem dL_law__1696 : decode cL_law_ 1696 = .ok (.invokevirtual 208, 3) := by decide +kernel
theorem dL_law__1699 : decode cL_law_ 1699 = .ok (.aload_n 2, 1) := by decide +kernel
theorem dL_law__1700 : decode cL_law_ 1700 = .ok (.invokevirtual 211, 3) := by decide +kernel
theorem dL_law__1703 : decode cL_law_ 1703 = .ok (.if_icmp .eq 544, 3) := by decide +kernel
theorem dL_law__1706 : decode cL_law_ 1706 = .ok (.iconst 0, 1) := by decide +kernel
theorem dL_law__1707 : decode cL_law_ 1707 = .ok (.ireturn, 1) := by decide +kernel
theorem dL_law__1708 : decode cL_law_ 1708 = .ok (.aload_n 1, 1) := by decide +kernel
theorem dL_law__1709 : decode cL_law_ 1709 = .ok (.invokevirtual 212, 3) := by decide +kernel
theorem dL_law__1712 : decode cL_law_ 1712 = .ok (.aload_n 2, 1) := by decide +kernel
theorem dL_law__1713 : decode cL_law_ 1713 = .ok (.invokevirtual 215, 3) := by decide +kernel
theorem dL_law__1716 : decode cL_law_ 1716 = .ok (.if_icmp .eq 531, 3) := by decide +kernel
theorem dL_law__1719 : decode cL_law_ 1719 = .ok (.iconst 0, 1) := by decide +kernel
theorem dL_law__1720 : decode cL_law_ 1720 = .ok (.ireturn, 1) := by decide +kernel
theorem dL_law__1721 : decode cL_law_ 1721 = .ok (.aload_n 1, 1) := by decide +kernel
theorem dL_law__1722 : decode cL_law_ 1722 = .ok (.aload_n 0, 1) := by decide +kernel
theorem dL_law__1723 : decode cL_law_ 1723 = .ok (.iload 4, 2) := by decide +kernel
theorem dL_law__1725 : decode cL_law_ 1725 = .ok (.iconst 1, 1) := by decide +kernel
theorem dL_law__1726 : decode cL_law_ 1726 = .ok (.iadd, 1) := by decide +kernel
theorem dL_law__1727 : decode cL_law_ 1727 = .ok (.iaload, 1) := by decide +kernel
theorem dL_law__1728 : decode cL_law_ 1728 = .ok (.aload_n 0, 1) := by decide +kernel
theorem dL_law__1729 : decode cL_law_ 1729 = .ok (.iload 4, 2) := by decide +kernel
theorem dL_law__1731 : decode cL_law_ 1731 = .ok (.iconst 2, 1) := by decide +kernel
theorem dL_law__1732 : decode cL_law_ 1732 = .ok (.iadd, 1) := by decide +kernel
theorem dL_law__1733 : decode cL_law_ 1733 = .ok (.iaload, 1) := by decide +kernel
theorem dL_law__1734 : decode cL_law_ 1734 = .ok (.aload_n 0, 1) := by decide +kernel
theorem dL_law__1735 : decode cL_law_ 1735 = .ok (.iload 4, 2) := by decide +kernel
theorem dL_law__1737 : decode cL_law_ 1737 = .ok (.iconst 3, 1) := by decide +kernel
theorem dL_law__1738 : decode cL_law_ 1738 = .ok (.iadd, 1) := by decide +kernel
theorem dL_law__1739 : decode cL_law_ 1739 = .ok (.iaload, 1) := by decide +kernel
theorem dL_law__1740 : decode cL_law_ 1740 = .ok (.aload_n 0, 1) := by decide +kernel
theorem dL_law__1741 : decode cL_law_ 1741 = .ok (.iload 4, 2) := by decide +kernel
theorem dL_law__1743 : decode cL_law_ 1743 = .ok (.iconst 4, 1) := by decide +kernel
theorem dL_law__1744 : decode cL_law_ 1744 = .ok (.iadd, 1) := by decide +kernel
theorem dL_law__1745 : decode cL_law_ 1745 = .ok (.iaload, 1) := by decide +kernel
theorem dL_law__1746 : decode cL_law_ 1746 = .ok (.aload_n 3, 1) := by decide +kernel
theorem dL_law__1747 : decode cL_law_ 1747 = .ok (.invokestatic 216, 3) := by decide +kernel
theorem dL_law__1750 : decode cL_law_ 1750 = .ok (.istore 5, 2) := by decide +kernel
theorem dL_law__1752 : decode cL_law_ 1752 = .ok (.aload_n 2, 1) := by decide +kernel
theorem dL_law__1753 : decode cL_law_ 1753 = .ok (.aload_n 0, 1) := by decide +kernel
theorem dL_law__1754 : decode cL_law_ 1754 = .ok (.iload 4, 2) := by decide +kernel
theorem dL_law__1756 : decode cL_law_ 1756 = .ok (.iconst 1, 1) := by decide +kernel
