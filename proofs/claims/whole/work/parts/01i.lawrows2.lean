theorem dL_law_1453 : decode cL_law 1453 = .ok (.ireturn, 1) := by decide +kernel
theorem dL_law_1454 : decode cL_law 1454 = .ok (.iload 6, 2) := by decide +kernel
theorem dL_law_1456 : decode cL_law 1456 = .ok (.ifCond .ne 22, 3) := by decide +kernel
theorem dL_law_1459 : decode cL_law 1459 = .ok (.aload_n 3, 1) := by decide +kernel
theorem dL_law_1460 : decode cL_law 1460 = .ok (.iconst 0, 1) := by decide +kernel
theorem dL_law_1461 : decode cL_law 1461 = .ok (.laload, 1) := by decide +kernel
theorem dL_law_1462 : decode cL_law 1462 = .ok (.iload 7, 2) := by decide +kernel
theorem dL_law_1464 : decode cL_law 1464 = .ok (.ifCond .eq 7, 3) := by decide +kernel
theorem dL_law_1467 : decode cL_law 1467 = .ok (.lconst 1, 1) := by decide +kernel
theorem dL_law_1468 : decode cL_law 1468 = .ok (.goto 4, 3) := by decide +kernel
theorem dL_law_1471 : decode cL_law 1471 = .ok (.lconst 0, 1) := by decide +kernel
theorem dL_law_1472 : decode cL_law 1472 = .ok (.lcmp, 1) := by decide +kernel
theorem dL_law_1473 : decode cL_law 1473 = .ok (.ifCond .eq 5, 3) := by decide +kernel
theorem dL_law_1476 : decode cL_law 1476 = .ok (.iconst 0, 1) := by decide +kernel
theorem dL_law_1477 : decode cL_law 1477 = .ok (.ireturn, 1) := by decide +kernel
theorem dL_law_1478 : decode cL_law 1478 = .ok (.goto 2022, 3) := by decide +kernel
theorem dL_law_1481 : decode cL_law 1481 = .ok (.aload_n 1, 1) := by decide +kernel
theorem dL_law_1482 : decode cL_law 1482 = .ok (.invokevirtual 244, 3) := by decide +kernel
theorem dL_law_1485 : decode cL_law 1485 = .ok (.aload_n 2, 1) := by decide +kernel
theorem dL_law_1486 : decode cL_law 1486 = .ok (.invokevirtual 247, 3) := by decide +kernel
theorem dL_law_1489 : decode cL_law 1489 = .ok (.if_icmp .eq 2011, 3) := by decide +kernel
theorem dL_law_1492 : decode cL_law 1492 = .ok (.iconst 0, 1) := by decide +kernel
theorem dL_law_1493 : decode cL_law 1493 = .ok (.ireturn, 1) := by decide +kernel
theorem dL_law_1494 : decode cL_law 1494 = .ok (.aload_n 1, 1) := by decide +kernel
theorem dL_law_1495 : decode cL_law 1495 = .ok (.invokevirtual 248, 3) := by decide +kernel
theorem dL_law_1498 : decode cL_law 1498 = .ok (.aload_n 2, 1) := by decide +kernel
theorem dL_law_1499 : decode cL_law 1499 = .ok (.invokevirtual 251, 3) := by decide +kernel
theorem dL_law_1502 : decode cL_law 1502 = .ok (.if_icmp .eq 1998, 3) := by decide +kernel
theorem dL_law_1505 : decode cL_law 1505 = .ok (.iconst 0, 1) := by decide +kernel
theorem dL_law_1506 : decode cL_law 1506 = .ok (.ireturn, 1) := by decide +kernel
theorem dL_law_1507 : decode cL_law 1507 = .ok (.aload_n 1, 1) := by decide +kernel
theorem dL_law_1508 : decode cL_law 1508 = .ok (.aload_n 0, 1) := by decide +kernel
theorem dL_law_1509 : decode cL_law 1509 = .ok (.iload 5, 2) := by decide +kernel
theorem dL_law_1511 : decode cL_law 1511 = .ok (.iconst 1, 1) := by decide +kernel
theorem dL_law_1512 : decode cL_law 1512 = .ok (.iadd, 1) := by decide +kernel
theorem dL_law_1513 : decode cL_law 1513 = .ok (.iaload, 1) := by decide +kernel
theorem dL_law_1514 : decode cL_law 1514 = .ok (.aload_n 3, 1) := by decide +kernel
theorem dL_law_1515 : decode cL_law 1515 = .ok (.invokestatic 252, 3) := by decide +kernel
theorem dL_law_1518 : decode cL_law 1518 = .ok (.istore 6, 2) := by decide +kernel
theorem dL_law_1520 : decode cL_law 1520 = .ok (.aload_n 2, 1) := by decide +kernel
theorem dL_law_1521 : decode cL_law 1521 = .ok (.aload_n 0, 1) := by decide +kernel
theorem dL_law_1522 : decode cL_law 1522 = .ok (.iload 5, 2) := by decide +kernel
theorem dL_law_1524 : decode cL_law 1524 = .ok (.iconst 1, 1) := by decide +kernel
theorem dL_law_1525 : decode cL_law 1525 = .ok (.iadd, 1) := by decide +kernel
theorem dL_law_1526 : decode cL_law 1526 = .ok (.iaload, 1) := by decide +kernel
theorem dL_law_1527 : decode cL_law 1527 = .ok (.invokevirtual 254, 3) := by decide +kernel
theorem dL_law_1530 : decode cL_law 1530 = .ok (.istore 7, 2) := by decide +kernel
theorem dL_law_1532 : decode cL_law 1532 = .ok (.aload_n 2, 1) := by decide +kernel
theorem dL_law_1533 : decode cL_law 1533 = .ok (.invokevirtual 156, 3) := by decide +kernel
theorem dL_law_1536 : decode cL_law 1536 = .ok (.iload 6, 2) := by decide +kernel
theorem dL_law_1538 : decode cL_law 1538 = .ok (.if_icmp .eq 5, 3) := by decide +kernel
theorem dL_law_1541 : decode cL_law 1541 = .ok (.iconst 0, 1) := by decide +kernel
theorem dL_law_1542 : decode cL_law 1542 = .ok (.ireturn, 1) := by decide +kernel
theorem dL_law_1543 : decode cL_law 1543 = .ok (.iload 6, 2) := by decide +kernel
theorem dL_law_1545 : decode cL_law 1545 = .ok (.ifCond .ne 15, 3) := by decide +kernel
theorem dL_law_1548 : decode cL_law 1548 = .ok (.aload_n 3, 1) := by decide +kernel
theorem dL_law_1549 : decode cL_law 1549 = .ok (.iconst 0, 1) := by decide +kernel
theorem dL_law_1550 : decode cL_law 1550 = .ok (.laload, 1) := by decide +kernel
theorem dL_law_1551 : decode cL_law 1551 = .ok (.iload 7, 2) := by decide +kernel
theorem dL_law_1553 : decode cL_law 1553 = .ok (.i2l, 1) := by decide +kernel
theorem dL_law_1554 : decode cL_law 1554 = .ok (.lcmp, 1) := by decide +kernel
theorem dL_law_1555 : decode cL_law 1555 = .ok (.ifCond .eq 5, 3) := by decide +kernel
theorem dL_law_1558 : decode cL_law 1558 = .ok (.iconst 0, 1) := by decide +kernel
theorem dL_law_1559 : decode cL_law 1559 = .ok (.ireturn, 1) := by decide +kernel
theorem dL_law_1560 : decode cL_law 1560 = .ok (.goto 1940, 3) := by decide +kernel
theorem dL_law_1563 : decode cL_law 1563 = .ok (.aload_n 1, 1) := by decide +kernel
theorem dL_law_1564 : decode cL_law 1564 = .ok (.invokevirtual 255, 3) := by decide +kernel
theorem dL_law_1567 : decode cL_law 1567 = .ok (.aload_n 2, 1) := by decide +kernel
theorem dL_law_1568 : decode cL_law 1568 = .ok (.invokevirtual 258, 3) := by decide +kernel
theorem dL_law_1571 : decode cL_law 1571 = .ok (.if_icmp .eq 1929, 3) := by decide +kernel
theorem dL_law_1574 : decode cL_law 1574 = .ok (.iconst 0, 1) := by decide +kernel
theorem dL_law_1575 : decode cL_law 1575 = .ok (.ireturn, 1) := by decide +kernel
theorem dL_law_1576 : decode cL_law 1576 = .ok (.aload_n 1, 1) := by decide +kernel
theorem dL_law_1577 : decode cL_law 1577 = .ok (.aload_n 0, 1) := by decide +kernel
theorem dL_law_1578 : decode cL_law 1578 = .ok (.iload 5, 2) := by decide +kernel
theorem dL_law_1580 : decode cL_law 1580 = .ok (.iconst 1, 1) := by decide +kernel
theorem dL_law_1581 : decode cL_law 1581 = .ok (.iadd, 1) := by decide +kernel
theorem dL_law_1582 : decode cL_law 1582 = .ok (.iaload, 1) := by decide +kernel
theorem dL_law_1583 : decode cL_law 1583 = .ok (.aload_n 0, 1) := by decide +kernel
theorem dL_law_1584 : decode cL_law 1584 = .ok (.iload 5, 2) := by decide +kernel
theorem dL_law_1586 : decode cL_law 1586 = .ok (.iconst 2, 1) := by decide +kernel
theorem dL_law_1587 : decode cL_law 1587 = .ok (.iadd, 1) := by decide +kernel
theorem dL_law_1588 : decode cL_law 1588 = .ok (.iaload, 1) := by decide +kernel
theorem dL_law_1589 : decode cL_law 1589 = .ok (.aload_n 3, 1) := by decide +kernel
theorem dL_law_1590 : decode cL_law 1590 = .ok (.invokestatic 259, 3) := by decide +kernel
theorem dL_law_1593 : decode cL_law 1593 = .ok (.istore 6, 2) := by decide +kernel
theorem dL_law_1595 : decode cL_law 1595 = .ok (.aload_n 2, 1) := by decide +kernel
theorem dL_law_1596 : decode cL_law 1596 = .ok (.aload_n 0, 1) := by decide +kernel
theorem dL_law_1597 : decode cL_law 1597 = .ok (.iload 5, 2) := by decide +kernel
theorem dL_law_1599 : decode cL_law 1599 = .ok (.iconst 1, 1) := by decide +kernel
theorem dL_law_1600 : decode cL_law 1600 = .ok (.iadd, 1) := by decide +kernel
theorem dL_law_1601 : decode cL_law 1601 = .ok (.iaload, 1) := by decide +kernel
theorem dL_law_1602 : decode cL_law 1602 = .ok (.aload_n 0, 1) := by decide +kernel
theorem dL_law_1603 : decode cL_law 1603 = .ok (.iload 5, 2) := by decide +kernel
theorem dL_law_1605 : decode cL_law 1605 = .ok (.iconst 2, 1) := by decide +kernel
theorem dL_law_1606 : decode cL_law 1606 = .ok (.iadd, 1) := by decide +kernel
theorem dL_law_1607 : decode cL_law 1607 = .ok (.iaload, 1) := by decide +kernel
theorem dL_law_1608 : decode cL_law 1608 = .ok (.invokevirtual 261, 3) := by decide +kernel
theorem dL_law_1611 : decode cL_law 1611 = .ok (.istore 7, 2) := by decide +kernel
theorem dL_law_1613 : decode cL_law 1613 = .ok (.aload_n 2, 1) := by decide +kernel
theorem dL_law_1614 : decode cL_law 1614 = .ok (.invokevirtual 156, 3) := by decide +kernel
theorem dL_law_1617 : decode cL_law 1617 = .ok (.iload 6, 2) := by decide +kernel
theorem dL_law_1619 : decode cL_law 1619 = .ok (.if_icmp .eq 5, 3) := by decide +kernel
theorem dL_law_1622 : decode cL_law 1622 = .ok (.iconst 0, 1) := by decide +kernel
theorem dL_law_1623 : decode cL_law 1623 = .ok (.ireturn, 1) := by decide +kernel
theorem dL_law_1624 : decode cL_law 1624 = .ok (.iload 6, 2) := by decide +kernel
theorem dL_law_1626 : decode cL_law 1626 = .ok (.ifCond .ne 15, 3) := by decide +kernel
theorem dL_law_1629 : decode cL_law 1629 = .ok (.aload_n 3, 1) := by decide +kernel
theorem dL_law_1630 : decode cL_law 1630 = .ok (.iconst 0, 1) := by decide +kernel
theorem dL_law_1631 : decode cL_law 1631 = .ok (.laload, 1) := by decide +kernel
theorem dL_law_1632 : decode cL_law 1632 = .ok (.iload 7, 2) := by decide +kernel
theorem dL_law_1634 : decode cL_law 1634 = .ok (.i2l, 1) := by decide +kernel
theorem dL_law_1635 : decode cL_law 1635 = .ok (.lcmp, 1) := by decide +kernel
theorem dL_law_1636 : decode cL_law 1636 = .ok (.ifCond .eq 5, 3) := by decide +kernel
theorem dL_law_1639 : decode cL_law 1639 = .ok (.iconst 0, 1) := by decide +kernel
theorem dL_law_1640 : decode cL_law 1640 = .ok (.ireturn, 1) := by decide +kernel
theorem dL_law_1641 : decode cL_law 1641 = .ok (.goto 1859, 3) := by decide +kernel
theorem dL_law_1644 : decode cL_law 1644 = .ok (.aload_n 1, 1) := by decide +kernel
theorem dL_law_1645 : decode cL_law 1645 = .ok (.aload_n 0, 1) := by decide +kernel
theorem dL_law_1646 : decode cL_law 1646 = .ok (.iload 5, 2) := by decide +kernel
theorem dL_law_1648 : decode cL_law 1648 = .ok (.iconst 1, 1) := by decide +kernel
theorem dL_law_1649 : decode cL_law 1649 = .ok (.iadd, 1) := by decide +kernel
theorem dL_law_1650 : decode cL_law 1650 = .ok (.iaload, 1) := by decide +kernel
theorem dL_law_1651 : decode cL_law 1651 = .ok (.aload_n 0, 1) := by decide +kernel
theorem dL_law_1652 : decode cL_law 1652 = .ok (.iload 5, 2) := by decide +kernel
theorem dL_law_1654 : decode cL_law 1654 = .ok (.iconst 2, 1) := by decide +kernel
theorem dL_law_1655 : decode cL_law 1655 = .ok (.iadd, 1) := by decide +kernel
theorem dL_law_1656 : decode cL_law 1656 = .ok (.iaload, 1) := by decide +kernel
theorem dL_law_1657 : decode cL_law 1657 = .ok (.aload_n 0, 1) := by decide +kernel
theorem dL_law_1658 : decode cL_law 1658 = .ok (.iload 5, 2) := by decide +kernel
theorem dL_law_1660 : decode cL_law 1660 = .ok (.iconst 3, 1) := by decide +kernel
theorem dL_law_1661 : decode cL_law 1661 = .ok (.iadd, 1) := by decide +kernel
theorem dL_law_1662 : decode cL_law 1662 = .ok (.iaload, 1) := by decide +kernel
theorem dL_law_1663 : decode cL_law 1663 = .ok (.aload_n 3, 1) := by decide +kernel
theorem dL_law_1664 : decode cL_law 1664 = .ok (.invokestatic 262, 3) := by decide +kernel
theorem dL_law_1667 : decode cL_law 1667 = .ok (.istore 6, 2) := by decide +kernel
theorem dL_law_1669 : decode cL_law 1669 = .ok (.aload_n 2, 1) := by decide +kernel
theorem dL_law_1670 : decode cL_law 1670 = .ok (.aload_n 0, 1) := by decide +kernel
theorem dL_law_1671 : decode cL_law 1671 = .ok (.iload 5, 2) := by decide +kernel
theorem dL_law_1673 : decode cL_law 1673 = .ok (.iconst 1, 1) := by decide +kernel
theorem dL_law_1674 : decode cL_law 1674 = .ok (.iadd, 1) := by decide +kernel
theorem dL_law_1675 : decode cL_law 1675 = .ok (.iaload, 1) := by decide +kernel
theorem dL_law_1676 : decode cL_law 1676 = .ok (.aload_n 0, 1) := by decide +kernel
theorem dL_law_1677 : decode cL_law 1677 = .ok (.iload 5, 2) := by decide +kernel
theorem dL_law_1679 : decode cL_law 1679 = .ok (.iconst 2, 1) := by decide +kernel
theorem dL_law_1680 : decode cL_law 1680 = .ok (.iadd, 1) := by decide +kernel
theorem dL_law_1681 : decode cL_law 1681 = .ok (.iaload, 1) := by decide +kernel
theorem dL_law_1682 : decode cL_law 1682 = .ok (.aload_n 0, 1) := by decide +kernel
theorem dL_law_1683 : decode cL_law 1683 = .ok (.iload 5, 2) := by decide +kernel
theorem dL_law_1685 : decode cL_law 1685 = .ok (.iconst 3, 1) := by decide +kernel
theorem dL_law_1686 : decode cL_law 1686 = .ok (.iadd, 1) := by decide +kernel
theorem dL_law_1687 : decode cL_law 1687 = .ok (.iaload, 1) := by decide +kernel
theorem dL_law_1688 : decode cL_law 1688 = .ok (.invokevirtual 265, 3) := by decide +kernel
theorem dL_law_1691 : decode cL_law 1691 = .ok (.istore 7, 2) := by decide +kernel
theorem dL_law_1693 : decode cL_law 1693 = .ok (.aload_n 2, 1) := by decide +kernel
theorem dL_law_1694 : decode cL_law 1694 = .ok (.invokevirtual 156, 3) := by decide +kernel
theorem dL_law_1697 : decode cL_law 1697 = .ok (.iload 6, 2) := by decide +kernel
theorem dL_law_1699 : decode cL_law 1699 = .ok (.if_icmp .eq 5, 3) := by decide +kernel
theorem dL_law_1702 : decode cL_law 1702 = .ok (.iconst 0, 1) := by decide +kernel
theorem dL_law_1703 : decode cL_law 1703 = .ok (.ireturn, 1) := by decide +kernel
theorem dL_law_1704 : decode cL_law 1704 = .ok (.iload 6, 2) := by decide +kernel
theorem dL_law_1706 : decode cL_law 1706 = .ok (.ifCond .ne 15, 3) := by decide +kernel
theorem dL_law_1709 : decode cL_law 1709 = .ok (.aload_n 3, 1) := by decide +kernel
theorem dL_law_1710 : decode cL_law 1710 = .ok (.iconst 0, 1) := by decide +kernel
theorem dL_law_1711 : decode cL_law 1711 = .ok (.laload, 1) := by decide +kernel
theorem dL_law_1712 : decode cL_law 1712 = .ok (.iload 7, 2) := by decide +kernel
theorem dL_law_1714 : decode cL_law 1714 = .ok (.i2l, 1) := by decide +kernel
theorem dL_law_1715 : decode cL_law 1715 = .ok (.lcmp, 1) := by decide +kernel
theorem dL_law_1716 : decode cL_law 1716 = .ok (.ifCond .eq 5, 3) := by decide +kernel
theorem dL_law_1719 : decode cL_law 1719 = .ok (.iconst 0, 1) := by decide +kernel
theorem dL_law_1720 : decode cL_law 1720 = .ok (.ireturn, 1) := by decide +kernel
theorem dL_law_1721 : decode cL_law 1721 = .ok (.goto 1779, 3) := by decide +kernel
theorem dL_law_1724 : decode cL_law 1724 = .ok (.aload_n 1, 1) := by decide +kernel
theorem dL_law_1725 : decode cL_law 1725 = .ok (.invokevirtual 266, 3) := by decide +kernel
theorem dL_law_1728 : decode cL_law 1728 = .ok (.aload_n 2, 1) := by decide +kernel
theorem dL_law_1729 : decode cL_law 1729 = .ok (.invokevirtual 269, 3) := by decide +kernel
theorem dL_law_1732 : decode cL_law 1732 = .ok (.if_icmp .eq 1768, 3) := by decide +kernel
theorem dL_law_1735 : decode cL_law 1735 = .ok (.iconst 0, 1) := by decide +kernel
theorem dL_law_1736 : decode cL_law 1736 = .ok (.ireturn, 1) := by decide +kernel
theorem dL_law_1737 : decode cL_law 1737 = .ok (.aload_n 1, 1) := by decide +kernel
theorem dL_law_1738 : decode cL_law 1738 = .ok (.invokevirtual 270, 3) := by decide +kernel
theorem dL_law_1741 : decode cL_law 1741 = .ok (.aload_n 2, 1) := by decide +kernel
theorem dL_law_1742 : decode cL_law 1742 = .ok (.invokevirtual 273, 3) := by decide +kernel
theorem dL_law_1745 : decode cL_law 1745 = .ok (.if_icmp .eq 1755, 3) := by decide +kernel
theorem dL_law_1748 : decode cL_law 1748 = .ok (.iconst 0, 1) := by decide +kernel
theorem dL_law_1749 : decode cL_law 1749 = .ok (.ireturn, 1) := by decide +kernel
theorem dL_law_1750 : decode cL_law 1750 = .ok (.aload_n 1, 1) := by decide +kernel
theorem dL_law_1751 : decode cL_law 1751 = .ok (.invokevirtual 274, 3) := by decide +kernel
theorem dL_law_1754 : decode cL_law 1754 = .ok (.aload_n 2, 1) := by decide +kernel
theorem dL_law_1755 : decode cL_law 1755 = .ok (.invokevirtual 277, 3) := by decide +kernel
theorem dL_law_1758 : decode cL_law 1758 = .ok (.if_icmp .eq 1742, 3) := by decide +kernel
theorem dL_law_1761 : decode cL_law 1761 = .ok (.iconst 0, 1) := by decide +kernel
theorem dL_law_1762 : decode cL_law 1762 = .ok (.ireturn, 1) := by decide +kernel
theorem dL_law_1763 : decode cL_law 1763 = .ok (.aload_n 1, 1) := by decide +kernel
theorem dL_law_1764 : decode cL_law 1764 = .ok (.invokevirtual 278, 3) := by decide +kernel
theorem dL_law_1767 : decode cL_law 1767 = .ok (.aload_n 2, 1) := by decide +kernel
theorem dL_law_1768 : decode cL_law 1768 = .ok (.invokevirtual 281, 3) := by decide +kernel
theorem dL_law_1771 : decode cL_law 1771 = .ok (.if_icmp .eq 1729, 3) := by decide +kernel
theorem dL_law_1774 : decode cL_law 1774 = .ok (.iconst 0, 1) := by decide +kernel
theorem dL_law_1775 : decode cL_law 1775 = .ok (.ireturn, 1) := by decide +kernel
theorem dL_law_1776 : decode cL_law 1776 = .ok (.aload_n 1, 1) := by decide +kernel
theorem dL_law_1777 : decode cL_law 1777 = .ok (.aload_n 0, 1) := by decide +kernel
theorem dL_law_1778 : decode cL_law 1778 = .ok (.iload 5, 2) := by decide +kernel
theorem dL_law_1780 : decode cL_law 1780 = .ok (.iconst 1, 1) := by decide +kernel
theorem dL_law_1781 : decode cL_law 1781 = .ok (.iadd, 1) := by decide +kernel
theorem dL_law_1782 : decode cL_law 1782 = .ok (.iaload, 1) := by decide +kernel
theorem dL_law_1783 : decode cL_law 1783 = .ok (.aload_n 3, 1) := by decide +kernel
theorem dL_law_1784 : decode cL_law 1784 = .ok (.invokestatic 282, 3) := by decide +kernel
theorem dL_law_1787 : decode cL_law 1787 = .ok (.istore 6, 2) := by decide +kernel
theorem dL_law_1789 : decode cL_law 1789 = .ok (.aload_n 2, 1) := by decide +kernel
theorem dL_law_1790 : decode cL_law 1790 = .ok (.aload_n 0, 1) := by decide +kernel
theorem dL_law_1791 : decode cL_law 1791 = .ok (.iload 5, 2) := by decide +kernel
theorem dL_law_1793 : decode cL_law 1793 = .ok (.iconst 1, 1) := by decide +kernel
theorem dL_law_1794 : decode cL_law 1794 = .ok (.iadd, 1) := by decide +kernel
theorem dL_law_1795 : decode cL_law 1795 = .ok (.iaload, 1) := by decide +kernel
theorem dL_law_1796 : decode cL_law 1796 = .ok (.invokevirtual 284, 3) := by decide +kernel
theorem dL_law_1799 : decode cL_law 1799 = .ok (.istore 7, 2) := by decide +kernel
theorem dL_law_1801 : decode cL_law 1801 = .ok (.aload_n 2, 1) := by decide +kernel
theorem dL_law_1802 : decode cL_law 1802 = .ok (.invokevirtual 156, 3) := by decide +kernel
theorem dL_law_1805 : decode cL_law 1805 = .ok (.iload 6, 2) := by decide +kernel
theorem dL_law_1807 : decode cL_law 1807 = .ok (.if_icmp .eq 5, 3) := by decide +kernel
theorem dL_law_1810 : decode cL_law 1810 = .ok (.iconst 0, 1) := by decide +kernel
theorem dL_law_1811 : decode cL_law 1811 = .ok (.ireturn, 1) := by decide +kernel
theorem dL_law_1812 : decode cL_law 1812 = .ok (.iload 6, 2) := by decide +kernel
theorem dL_law_1814 : decode cL_law 1814 = .ok (.ifCond .ne 15, 3) := by decide +kernel
theorem dL_law_1817 : decode cL_law 1817 = .ok (.aload_n 3, 1) := by decide +kernel
theorem dL_law_1818 : decode cL_law 1818 = .ok (.iconst 0, 1) := by decide +kernel
theorem dL_law_1819 : decode cL_law 1819 = .ok (.laload, 1) := by decide +kernel
theorem dL_law_1820 : decode cL_law 1820 = .ok (.iload 7, 2) := by decide +kernel
theorem dL_law_1822 : decode cL_law 1822 = .ok (.i2l, 1) := by decide +kernel
theorem dL_law_1823 : decode cL_law 1823 = .ok (.lcmp, 1) := by decide +kernel
theorem dL_law_1824 : decode cL_law 1824 = .ok (.ifCond .eq 5, 3) := by decide +kernel
theorem dL_law_1827 : decode cL_law 1827 = .ok (.iconst 0, 1) := by decide +kernel
theorem dL_law_1828 : decode cL_law 1828 = .ok (.ireturn, 1) := by decide +kernel
theorem dL_law_1829 : decode cL_law 1829 = .ok (.goto 1671, 3) := by decide +kernel
theorem dL_law_1832 : decode cL_law 1832 = .ok (.aload_n 1, 1) := by decide +kernel
theorem dL_law_1833 : decode cL_law 1833 = .ok (.aload_n 0, 1) := by decide +kernel
theorem dL_law_1834 : decode cL_law 1834 = .ok (.iload 5, 2) := by decide +kernel
theorem dL_law_1836 : decode cL_law 1836 = .ok (.iconst 1, 1) := by decide +kernel
theorem dL_law_1837 : decode cL_law 1837 = .ok (.iadd, 1) := by decide +kernel
theorem dL_law_1838 : decode cL_law 1838 = .ok (.iaload, 1) := by decide +kernel
theorem dL_law_1839 : decode cL_law 1839 = .ok (.aload_n 3, 1) := by decide +kernel
theorem dL_law_1840 : decode cL_law 1840 = .ok (.invokestatic 285, 3) := by decide +kernel
theorem dL_law_1843 : decode cL_law 1843 = .ok (.istore 6, 2) := by decide +kernel
theorem dL_law_1845 : decode cL_law 1845 = .ok (.aload_n 2, 1) := by decide +kernel
theorem dL_law_1846 : decode cL_law 1846 = .ok (.aload_n 0, 1) := by decide +kernel
theorem dL_law_1847 : decode cL_law 1847 = .ok (.iload 5, 2) := by decide +kernel
theorem dL_law_1849 : decode cL_law 1849 = .ok (.iconst 1, 1) := by decide +kernel
theorem dL_law_1850 : decode cL_law 1850 = .ok (.iadd, 1) := by decide +kernel
theorem dL_law_1851 : decode cL_law 1851 = .ok (.iaload, 1) := by decide +kernel
theorem dL_law_1852 : decode cL_law 1852 = .ok (.invokevirtual 287, 3) := by decide +kernel
theorem dL_law_1855 : decode cL_law 1855 = .ok (.istore 7, 2) := by decide +kernel
theorem dL_law_1857 : decode cL_law 1857 = .ok (.aload_n 2, 1) := by decide +kernel
theorem dL_law_1858 : decode cL_law 1858 = .ok (.invokevirtual 156, 3) := by decide +kernel
theorem dL_law_1861 : decode cL_law 1861 = .ok (.iload 6, 2) := by decide +kernel
theorem dL_law_1863 : decode cL_law 1863 = .ok (.if_icmp .eq 5, 3) := by decide +kernel
theorem dL_law_1866 : decode cL_law 1866 = .ok (.iconst 0, 1) := by decide +kernel
theorem dL_law_1867 : decode cL_law 1867 = .ok (.ireturn, 1) := by decide +kernel
theorem dL_law_1868 : decode cL_law 1868 = .ok (.iload 6, 2) := by decide +kernel
theorem dL_law_1870 : decode cL_law 1870 = .ok (.ifCond .ne 15, 3) := by decide +kernel
theorem dL_law_1873 : decode cL_law 1873 = .ok (.aload_n 3, 1) := by decide +kernel
theorem dL_law_1874 : decode cL_law 1874 = .ok (.iconst 0, 1) := by decide +kernel
theorem dL_law_1875 : decode cL_law 1875 = .ok (.laload, 1) := by decide +kernel
theorem dL_law_1876 : decode cL_law 1876 = .ok (.iload 7, 2) := by decide +kernel
theorem dL_law_1878 : decode cL_law 1878 = .ok (.i2l, 1) := by decide +kernel
theorem dL_law_1879 : decode cL_law 1879 = .ok (.lcmp, 1) := by decide +kernel
theorem dL_law_1880 : decode cL_law 1880 = .ok (.ifCond .eq 5, 3) := by decide +kernel
theorem dL_law_1883 : decode cL_law 1883 = .ok (.iconst 0, 1) := by decide +kernel
theorem dL_law_1884 : decode cL_law 1884 = .ok (.ireturn, 1) := by decide +kernel
theorem dL_law_1885 : decode cL_law 1885 = .ok (.goto 1615, 3) := by decide +kernel
theorem dL_law_1888 : decode cL_law 1888 = .ok (.aload_n 1, 1) := by decide +kernel
theorem dL_law_1889 : decode cL_law 1889 = .ok (.aload_n 0, 1) := by decide +kernel
theorem dL_law_1890 : decode cL_law 1890 = .ok (.iload 5, 2) := by decide +kernel
theorem dL_law_1892 : decode cL_law 1892 = .ok (.iconst 1, 1) := by decide +kernel
theorem dL_law_1893 : decode cL_law 1893 = .ok (.iadd, 1) := by decide +kernel
theorem dL_law_1894 : decode cL_law 1894 = .ok (.iaload, 1) := by decide +kernel
theorem dL_law_1895 : decode cL_law 1895 = .ok (.aload_n 3, 1) := by decide +kernel
theorem dL_law_1896 : decode cL_law 1896 = .ok (.invokestatic 288, 3) := by decide +kernel
theorem dL_law_1899 : decode cL_law 1899 = .ok (.istore 6, 2) := by decide +kernel
theorem dL_law_1901 : decode cL_law 1901 = .ok (.aload_n 2, 1) := by decide +kernel
theorem dL_law_1902 : decode cL_law 1902 = .ok (.aload_n 0, 1) := by decide +kernel
theorem dL_law_1903 : decode cL_law 1903 = .ok (.iload 5, 2) := by decide +kernel
theorem dL_law_1905 : decode cL_law 1905 = .ok (.iconst 1, 1) := by decide +kernel
theorem dL_law_1906 : decode cL_law 1906 = .ok (.iadd, 1) := by decide +kernel
theorem dL_law_1907 : decode cL_law 1907 = .ok (.iaload, 1) := by decide +kernel
theorem dL_law_1908 : decode cL_law 1908 = .ok (.invokevirtual 290, 3) := by decide +kernel
theorem dL_law_1911 : decode cL_law 1911 = .ok (.istore 7, 2) := by decide +kernel
theorem dL_law_1913 : decode cL_law 1913 = .ok (.aload_n 2, 1) := by decide +kernel
theorem dL_law_1914 : decode cL_law 1914 = .ok (.invokevirtual 156, 3) := by decide +kernel
theorem dL_law_1917 : decode cL_law 1917 = .ok (.iload 6, 2) := by decide +kernel
theorem dL_law_1919 : decode cL_law 1919 = .ok (.if_icmp .eq 5, 3) := by decide +kernel
theorem dL_law_1922 : decode cL_law 1922 = .ok (.iconst 0, 1) := by decide +kernel
theorem dL_law_1923 : decode cL_law 1923 = .ok (.ireturn, 1) := by decide +kernel
theorem dL_law_1924 : decode cL_law 1924 = .ok (.iload 6, 2) := by decide +kernel
theorem dL_law_1926 : decode cL_law 1926 = .ok (.ifCond .ne 15, 3) := by decide +kernel
theorem dL_law_1929 : decode cL_law 1929 = .ok (.aload_n 3, 1) := by decide +kernel
theorem dL_law_1930 : decode cL_law 1930 = .ok (.iconst 0, 1) := by decide +kernel
theorem dL_law_1931 : decode cL_law 1931 = .ok (.laload, 1) := by decide +kernel
theorem dL_law_1932 : decode cL_law 1932 = .ok (.iload 7, 2) := by decide +kernel
theorem dL_law_1934 : decode cL_law 1934 = .ok (.i2l, 1) := by decide +kernel
theorem dL_law_1935 : decode cL_law 1935 = .ok (.lcmp, 1) := by decide +kernel
theorem dL_law_1936 : decode cL_law 1936 = .ok (.ifCond .eq 5, 3) := by decide +kernel
theorem dL_law_1939 : decode cL_law 1939 = .ok (.iconst 0, 1) := by decide +kernel
theorem dL_law_1940 : decode cL_law 1940 = .ok (.ireturn, 1) := by decide +kernel
theorem dL_law_1941 : decode cL_law 1941 = .ok (.goto 1559, 3) := by decide +kernel
theorem dL_law_1944 : decode cL_law 1944 = .ok (.aload_n 1, 1) := by decide +kernel
theorem dL_law_1945 : decode cL_law 1945 = .ok (.aload_n 0, 1) := by decide +kernel
theorem dL_law_1946 : decode cL_law 1946 = .ok (.iload 5, 2) := by decide +kernel
theorem dL_law_1948 : decode cL_law 1948 = .ok (.iconst 1, 1) := by decide +kernel
theorem dL_law_1949 : decode cL_law 1949 = .ok (.iadd, 1) := by decide +kernel
theorem dL_law_1950 : decode cL_law 1950 = .ok (.iaload, 1) := by decide +kernel
theorem dL_law_1951 : decode cL_law 1951 = .ok (.aload_n 0, 1) := by decide +kernel
theorem dL_law_1952 : decode cL_law 1952 = .ok (.iload 5, 2) := by decide +kernel
theorem dL_law_1954 : decode cL_law 1954 = .ok (.iconst 2, 1) := by decide +kernel
theorem dL_law_1955 : decode cL_law 1955 = .ok (.iadd, 1) := by decide +kernel
theorem dL_law_1956 : decode cL_law 1956 = .ok (.iaload, 1) := by decide +kernel
theorem dL_law_1957 : decode cL_law 1957 = .ok (.aload_n 0, 1) := by decide +kernel
theorem dL_law_1958 : decode cL_law 1958 = .ok (.iload 5, 2) := by decide +kernel
theorem dL_law_1960 : decode cL_law 1960 = .ok (.iconst 3, 1) := by decide +kernel
theorem dL_law_1961 : decode cL_law 1961 = .ok (.iadd, 1) := by decide +kernel
theorem dL_law_1962 : decode cL_law 1962 = .ok (.iaload, 1) := by decide +kernel
theorem dL_law_1963 : decode cL_law 1963 = .ok (.aload_n 3, 1) := by decide +kernel
theorem dL_law_1964 : decode cL_law 1964 = .ok (.invokestatic 291, 3) := by decide +kernel
theorem dL_law_1967 : decode cL_law 1967 = .ok (.istore 6, 2) := by decide +kernel
theorem dL_law_1969 : decode cL_law 1969 = .ok (.aload_n 2, 1) := by decide +kernel
theorem dL_law_1970 : decode cL_law 1970 = .ok (.aload_n 0, 1) := by decide +kernel
theorem dL_law_1971 : decode cL_law 1971 = .ok (.iload 5, 2) := by decide +kernel
theorem dL_law_1973 : decode cL_law 1973 = .ok (.iconst 1, 1) := by decide +kernel
theorem dL_law_1974 : decode cL_law 1974 = .ok (.iadd, 1) := by decide +kernel
theorem dL_law_1975 : decode cL_law 1975 = .ok (.iaload, 1) := by decide +kernel
theorem dL_law_1976 : decode cL_law 1976 = .ok (.aload_n 0, 1) := by decide +kernel
theorem dL_law_1977 : decode cL_law 1977 = .ok (.iload 5, 2) := by decide +kernel
theorem dL_law_1979 : decode cL_law 1979 = .ok (.iconst 2, 1) := by decide +kernel
theorem dL_law_1980 : decode cL_law 1980 = .ok (.iadd, 1) := by decide +kernel
theorem dL_law_1981 : decode cL_law 1981 = .ok (.iaload, 1) := by decide +kernel
theorem dL_law_1982 : decode cL_law 1982 = .ok (.aload_n 0, 1) := by decide +kernel
theorem dL_law_1983 : decode cL_law 1983 = .ok (.iload 5, 2) := by decide +kernel
theorem dL_law_1985 : decode cL_law 1985 = .ok (.iconst 3, 1) := by decide +kernel
theorem dL_law_1986 : decode cL_law 1986 = .ok (.iadd, 1) := by decide +kernel
theorem dL_law_1987 : decode cL_law 1987 = .ok (.iaload, 1) := by decide +kernel
theorem dL_law_1988 : decode cL_law 1988 = .ok (.invokevirtual 293, 3) := by decide +kernel
theorem dL_law_1991 : decode cL_law 1991 = .ok (.istore 7, 2) := by decide +kernel
theorem dL_law_1993 : decode cL_law 1993 = .ok (.aload_n 2, 1) := by decide +kernel
theorem dL_law_1994 : decode cL_law 1994 = .ok (.invokevirtual 156, 3) := by decide +kernel
theorem dL_law_1997 : decode cL_law 1997 = .ok (.iload 6, 2) := by decide +kernel
theorem dL_law_1999 : decode cL_law 1999 = .ok (.if_icmp .eq 5, 3) := by decide +kernel
theorem dL_law_2002 : decode cL_law 2002 = .ok (.iconst 0, 1) := by decide +kernel
theorem dL_law_2003 : decode cL_law 2003 = .ok (.ireturn, 1) := by decide +kernel
theorem dL_law_2004 : decode cL_law 2004 = .ok (.iload 6, 2) := by decide +kernel
theorem dL_law_2006 : decode cL_law 2006 = .ok (.ifCond .ne 15, 3) := by decide +kernel
theorem dL_law_2009 : decode cL_law 2009 = .ok (.aload_n 3, 1) := by decide +kernel
theorem dL_law_2010 : decode cL_law 2010 = .ok (.iconst 0, 1) := by decide +kernel
theorem dL_law_2011 : decode cL_law 2011 = .ok (.laload, 1) := by decide +kernel
theorem dL_law_2012 : decode cL_law 2012 = .ok (.iload 7, 2) := by decide +kernel
theorem dL_law_2014 : decode cL_law 2014 = .ok (.i2l, 1) := by decide +kernel
theorem dL_law_2015 : decode cL_law 2015 = .ok (.lcmp, 1) := by decide +kernel
theorem dL_law_2016 : decode cL_law 2016 = .ok (.ifCond .eq 5, 3) := by decide +kernel
theorem dL_law_2019 : decode cL_law 2019 = .ok (.iconst 0, 1) := by decide +kernel
theorem dL_law_2020 : decode cL_law 2020 = .ok (.ireturn, 1) := by decide +kernel
theorem dL_law_2021 : decode cL_law 2021 = .ok (.goto 1479, 3) := by decide +kernel
theorem dL_law_2024 : decode cL_law 2024 = .ok (.aload_n 1, 1) := by decide +kernel
theorem dL_law_2025 : decode cL_law 2025 = .ok (.aload_n 0, 1) := by decide +kernel
theorem dL_law_2026 : decode cL_law 2026 = .ok (.iload 5, 2) := by decide +kernel
theorem dL_law_2028 : decode cL_law 2028 = .ok (.iconst 1, 1) := by decide +kernel
theorem dL_law_2029 : decode cL_law 2029 = .ok (.iadd, 1) := by decide +kernel
theorem dL_law_2030 : decode cL_law 2030 = .ok (.iaload, 1) := by decide +kernel
theorem dL_law_2031 : decode cL_law 2031 = .ok (.aload_n 0, 1) := by decide +kernel
theorem dL_law_2032 : decode cL_law 2032 = .ok (.iload 5, 2) := by decide +kernel
theorem dL_law_2034 : decode cL_law 2034 = .ok (.iconst 2, 1) := by decide +kernel
theorem dL_law_2035 : decode cL_law 2035 = .ok (.iadd, 1) := by decide +kernel
theorem dL_law_2036 : decode cL_law 2036 = .ok (.iaload, 1) := by decide +kernel
theorem dL_law_2037 : decode cL_law 2037 = .ok (.aload_n 0, 1) := by decide +kernel
theorem dL_law_2038 : decode cL_law 2038 = .ok (.iload 5, 2) := by decide +kernel
theorem dL_law_2040 : decode cL_law 2040 = .ok (.iconst 3, 1) := by decide +kernel
theorem dL_law_2041 : decode cL_law 2041 = .ok (.iadd, 1) := by decide +kernel
theorem dL_law_2042 : decode cL_law 2042 = .ok (.iaload, 1) := by decide +kernel
theorem dL_law_2043 : decode cL_law 2043 = .ok (.aload_n 3, 1) := by decide +kernel
theorem dL_law_2044 : decode cL_law 2044 = .ok (.invokestatic 294, 3) := by decide +kernel
theorem dL_law_2047 : decode cL_law 2047 = .ok (.istore 6, 2) := by decide +kernel
theorem dL_law_2049 : decode cL_law 2049 = .ok (.aload_n 2, 1) := by decide +kernel
theorem dL_law_2050 : decode cL_law 2050 = .ok (.aload_n 0, 1) := by decide +kernel
theorem dL_law_2051 : decode cL_law 2051 = .ok (.iload 5, 2) := by decide +kernel
theorem dL_law_2053 : decode cL_law 2053 = .ok (.iconst 1, 1) := by decide +kernel
theorem dL_law_2054 : decode cL_law 2054 = .ok (.iadd, 1) := by decide +kernel
theorem dL_law_2055 : decode cL_law 2055 = .ok (.iaload, 1) := by decide +kernel
theorem dL_law_2056 : decode cL_law 2056 = .ok (.aload_n 0, 1) := by decide +kernel
theorem dL_law_2057 : decode cL_law 2057 = .ok (.iload 5, 2) := by decide +kernel
theorem dL_law_2059 : decode cL_law 2059 = .ok (.iconst 2, 1) := by decide +kernel
theorem dL_law_2060 : decode cL_law 2060 = .ok (.iadd, 1) := by decide +kernel
theorem dL_law_2061 : decode cL_law 2061 = .ok (.iaload, 1) := by decide +kernel
theorem dL_law_2062 : decode cL_law 2062 = .ok (.aload_n 0, 1) := by decide +kernel
theorem dL_law_2063 : decode cL_law 2063 = .ok (.iload 5, 2) := by decide +kernel
theorem dL_law_2065 : decode cL_law 2065 = .ok (.iconst 3, 1) := by decide +kernel
theorem dL_law_2066 : decode cL_law 2066 = .ok (.iadd, 1) := by decide +kernel
theorem dL_law_2067 : decode cL_law 2067 = .ok (.iaload, 1) := by decide +kernel
theorem dL_law_2068 : decode cL_law 2068 = .ok (.invokevirtual 296, 3) := by decide +kernel
theorem dL_law_2071 : decode cL_law 2071 = .ok (.istore 7, 2) := by decide +kernel
theorem dL_law_2073 : decode cL_law 2073 = .ok (.aload_n 2, 1) := by decide +kernel
theorem dL_law_2074 : decode cL_law 2074 = .ok (.invokevirtual 156, 3) := by decide +kernel
theorem dL_law_2077 : decode cL_law 2077 = .ok (.iload 6, 2) := by decide +kernel
theorem dL_law_2079 : decode cL_law 2079 = .ok (.if_icmp .eq 5, 3) := by decide +kernel
theorem dL_law_2082 : decode cL_law 2082 = .ok (.iconst 0, 1) := by decide +kernel
theorem dL_law_2083 : decode cL_law 2083 = .ok (.ireturn, 1) := by decide +kernel
theorem dL_law_2084 : decode cL_law 2084 = .ok (.iload 6, 2) := by decide +kernel
theorem dL_law_2086 : decode cL_law 2086 = .ok (.ifCond .ne 15, 3) := by decide +kernel
theorem dL_law_2089 : decode cL_law 2089 = .ok (.aload_n 3, 1) := by decide +kernel
theorem dL_law_2090 : decode cL_law 2090 = .ok (.iconst 0, 1) := by decide +kernel
theorem dL_law_2091 : decode cL_law 2091 = .ok (.laload, 1) := by decide +kernel
theorem dL_law_2092 : decode cL_law 2092 = .ok (.iload 7, 2) := by decide +kernel
theorem dL_law_2094 : decode cL_law 2094 = .ok (.i2l, 1) := by decide +kernel
theorem dL_law_2095 : decode cL_law 2095 = .ok (.lcmp, 1) := by decide +kernel
theorem dL_law_2096 : decode cL_law 2096 = .ok (.ifCond .eq 5, 3) := by decide +kernel
theorem dL_law_2099 : decode cL_law 2099 = .ok (.iconst 0, 1) := by decide +kernel
theorem dL_law_2100 : decode cL_law 2100 = .ok (.ireturn, 1) := by decide +kernel
theorem dL_law_2101 : decode cL_law 2101 = .ok (.goto 1399, 3) := by decide +kernel
theorem dL_law_2104 : decode cL_law 2104 = .ok (.aload_n 1, 1) := by decide +kernel
theorem dL_law_2105 : decode cL_law 2105 = .ok (.aload_n 0, 1) := by decide +kernel
theorem dL_law_2106 : decode cL_law 2106 = .ok (.iload 5, 2) := by decide +kernel
theorem dL_law_2108 : decode cL_law 2108 = .ok (.iconst 1, 1) := by decide +kernel
theorem dL_law_2109 : decode cL_law 2109 = .ok (.iadd, 1) := by decide +kernel
theorem dL_law_2110 : decode cL_law 2110 = .ok (.iaload, 1) := by decide +kernel
theorem dL_law_2111 : decode cL_law 2111 = .ok (.aload_n 3, 1) := by decide +kernel
theorem dL_law_2112 : decode cL_law 2112 = .ok (.invokestatic 297, 3) := by decide +kernel
theorem dL_law_2115 : decode cL_law 2115 = .ok (.istore 6, 2) := by decide +kernel
theorem dL_law_2117 : decode cL_law 2117 = .ok (.aload_n 2, 1) := by decide +kernel
theorem dL_law_2118 : decode cL_law 2118 = .ok (.aload_n 0, 1) := by decide +kernel
theorem dL_law_2119 : decode cL_law 2119 = .ok (.iload 5, 2) := by decide +kernel
theorem dL_law_2121 : decode cL_law 2121 = .ok (.iconst 1, 1) := by decide +kernel
theorem dL_law_2122 : decode cL_law 2122 = .ok (.iadd, 1) := by decide +kernel
theorem dL_law_2123 : decode cL_law 2123 = .ok (.iaload, 1) := by decide +kernel
theorem dL_law_2124 : decode cL_law 2124 = .ok (.invokevirtual 299, 3) := by decide +kernel
theorem dL_law_2127 : decode cL_law 2127 = .ok (.istore 7, 2) := by decide +kernel
theorem dL_law_2129 : decode cL_law 2129 = .ok (.aload_n 2, 1) := by decide +kernel
theorem dL_law_2130 : decode cL_law 2130 = .ok (.invokevirtual 156, 3) := by decide +kernel
theorem dL_law_2133 : decode cL_law 2133 = .ok (.iload 6, 2) := by decide +kernel
theorem dL_law_2135 : decode cL_law 2135 = .ok (.if_icmp .eq 5, 3) := by decide +kernel
theorem dL_law_2138 : decode cL_law 2138 = .ok (.iconst 0, 1) := by decide +kernel
theorem dL_law_2139 : decode cL_law 2139 = .ok (.ireturn, 1) := by decide +kernel
theorem dL_law_2140 : decode cL_law 2140 = .ok (.iload 6, 2) := by decide +kernel
theorem dL_law_2142 : decode cL_law 2142 = .ok (.ifCond .ne 15, 3) := by decide +kernel
theorem dL_law_2145 : decode cL_law 2145 = .ok (.aload_n 3, 1) := by decide +kernel
theorem dL_law_2146 : decode cL_law 2146 = .ok (.iconst 0, 1) := by decide +kernel
theorem dL_law_2147 : decode cL_law 2147 = .ok (.laload, 1) := by decide +kernel
theorem dL_law_2148 : decode cL_law 2148 = .ok (.iload 7, 2) := by decide +kernel
theorem dL_law_2150 : decode cL_law 2150 = .ok (.i2l, 1) := by decide +kernel
theorem dL_law_2151 : decode cL_law 2151 = .ok (.lcmp, 1) := by decide +kernel
theorem dL_law_2152 : decode cL_law 2152 = .ok (.ifCond .eq 5, 3) := by decide +kernel
theorem dL_law_2155 : decode cL_law 2155 = .ok (.iconst 0, 1) := by decide +kernel
theorem dL_law_2156 : decode cL_law 2156 = .ok (.ireturn, 1) := by decide +kernel
theorem dL_law_2157 : decode cL_law 2157 = .ok (.goto 1343, 3) := by decide +kernel
theorem dL_law_2160 : decode cL_law 2160 = .ok (.aload_n 1, 1) := by decide +kernel
theorem dL_law_2161 : decode cL_law 2161 = .ok (.aload_n 0, 1) := by decide +kernel
theorem dL_law_2162 : decode cL_law 2162 = .ok (.iload 5, 2) := by decide +kernel
theorem dL_law_2164 : decode cL_law 2164 = .ok (.iconst 1, 1) := by decide +kernel
theorem dL_law_2165 : decode cL_law 2165 = .ok (.iadd, 1) := by decide +kernel
theorem dL_law_2166 : decode cL_law 2166 = .ok (.iaload, 1) := by decide +kernel
theorem dL_law_2167 : decode cL_law 2167 = .ok (.aload_n 3, 1) := by decide +kernel
theorem dL_law_2168 : decode cL_law 2168 = .ok (.invokestatic 300, 3) := by decide +kernel
theorem dL_law_2171 : decode cL_law 2171 = .ok (.istore 6, 2) := by decide +kernel
theorem dL_law_2173 : decode cL_law 2173 = .ok (.aload_n 2, 1) := by decide +kernel
theorem dL_law_2174 : decode cL_law 2174 = .ok (.aload_n 0, 1) := by decide +kernel
theorem dL_law_2175 : decode cL_law 2175 = .ok (.iload 5, 2) := by decide +kernel
theorem dL_law_2177 : decode cL_law 2177 = .ok (.iconst 1, 1) := by decide +kernel
theorem dL_law_2178 : decode cL_law 2178 = .ok (.iadd, 1) := by decide +kernel
theorem dL_law_2179 : decode cL_law 2179 = .ok (.iaload, 1) := by decide +kernel
theorem dL_law_2180 : decode cL_law 2180 = .ok (.invokevirtual 302, 3) := by decide +kernel
theorem dL_law_2183 : decode cL_law 2183 = .ok (.istore 7, 2) := by decide +kernel
theorem dL_law_2185 : decode cL_law 2185 = .ok (.aload_n 2, 1) := by decide +kernel
theorem dL_law_2186 : decode cL_law 2186 = .ok (.invokevirtual 156, 3) := by decide +kernel
theorem dL_law_2189 : decode cL_law 2189 = .ok (.iload 6, 2) := by decide +kernel
theorem dL_law_2191 : decode cL_law 2191 = .ok (.if_icmp .eq 5, 3) := by decide +kernel
theorem dL_law_2194 : decode cL_law 2194 = .ok (.iconst 0, 1) := by decide +kernel
theorem dL_law_2195 : decode cL_law 2195 = .ok (.ireturn, 1) := by decide +kernel
theorem dL_law_2196 : decode cL_law 2196 = .ok (.iload 6, 2) := by decide +kernel
theorem dL_law_2198 : decode cL_law 2198 = .ok (.ifCond .ne 15, 3) := by decide +kernel
theorem dL_law_2201 : decode cL_law 2201 = .ok (.aload_n 3, 1) := by decide +kernel
theorem dL_law_2202 : decode cL_law 2202 = .ok (.iconst 0, 1) := by decide +kernel
theorem dL_law_2203 : decode cL_law 2203 = .ok (.laload, 1) := by decide +kernel
theorem dL_law_2204 : decode cL_law 2204 = .ok (.iload 7, 2) := by decide +kernel
theorem dL_law_2206 : decode cL_law 2206 = .ok (.i2l, 1) := by decide +kernel
theorem dL_law_2207 : decode cL_law 2207 = .ok (.lcmp, 1) := by decide +kernel
theorem dL_law_2208 : decode cL_law 2208 = .ok (.ifCond .eq 5, 3) := by decide +kernel
theorem dL_law_2211 : decode cL_law 2211 = .ok (.iconst 0, 1) := by decide +kernel
theorem dL_law_2212 : decode cL_law 2212 = .ok (.ireturn, 1) := by decide +kernel
theorem dL_law_2213 : decode cL_law 2213 = .ok (.goto 1287, 3) := by decide +kernel
theorem dL_law_2216 : decode cL_law 2216 = .ok (.aload_n 1, 1) := by decide +kernel
theorem dL_law_2217 : decode cL_law 2217 = .ok (.aload_n 0, 1) := by decide +kernel
theorem dL_law_2218 : decode cL_law 2218 = .ok (.iload 5, 2) := by decide +kernel
theorem dL_law_2220 : decode cL_law 2220 = .ok (.iconst 1, 1) := by decide +kernel
theorem dL_law_2221 : decode cL_law 2221 = .ok (.iadd, 1) := by decide +kernel
theorem dL_law_2222 : decode cL_law 2222 = .ok (.iaload, 1) := by decide +kernel
theorem dL_law_2223 : decode cL_law 2223 = .ok (.aload_n 3, 1) := by decide +kernel
theorem dL_law_2224 : decode cL_law 2224 = .ok (.invokestatic 303, 3) := by decide +kernel
theorem dL_law_2227 : decode cL_law 2227 = .ok (.istore 6, 2) := by decide +kernel
theorem dL_law_2229 : decode cL_law 2229 = .ok (.aload_n 2, 1) := by decide +kernel
theorem dL_law_2230 : decode cL_law 2230 = .ok (.aload_n 0, 1) := by decide +kernel
theorem dL_law_2231 : decode cL_law 2231 = .ok (.iload 5, 2) := by decide +kernel
theorem dL_law_2233 : decode cL_law 2233 = .ok (.iconst 1, 1) := by decide +kernel
theorem dL_law_2234 : decode cL_law 2234 = .ok (.iadd, 1) := by decide +kernel
theorem dL_law_2235 : decode cL_law 2235 = .ok (.iaload, 1) := by decide +kernel
theorem dL_law_2236 : decode cL_law 2236 = .ok (.invokevirtual 305, 3) := by decide +kernel
theorem dL_law_2239 : decode cL_law 2239 = .ok (.istore 7, 2) := by decide +kernel
theorem dL_law_2241 : decode cL_law 2241 = .ok (.aload_n 2, 1) := by decide +kernel
theorem dL_law_2242 : decode cL_law 2242 = .ok (.invokevirtual 156, 3) := by decide +kernel
theorem dL_law_2245 : decode cL_law 2245 = .ok (.iload 6, 2) := by decide +kernel
theorem dL_law_2247 : decode cL_law 2247 = .ok (.if_icmp .eq 5, 3) := by decide +kernel
theorem dL_law_2250 : decode cL_law 2250 = .ok (.iconst 0, 1) := by decide +kernel
theorem dL_law_2251 : decode cL_law 2251 = .ok (.ireturn, 1) := by decide +kernel
theorem dL_law_2252 : decode cL_law 2252 = .ok (.iload 6, 2) := by decide +kernel
theorem dL_law_2254 : decode cL_law 2254 = .ok (.ifCond .ne 15, 3) := by decide +kernel
theorem dL_law_2257 : decode cL_law 2257 = .ok (.aload_n 3, 1) := by decide +kernel
theorem dL_law_2258 : decode cL_law 2258 = .ok (.iconst 0, 1) := by decide +kernel
theorem dL_law_2259 : decode cL_law 2259 = .ok (.laload, 1) := by decide +kernel
theorem dL_law_2260 : decode cL_law 2260 = .ok (.iload 7, 2) := by decide +kernel
theorem dL_law_2262 : decode cL_law 2262 = .ok (.i2l, 1) := by decide +kernel
theorem dL_law_2263 : decode cL_law 2263 = .ok (.lcmp, 1) := by decide +kernel
theorem dL_law_2264 : decode cL_law 2264 = .ok (.ifCond .eq 5, 3) := by decide +kernel
theorem dL_law_2267 : decode cL_law 2267 = .ok (.iconst 0, 1) := by decide +kernel
theorem dL_law_2268 : decode cL_law 2268 = .ok (.ireturn, 1) := by decide +kernel
theorem dL_law_2269 : decode cL_law 2269 = .ok (.goto 1231, 3) := by decide +kernel
theorem dL_law_2272 : decode cL_law 2272 = .ok (.aload_n 1, 1) := by decide +kernel
theorem dL_law_2273 : decode cL_law 2273 = .ok (.aload_n 0, 1) := by decide +kernel
theorem dL_law_2274 : decode cL_law 2274 = .ok (.iload 5, 2) := by decide +kernel
theorem dL_law_2276 : decode cL_law 2276 = .ok (.iconst 1, 1) := by decide +kernel
theorem dL_law_2277 : decode cL_law 2277 = .ok (.iadd, 1) := by decide +kernel
theorem dL_law_2278 : decode cL_law 2278 = .ok (.iaload, 1) := by decide +kernel
theorem dL_law_2279 : decode cL_law 2279 = .ok (.aload_n 3, 1) := by decide +kernel
theorem dL_law_2280 : decode cL_law 2280 = .ok (.invokestatic 306, 3) := by decide +kernel
theorem dL_law_2283 : decode cL_law 2283 = .ok (.istore 6, 2) := by decide +kernel
theorem dL_law_2285 : decode cL_law 2285 = .ok (.aload_n 2, 1) := by decide +kernel
theorem dL_law_2286 : decode cL_law 2286 = .ok (.aload_n 0, 1) := by decide +kernel
theorem dL_law_2287 : decode cL_law 2287 = .ok (.iload 5, 2) := by decide +kernel
theorem dL_law_2289 : decode cL_law 2289 = .ok (.iconst 1, 1) := by decide +kernel
theorem dL_law_2290 : decode cL_law 2290 = .ok (.iadd, 1) := by decide +kernel
theorem dL_law_2291 : decode cL_law 2291 = .ok (.iaload, 1) := by decide +kernel
theorem dL_law_2292 : decode cL_law 2292 = .ok (.invokevirtual 308, 3) := by decide +kernel
theorem dL_law_2295 : decode cL_law 2295 = .ok (.istore 7, 2) := by decide +kernel
theorem dL_law_2297 : decode cL_law 2297 = .ok (.aload_n 2, 1) := by decide +kernel
theorem dL_law_2298 : decode cL_law 2298 = .ok (.invokevirtual 156, 3) := by decide +kernel
theorem dL_law_2301 : decode cL_law 2301 = .ok (.iload 6, 2) := by decide +kernel
theorem dL_law_2303 : decode cL_law 2303 = .ok (.if_icmp .eq 5, 3) := by decide +kernel
theorem dL_law_2306 : decode cL_law 2306 = .ok (.iconst 0, 1) := by decide +kernel
theorem dL_law_2307 : decode cL_law 2307 = .ok (.ireturn, 1) := by decide +kernel
theorem dL_law_2308 : decode cL_law 2308 = .ok (.iload 6, 2) := by decide +kernel
theorem dL_law_2310 : decode cL_law 2310 = .ok (.ifCond .ne 15, 3) := by decide +kernel
theorem dL_law_2313 : decode cL_law 2313 = .ok (.aload_n 3, 1) := by decide +kernel
theorem dL_law_2314 : decode cL_law 2314 = .ok (.iconst 0, 1) := by decide +kernel
theorem dL_law_2315 : decode cL_law 2315 = .ok (.laload, 1) := by decide +kernel
theorem dL_law_2316 : decode cL_law 2316 = .ok (.iload 7, 2) := by decide +kernel
theorem dL_law_2318 : decode cL_law 2318 = .ok (.i2l, 1) := by decide +kernel
theorem dL_law_2319 : decode cL_law 2319 = .ok (.lcmp, 1) := by decide +kernel
theorem dL_law_2320 : decode cL_law 2320 = .ok (.ifCond .eq 5, 3) := by decide +kernel
theorem dL_law_2323 : decode cL_law 2323 = .ok (.iconst 0, 1) := by decide +kernel
theorem dL_law_2324 : decode cL_law 2324 = .ok (.ireturn, 1) := by decide +kernel
theorem dL_law_2325 : decode cL_law 2325 = .ok (.goto 1175, 3) := by decide +kernel
theorem dL_law_2328 : decode cL_law 2328 = .ok (.aload_n 1, 1) := by decide +kernel
theorem dL_law_2329 : decode cL_law 2329 = .ok (.aload_n 0, 1) := by decide +kernel
theorem dL_law_2330 : decode cL_law 2330 = .ok (.iload 5, 2) := by decide +kernel
theorem dL_law_2332 : decode cL_law 2332 = .ok (.iconst 1, 1) := by decide +kernel
theorem dL_law_2333 : decode cL_law 2333 = .ok (.iadd, 1) := by decide +kernel
theorem dL_law_2334 : decode cL_law 2334 = .ok (.iaload, 1) := by decide +kernel
theorem dL_law_2335 : decode cL_law 2335 = .ok (.aload_n 3, 1) := by decide +kernel
theorem dL_law_2336 : decode cL_law 2336 = .ok (.invokestatic 309, 3) := by decide +kernel
theorem dL_law_2339 : decode cL_law 2339 = .ok (.istore 6, 2) := by decide +kernel
theorem dL_law_2341 : decode cL_law 2341 = .ok (.aload_n 2, 1) := by decide +kernel
theorem dL_law_2342 : decode cL_law 2342 = .ok (.aload_n 0, 1) := by decide +kernel
theorem dL_law_2343 : decode cL_law 2343 = .ok (.iload 5, 2) := by decide +kernel
theorem dL_law_2345 : decode cL_law 2345 = .ok (.iconst 1, 1) := by decide +kernel
theorem dL_law_2346 : decode cL_law 2346 = .ok (.iadd, 1) := by decide +kernel
theorem dL_law_2347 : decode cL_law 2347 = .ok (.iaload, 1) := by decide +kernel
theorem dL_law_2348 : decode cL_law 2348 = .ok (.invokevirtual 311, 3) := by decide +kernel
theorem dL_law_2351 : decode cL_law 2351 = .ok (.istore 7, 2) := by decide +kernel
theorem dL_law_2353 : decode cL_law 2353 = .ok (.aload_n 2, 1) := by decide +kernel
theorem dL_law_2354 : decode cL_law 2354 = .ok (.invokevirtual 156, 3) := by decide +kernel
theorem dL_law_2357 : decode cL_law 2357 = .ok (.iload 6, 2) := by decide +kernel
theorem dL_law_2359 : decode cL_law 2359 = .ok (.if_icmp .eq 5, 3) := by decide +kernel
theorem dL_law_2362 : decode cL_law 2362 = .ok (.iconst 0, 1) := by decide +kernel
theorem dL_law_2363 : decode cL_law 2363 = .ok (.ireturn, 1) := by decide +kernel
theorem dL_law_2364 : decode cL_law 2364 = .ok (.iload 6, 2) := by decide +kernel
theorem dL_law_2366 : decode cL_law 2366 = .ok (.ifCond .ne 15, 3) := by decide +kernel
theorem dL_law_2369 : decode cL_law 2369 = .ok (.aload_n 3, 1) := by decide +kernel
theorem dL_law_2370 : decode cL_law 2370 = .ok (.iconst 0, 1) := by decide +kernel
theorem dL_law_2371 : decode cL_law 2371 = .ok (.laload, 1) := by decide +kernel
theorem dL_law_2372 : decode cL_law 2372 = .ok (.iload 7, 2) := by decide +kernel
theorem dL_law_2374 : decode cL_law 2374 = .ok (.i2l, 1) := by decide +kernel
theorem dL_law_2375 : decode cL_law 2375 = .ok (.lcmp, 1) := by decide +kernel
theorem dL_law_2376 : decode cL_law 2376 = .ok (.ifCond .eq 5, 3) := by decide +kernel
theorem dL_law_2379 : decode cL_law 2379 = .ok (.iconst 0, 1) := by decide +kernel
theorem dL_law_2380 : decode cL_law 2380 = .ok (.ireturn, 1) := by decide +kernel
theorem dL_law_2381 : decode cL_law 2381 = .ok (.goto 1119, 3) := by decide +kernel
theorem dL_law_2384 : decode cL_law 2384 = .ok (.aload_n 1, 1) := by decide +kernel
theorem dL_law_2385 : decode cL_law 2385 = .ok (.invokevirtual 312, 3) := by decide +kernel
theorem dL_law_2388 : decode cL_law 2388 = .ok (.aload_n 2, 1) := by decide +kernel
theorem dL_law_2389 : decode cL_law 2389 = .ok (.invokevirtual 315, 3) := by decide +kernel
theorem dL_law_2392 : decode cL_law 2392 = .ok (.if_icmp .eq 1108, 3) := by decide +kernel
theorem dL_law_2395 : decode cL_law 2395 = .ok (.iconst 0, 1) := by decide +kernel
theorem dL_law_2396 : decode cL_law 2396 = .ok (.ireturn, 1) := by decide +kernel
theorem dL_law_2397 : decode cL_law 2397 = .ok (.aload_n 1, 1) := by decide +kernel
theorem dL_law_2398 : decode cL_law 2398 = .ok (.aload_n 0, 1) := by decide +kernel
theorem dL_law_2399 : decode cL_law 2399 = .ok (.iload 5, 2) := by decide +kernel
theorem dL_law_2401 : decode cL_law 2401 = .ok (.iconst 1, 1) := by decide +kernel
theorem dL_law_2402 : decode cL_law 2402 = .ok (.iadd, 1) := by decide +kernel
theorem dL_law_2403 : decode cL_law 2403 = .ok (.iaload, 1) := by decide +kernel
theorem dL_law_2404 : decode cL_law 2404 = .ok (.aload_n 0, 1) := by decide +kernel
theorem dL_law_2405 : decode cL_law 2405 = .ok (.iload 5, 2) := by decide +kernel
theorem dL_law_2407 : decode cL_law 2407 = .ok (.iconst 2, 1) := by decide +kernel
theorem dL_law_2408 : decode cL_law 2408 = .ok (.iadd, 1) := by decide +kernel
theorem dL_law_2409 : decode cL_law 2409 = .ok (.iaload, 1) := by decide +kernel
theorem dL_law_2410 : decode cL_law 2410 = .ok (.aload_n 0, 1) := by decide +kernel
theorem dL_law_2411 : decode cL_law 2411 = .ok (.iload 5, 2) := by decide +kernel
theorem dL_law_2413 : decode cL_law 2413 = .ok (.iconst 3, 1) := by decide +kernel
theorem dL_law_2414 : decode cL_law 2414 = .ok (.iadd, 1) := by decide +kernel
theorem dL_law_2415 : decode cL_law 2415 = .ok (.iaload, 1) := by decide +kernel
theorem dL_law_2416 : decode cL_law 2416 = .ok (.aload_n 3, 1) := by decide +kernel
theorem dL_law_2417 : decode cL_law 2417 = .ok (.invokestatic 316, 3) := by decide +kernel
theorem dL_law_2420 : decode cL_law 2420 = .ok (.istore 6, 2) := by decide +kernel
theorem dL_law_2422 : decode cL_law 2422 = .ok (.aload_n 2, 1) := by decide +kernel
theorem dL_law_2423 : decode cL_law 2423 = .ok (.aload_n 0, 1) := by decide +kernel
theorem dL_law_2424 : decode cL_law 2424 = .ok (.iload 5, 2) := by decide +kernel
theorem dL_law_2426 : decode cL_law 2426 = .ok (.iconst 1, 1) := by decide +kernel
theorem dL_law_2427 : decode cL_law 2427 = .ok (.iadd, 1) := by decide +kernel
theorem dL_law_2428 : decode cL_law 2428 = .ok (.iaload, 1) := by decide +kernel
theorem dL_law_2429 : decode cL_law 2429 = .ok (.aload_n 0, 1) := by decide +kernel
theorem dL_law_2430 : decode cL_law 2430 = .ok (.iload 5, 2) := by decide +kernel
theorem dL_law_2432 : decode cL_law 2432 = .ok (.iconst 2, 1) := by decide +kernel
theorem dL_law_2433 : decode cL_law 2433 = .ok (.iadd, 1) := by decide +kernel
theorem dL_law_2434 : decode cL_law 2434 = .ok (.iaload, 1) := by decide +kernel
theorem dL_law_2435 : decode cL_law 2435 = .ok (.aload_n 0, 1) := by decide +kernel
theorem dL_law_2436 : decode cL_law 2436 = .ok (.iload 5, 2) := by decide +kernel
theorem dL_law_2438 : decode cL_law 2438 = .ok (.iconst 3, 1) := by decide +kernel
theorem dL_law_2439 : decode cL_law 2439 = .ok (.iadd, 1) := by decide +kernel
theorem dL_law_2440 : decode cL_law 2440 = .ok (.iaload, 1) := by decide +kernel
theorem dL_law_2441 : decode cL_law 2441 = .ok (.invokevirtual 318, 3) := by decide +kernel
theorem dL_law_2444 : decode cL_law 2444 = .ok (.istore 7, 2) := by decide +kernel
theorem dL_law_2446 : decode cL_law 2446 = .ok (.aload_n 2, 1) := by decide +kernel
theorem dL_law_2447 : decode cL_law 2447 = .ok (.invokevirtual 156, 3) := by decide +kernel
theorem dL_law_2450 : decode cL_law 2450 = .ok (.iload 6, 2) := by decide +kernel
theorem dL_law_2452 : decode cL_law 2452 = .ok (.if_icmp .eq 5, 3) := by decide +kernel
theorem dL_law_2455 : decode cL_law 2455 = .ok (.iconst 0, 1) := by decide +kernel
theorem dL_law_2456 : decode cL_law 2456 = .ok (.ireturn, 1) := by decide +kernel
theorem dL_law_2457 : decode cL_law 2457 = .ok (.iload 6, 2) := by decide +kernel
theorem dL_law_2459 : decode cL_law 2459 = .ok (.ifCond .ne 15, 3) := by decide +kernel
theorem dL_law_2462 : decode cL_law 2462 = .ok (.aload_n 3, 1) := by decide +kernel
theorem dL_law_2463 : decode cL_law 2463 = .ok (.iconst 0, 1) := by decide +kernel
theorem dL_law_2464 : decode cL_law 2464 = .ok (.laload, 1) := by decide +kernel
theorem dL_law_2465 : decode cL_law 2465 = .ok (.iload 7, 2) := by decide +kernel
theorem dL_law_2467 : decode cL_law 2467 = .ok (.i2l, 1) := by decide +kernel
theorem dL_law_2468 : decode cL_law 2468 = .ok (.lcmp, 1) := by decide +kernel
theorem dL_law_2469 : decode cL_law 2469 = .ok (.ifCond .eq 5, 3) := by decide +kernel
theorem dL_law_2472 : decode cL_law 2472 = .ok (.iconst 0, 1) := by decide +kernel
theorem dL_law_2473 : decode cL_law 2473 = .ok (.ireturn, 1) := by decide +kernel
theorem dL_law_2474 : decode cL_law 2474 = .ok (.goto 1026, 3) := by decide +kernel
theorem dL_law_2477 : decode cL_law 2477 = .ok (.aload_n 1, 1) := by decide +kernel
theorem dL_law_2478 : decode cL_law 2478 = .ok (.aload_n 0, 1) := by decide +kernel
theorem dL_law_2479 : decode cL_law 2479 = .ok (.iload 5, 2) := by decide +kernel
theorem dL_law_2481 : decode cL_law 2481 = .ok (.iconst 1, 1) := by decide +kernel
theorem dL_law_2482 : decode cL_law 2482 = .ok (.iadd, 1) := by decide +kernel
theorem dL_law_2483 : decode cL_law 2483 = .ok (.iaload, 1) := by decide +kernel
theorem dL_law_2484 : decode cL_law 2484 = .ok (.aload_n 0, 1) := by decide +kernel
theorem dL_law_2485 : decode cL_law 2485 = .ok (.iload 5, 2) := by decide +kernel
theorem dL_law_2487 : decode cL_law 2487 = .ok (.iconst 2, 1) := by decide +kernel
theorem dL_law_2488 : decode cL_law 2488 = .ok (.iadd, 1) := by decide +kernel
theorem dL_law_2489 : decode cL_law 2489 = .ok (.iaload, 1) := by decide +kernel
theorem dL_law_2490 : decode cL_law 2490 = .ok (.aload_n 0, 1) := by decide +kernel
theorem dL_law_2491 : decode cL_law 2491 = .ok (.iload 5, 2) := by decide +kernel
theorem dL_law_2493 : decode cL_law 2493 = .ok (.iconst 3, 1) := by decide +kernel
theorem dL_law_2494 : decode cL_law 2494 = .ok (.iadd, 1) := by decide +kernel
theorem dL_law_2495 : decode cL_law 2495 = .ok (.iaload, 1) := by decide +kernel
theorem dL_law_2496 : decode cL_law 2496 = .ok (.aload_n 3, 1) := by decide +kernel
theorem dL_law_2497 : decode cL_law 2497 = .ok (.invokestatic 319, 3) := by decide +kernel
theorem dL_law_2500 : decode cL_law 2500 = .ok (.istore 6, 2) := by decide +kernel
theorem dL_law_2502 : decode cL_law 2502 = .ok (.aload_n 2, 1) := by decide +kernel
theorem dL_law_2503 : decode cL_law 2503 = .ok (.aload_n 0, 1) := by decide +kernel
theorem dL_law_2504 : decode cL_law 2504 = .ok (.iload 5, 2) := by decide +kernel
theorem dL_law_2506 : decode cL_law 2506 = .ok (.iconst 1, 1) := by decide +kernel
theorem dL_law_2507 : decode cL_law 2507 = .ok (.iadd, 1) := by decide +kernel
theorem dL_law_2508 : decode cL_law 2508 = .ok (.iaload, 1) := by decide +kernel
theorem dL_law_2509 : decode cL_law 2509 = .ok (.aload_n 0, 1) := by decide +kernel
theorem dL_law_2510 : decode cL_law 2510 = .ok (.iload 5, 2) := by decide +kernel
theorem dL_law_2512 : decode cL_law 2512 = .ok (.iconst 2, 1) := by decide +kernel
theorem dL_law_2513 : decode cL_law 2513 = .ok (.iadd, 1) := by decide +kernel
theorem dL_law_2514 : decode cL_law 2514 = .ok (.iaload, 1) := by decide +kernel
theorem dL_law_2515 : decode cL_law 2515 = .ok (.aload_n 0, 1) := by decide +kernel
theorem dL_law_2516 : decode cL_law 2516 = .ok (.iload 5, 2) := by decide +kernel
theorem dL_law_2518 : decode cL_law 2518 = .ok (.iconst 3, 1) := by decide +kernel
theorem dL_law_2519 : decode cL_law 2519 = .ok (.iadd, 1) := by decide +kernel
theorem dL_law_2520 : decode cL_law 2520 = .ok (.iaload, 1) := by decide +kernel
theorem dL_law_2521 : decode cL_law 2521 = .ok (.invokevirtual 321, 3) := by decide +kernel
theorem dL_law_2524 : decode cL_law 2524 = .ok (.istore 7, 2) := by decide +kernel
theorem dL_law_2526 : decode cL_law 2526 = .ok (.aload_n 2, 1) := by decide +kernel
theorem dL_law_2527 : decode cL_law 2527 = .ok (.invokevirtual 156, 3) := by decide +kernel
theorem dL_law_2530 : decode cL_law 2530 = .ok (.iload 6, 2) := by decide +kernel
theorem dL_law_2532 : decode cL_law 2532 = .ok (.if_icmp .eq 5, 3) := by decide +kernel
theorem dL_law_2535 : decode cL_law 2535 = .ok (.iconst 0, 1) := by decide +kernel
theorem dL_law_2536 : decode cL_law 2536 = .ok (.ireturn, 1) := by decide +kernel
theorem dL_law_2537 : decode cL_law 2537 = .ok (.iload 6, 2) := by decide +kernel
theorem dL_law_2539 : decode cL_law 2539 = .ok (.ifCond .ne 15, 3) := by decide +kernel
theorem dL_law_2542 : decode cL_law 2542 = .ok (.aload_n 3, 1) := by decide +kernel
theorem dL_law_2543 : decode cL_law 2543 = .ok (.iconst 0, 1) := by decide +kernel
theorem dL_law_2544 : decode cL_law 2544 = .ok (.laload, 1) := by decide +kernel
theorem dL_law_2545 : decode cL_law 2545 = .ok (.iload 7, 2) := by decide +kernel
theorem dL_law_2547 : decode cL_law 2547 = .ok (.i2l, 1) := by decide +kernel
theorem dL_law_2548 : decode cL_law 2548 = .ok (.lcmp, 1) := by decide +kernel
theorem dL_law_2549 : decode cL_law 2549 = .ok (.ifCond .eq 5, 3) := by decide +kernel
theorem dL_law_2552 : decode cL_law 2552 = .ok (.iconst 0, 1) := by decide +kernel
theorem dL_law_2553 : decode cL_law 2553 = .ok (.ireturn, 1) := by decide +kernel
theorem dL_law_2554 : decode cL_law 2554 = .ok (.goto 946, 3) := by decide +kernel
theorem dL_law_2557 : decode cL_law 2557 = .ok (.aload_n 1, 1) := by decide +kernel
theorem dL_law_2558 : decode cL_law 2558 = .ok (.aload_n 0, 1) := by decide +kernel
theorem dL_law_2559 : decode cL_law 2559 = .ok (.iload 5, 2) := by decide +kernel
theorem dL_law_2561 : decode cL_law 2561 = .ok (.iconst 1, 1) := by decide +kernel
theorem dL_law_2562 : decode cL_law 2562 = .ok (.iadd, 1) := by decide +kernel
theorem dL_law_2563 : decode cL_law 2563 = .ok (.iaload, 1) := by decide +kernel
theorem dL_law_2564 : decode cL_law 2564 = .ok (.aload_n 0, 1) := by decide +kernel
theorem dL_law_2565 : decode cL_law 2565 = .ok (.iload 5, 2) := by decide +kernel
theorem dL_law_2567 : decode cL_law 2567 = .ok (.iconst 2, 1) := by decide +kernel
theorem dL_law_2568 : decode cL_law 2568 = .ok (.iadd, 1) := by decide +kernel
theorem dL_law_2569 : decode cL_law 2569 = .ok (.iaload, 1) := by decide +kernel
theorem dL_law_2570 : decode cL_law 2570 = .ok (.aload_n 0, 1) := by decide +kernel
theorem dL_law_2571 : decode cL_law 2571 = .ok (.iload 5, 2) := by decide +kernel
theorem dL_law_2573 : decode cL_law 2573 = .ok (.iconst 3, 1) := by decide +kernel
theorem dL_law_2574 : decode cL_law 2574 = .ok (.iadd, 1) := by decide +kernel
theorem dL_law_2575 : decode cL_law 2575 = .ok (.iaload, 1) := by decide +kernel
theorem dL_law_2576 : decode cL_law 2576 = .ok (.aload_n 0, 1) := by decide +kernel
theorem dL_law_2577 : decode cL_law 2577 = .ok (.iload 5, 2) := by decide +kernel
theorem dL_law_2579 : decode cL_law 2579 = .ok (.iconst 4, 1) := by decide +kernel
theorem dL_law_2580 : decode cL_law 2580 = .ok (.iadd, 1) := by decide +kernel
theorem dL_law_2581 : decode cL_law 2581 = .ok (.iaload, 1) := by decide +kernel
theorem dL_law_2582 : decode cL_law 2582 = .ok (.aload_n 0, 1) := by decide +kernel
theorem dL_law_2583 : decode cL_law 2583 = .ok (.iload 5, 2) := by decide +kernel
theorem dL_law_2585 : decode cL_law 2585 = .ok (.iconst 5, 1) := by decide +kernel
theorem dL_law_2586 : decode cL_law 2586 = .ok (.iadd, 1) := by decide +kernel
theorem dL_law_2587 : decode cL_law 2587 = .ok (.iaload, 1) := by decide +kernel
theorem dL_law_2588 : decode cL_law 2588 = .ok (.aload_n 3, 1) := by decide +kernel
theorem dL_law_2589 : decode cL_law 2589 = .ok (.invokestatic 322, 3) := by decide +kernel
theorem dL_law_2592 : decode cL_law 2592 = .ok (.istore 6, 2) := by decide +kernel
theorem dL_law_2594 : decode cL_law 2594 = .ok (.aload_n 2, 1) := by decide +kernel
theorem dL_law_2595 : decode cL_law 2595 = .ok (.aload_n 0, 1) := by decide +kernel
theorem dL_law_2596 : decode cL_law 2596 = .ok (.iload 5, 2) := by decide +kernel
theorem dL_law_2598 : decode cL_law 2598 = .ok (.iconst 1, 1) := by decide +kernel
theorem dL_law_2599 : decode cL_law 2599 = .ok (.iadd, 1) := by decide +kernel
theorem dL_law_2600 : decode cL_law 2600 = .ok (.iaload, 1) := by decide +kernel
theorem dL_law_2601 : decode cL_law 2601 = .ok (.aload_n 0, 1) := by decide +kernel
theorem dL_law_2602 : decode cL_law 2602 = .ok (.iload 5, 2) := by decide +kernel
theorem dL_law_2604 : decode cL_law 2604 = .ok (.iconst 2, 1) := by decide +kernel
theorem dL_law_2605 : decode cL_law 2605 = .ok (.iadd, 1) := by decide +kernel
theorem dL_law_2606 : decode cL_law 2606 = .ok (.iaload, 1) := by decide +kernel
theorem dL_law_2607 : decode cL_law 2607 = .ok (.aload_n 0, 1) := by decide +kernel
theorem dL_law_2608 : decode cL_law 2608 = .ok (.iload 5, 2) := by decide +kernel
theorem dL_law_2610 : decode cL_law 2610 = .ok (.iconst 3, 1) := by decide +kernel
theorem dL_law_2611 : decode cL_law 2611 = .ok (.iadd, 1) := by decide +kernel
theorem dL_law_2612 : decode cL_law 2612 = .ok (.iaload, 1) := by decide +kernel
theorem dL_law_2613 : decode cL_law 2613 = .ok (.aload_n 0, 1) := by decide +kernel
theorem dL_law_2614 : decode cL_law 2614 = .ok (.iload 5, 2) := by decide +kernel
theorem dL_law_2616 : decode cL_law 2616 = .ok (.iconst 4, 1) := by decide +kernel
theorem dL_law_2617 : decode cL_law 2617 = .ok (.iadd, 1) := by decide +kernel
theorem dL_law_2618 : decode cL_law 2618 = .ok (.iaload, 1) := by decide +kernel
theorem dL_law_2619 : decode cL_law 2619 = .ok (.aload_n 0, 1) := by decide +kernel
theorem dL_law_2620 : decode cL_law 2620 = .ok (.iload 5, 2) := by decide +kernel
theorem dL_law_2622 : decode cL_law 2622 = .ok (.iconst 5, 1) := by decide +kernel
theorem dL_law_2623 : decode cL_law 2623 = .ok (.iadd, 1) := by decide +kernel
theorem dL_law_2624 : decode cL_law 2624 = .ok (.iaload, 1) := by decide +kernel
theorem dL_law_2625 : decode cL_law 2625 = .ok (.invokevirtual 324, 3) := by decide +kernel
theorem dL_law_2628 : decode cL_law 2628 = .ok (.istore 7, 2) := by decide +kernel
theorem dL_law_2630 : decode cL_law 2630 = .ok (.aload_n 2, 1) := by decide +kernel
theorem dL_law_2631 : decode cL_law 2631 = .ok (.invokevirtual 156, 3) := by decide +kernel
theorem dL_law_2634 : decode cL_law 2634 = .ok (.iload 6, 2) := by decide +kernel
theorem dL_law_2636 : decode cL_law 2636 = .ok (.if_icmp .eq 5, 3) := by decide +kernel
theorem dL_law_2639 : decode cL_law 2639 = .ok (.iconst 0, 1) := by decide +kernel
theorem dL_law_2640 : decode cL_law 2640 = .ok (.ireturn, 1) := by decide +kernel
theorem dL_law_2641 : decode cL_law 2641 = .ok (.iload 6, 2) := by decide +kernel
theorem dL_law_2643 : decode cL_law 2643 = .ok (.ifCond .ne 15, 3) := by decide +kernel
theorem dL_law_2646 : decode cL_law 2646 = .ok (.aload_n 3, 1) := by decide +kernel
theorem dL_law_2647 : decode cL_law 2647 = .ok (.iconst 0, 1) := by decide +kernel
theorem dL_law_2648 : decode cL_law 2648 = .ok (.laload, 1) := by decide +kernel
theorem dL_law_2649 : decode cL_law 2649 = .ok (.iload 7, 2) := by decide +kernel
theorem dL_law_2651 : decode cL_law 2651 = .ok (.i2l, 1) := by decide +kernel
theorem dL_law_2652 : decode cL_law 2652 = .ok (.lcmp, 1) := by decide +kernel
theorem dL_law_2653 : decode cL_law 2653 = .ok (.ifCond .eq 5, 3) := by decide +kernel
theorem dL_law_2656 : decode cL_law 2656 = .ok (.iconst 0, 1) := by decide +kernel
theorem dL_law_2657 : decode cL_law 2657 = .ok (.ireturn, 1) := by decide +kernel
theorem dL_law_2658 : decode cL_law 2658 = .ok (.goto 842, 3) := by decide +kernel
theorem dL_law_2661 : decode cL_law 2661 = .ok (.aload_n 1, 1) := by decide +kernel
theorem dL_law_2662 : decode cL_law 2662 = .ok (.invokevirtual 325, 3) := by decide +kernel
theorem dL_law_2665 : decode cL_law 2665 = .ok (.aload_n 2, 1) := by decide +kernel
theorem dL_law_2666 : decode cL_law 2666 = .ok (.invokevirtual 328, 3) := by decide +kernel
theorem dL_law_2669 : decode cL_law 2669 = .ok (.if_icmp .eq 831, 3) := by decide +kernel
theorem dL_law_2672 : decode cL_law 2672 = .ok (.iconst 0, 1) := by decide +kernel
theorem dL_law_2673 : decode cL_law 2673 = .ok (.ireturn, 1) := by decide +kernel
theorem dL_law_2674 : decode cL_law 2674 = .ok (.aload_n 1, 1) := by decide +kernel
theorem dL_law_2675 : decode cL_law 2675 = .ok (.invokevirtual 329, 3) := by decide +kernel
theorem dL_law_2678 : decode cL_law 2678 = .ok (.aload_n 2, 1) := by decide +kernel
theorem dL_law_2679 : decode cL_law 2679 = .ok (.invokevirtual 332, 3) := by decide +kernel
theorem dL_law_2682 : decode cL_law 2682 = .ok (.if_icmp .eq 818, 3) := by decide +kernel
theorem dL_law_2685 : decode cL_law 2685 = .ok (.iconst 0, 1) := by decide +kernel
theorem dL_law_2686 : decode cL_law 2686 = .ok (.ireturn, 1) := by decide +kernel
theorem dL_law_2687 : decode cL_law 2687 = .ok (.aload_n 1, 1) := by decide +kernel
theorem dL_law_2688 : decode cL_law 2688 = .ok (.invokevirtual 333, 3) := by decide +kernel
theorem dL_law_2691 : decode cL_law 2691 = .ok (.aload_n 2, 1) := by decide +kernel
theorem dL_law_2692 : decode cL_law 2692 = .ok (.invokevirtual 336, 3) := by decide +kernel
theorem dL_law_2695 : decode cL_law 2695 = .ok (.if_icmp .eq 805, 3) := by decide +kernel
theorem dL_law_2698 : decode cL_law 2698 = .ok (.iconst 0, 1) := by decide +kernel
theorem dL_law_2699 : decode cL_law 2699 = .ok (.ireturn, 1) := by decide +kernel
theorem dL_law_2700 : decode cL_law 2700 = .ok (.aload_n 1, 1) := by decide +kernel
theorem dL_law_2701 : decode cL_law 2701 = .ok (.aload_n 0, 1) := by decide +kernel
theorem dL_law_2702 : decode cL_law 2702 = .ok (.iload 5, 2) := by decide +kernel
theorem dL_law_2704 : decode cL_law 2704 = .ok (.iconst 1, 1) := by decide +kernel
theorem dL_law_2705 : decode cL_law 2705 = .ok (.iadd, 1) := by decide +kernel
theorem dL_law_2706 : decode cL_law 2706 = .ok (.iaload, 1) := by decide +kernel
theorem dL_law_2707 : decode cL_law 2707 = .ok (.aload_n 3, 1) := by decide +kernel
theorem dL_law_2708 : decode cL_law 2708 = .ok (.invokestatic 337, 3) := by decide +kernel
theorem dL_law_2711 : decode cL_law 2711 = .ok (.istore 6, 2) := by decide +kernel
theorem dL_law_2713 : decode cL_law 2713 = .ok (.aload_n 2, 1) := by decide +kernel
theorem dL_law_2714 : decode cL_law 2714 = .ok (.aload_n 0, 1) := by decide +kernel
theorem dL_law_2715 : decode cL_law 2715 = .ok (.iload 5, 2) := by decide +kernel
theorem dL_law_2717 : decode cL_law 2717 = .ok (.iconst 1, 1) := by decide +kernel
theorem dL_law_2718 : decode cL_law 2718 = .ok (.iadd, 1) := by decide +kernel
theorem dL_law_2719 : decode cL_law 2719 = .ok (.iaload, 1) := by decide +kernel
theorem dL_law_2720 : decode cL_law 2720 = .ok (.invokevirtual 339, 3) := by decide +kernel
theorem dL_law_2723 : decode cL_law 2723 = .ok (.istore 7, 2) := by decide +kernel
theorem dL_law_2725 : decode cL_law 2725 = .ok (.aload_n 2, 1) := by decide +kernel
theorem dL_law_2726 : decode cL_law 2726 = .ok (.invokevirtual 156, 3) := by decide +kernel
theorem dL_law_2729 : decode cL_law 2729 = .ok (.iload 6, 2) := by decide +kernel
theorem dL_law_2731 : decode cL_law 2731 = .ok (.if_icmp .eq 5, 3) := by decide +kernel
theorem dL_law_2734 : decode cL_law 2734 = .ok (.iconst 0, 1) := by decide +kernel
theorem dL_law_2735 : decode cL_law 2735 = .ok (.ireturn, 1) := by decide +kernel
theorem dL_law_2736 : decode cL_law 2736 = .ok (.iload 6, 2) := by decide +kernel
theorem dL_law_2738 : decode cL_law 2738 = .ok (.ifCond .ne 15, 3) := by decide +kernel
theorem dL_law_2741 : decode cL_law 2741 = .ok (.aload_n 3, 1) := by decide +kernel
theorem dL_law_2742 : decode cL_law 2742 = .ok (.iconst 0, 1) := by decide +kernel
theorem dL_law_2743 : decode cL_law 2743 = .ok (.laload, 1) := by decide +kernel
theorem dL_law_2744 : decode cL_law 2744 = .ok (.iload 7, 2) := by decide +kernel
theorem dL_law_2746 : decode cL_law 2746 = .ok (.i2l, 1) := by decide +kernel
theorem dL_law_2747 : decode cL_law 2747 = .ok (.lcmp, 1) := by decide +kernel
theorem dL_law_2748 : decode cL_law 2748 = .ok (.ifCond .eq 5, 3) := by decide +kernel
theorem dL_law_2751 : decode cL_law 2751 = .ok (.iconst 0, 1) := by decide +kernel
theorem dL_law_2752 : decode cL_law 2752 = .ok (.ireturn, 1) := by decide +kernel
theorem dL_law_2753 : decode cL_law 2753 = .ok (.goto 747, 3) := by decide +kernel
theorem dL_law_2756 : decode cL_law 2756 = .ok (.aload_n 1, 1) := by decide +kernel
theorem dL_law_2757 : decode cL_law 2757 = .ok (.invokevirtual 340, 3) := by decide +kernel
theorem dL_law_2760 : decode cL_law 2760 = .ok (.aload_n 2, 1) := by decide +kernel
theorem dL_law_2761 : decode cL_law 2761 = .ok (.invokevirtual 343, 3) := by decide +kernel
theorem dL_law_2764 : decode cL_law 2764 = .ok (.if_icmp .eq 736, 3) := by decide +kernel
theorem dL_law_2767 : decode cL_law 2767 = .ok (.iconst 0, 1) := by decide +kernel
theorem dL_law_2768 : decode cL_law 2768 = .ok (.ireturn, 1) := by decide +kernel
theorem dL_law_2769 : decode cL_law 2769 = .ok (.aload_n 1, 1) := by decide +kernel
theorem dL_law_2770 : decode cL_law 2770 = .ok (.aload_n 0, 1) := by decide +kernel
theorem dL_law_2771 : decode cL_law 2771 = .ok (.iload 5, 2) := by decide +kernel
theorem dL_law_2773 : decode cL_law 2773 = .ok (.iconst 1, 1) := by decide +kernel
theorem dL_law_2774 : decode cL_law 2774 = .ok (.iadd, 1) := by decide +kernel
theorem dL_law_2775 : decode cL_law 2775 = .ok (.iaload, 1) := by decide +kernel
theorem dL_law_2776 : decode cL_law 2776 = .ok (.aload_n 0, 1) := by decide +kernel
theorem dL_law_2777 : decode cL_law 2777 = .ok (.iload 5, 2) := by decide +kernel
theorem dL_law_2779 : decode cL_law 2779 = .ok (.iconst 2, 1) := by decide +kernel
theorem dL_law_2780 : decode cL_law 2780 = .ok (.iadd, 1) := by decide +kernel
theorem dL_law_2781 : decode cL_law 2781 = .ok (.iaload, 1) := by decide +kernel
theorem dL_law_2782 : decode cL_law 2782 = .ok (.aload_n 0, 1) := by decide +kernel
theorem dL_law_2783 : decode cL_law 2783 = .ok (.iload 5, 2) := by decide +kernel
theorem dL_law_2785 : decode cL_law 2785 = .ok (.iconst 3, 1) := by decide +kernel
theorem dL_law_2786 : decode cL_law 2786 = .ok (.iadd, 1) := by decide +kernel
theorem dL_law_2787 : decode cL_law 2787 = .ok (.iaload, 1) := by decide +kernel
theorem dL_law_2788 : decode cL_law 2788 = .ok (.aload_n 0, 1) := by decide +kernel
theorem dL_law_2789 : decode cL_law 2789 = .ok (.iload 5, 2) := by decide +kernel
theorem dL_law_2791 : decode cL_law 2791 = .ok (.iconst 4, 1) := by decide +kernel
theorem dL_law_2792 : decode cL_law 2792 = .ok (.iadd, 1) := by decide +kernel
theorem dL_law_2793 : decode cL_law 2793 = .ok (.iaload, 1) := by decide +kernel
theorem dL_law_2794 : decode cL_law 2794 = .ok (.aload_n 0, 1) := by decide +kernel
theorem dL_law_2795 : decode cL_law 2795 = .ok (.iload 5, 2) := by decide +kernel
theorem dL_law_2797 : decode cL_law 2797 = .ok (.iconst 5, 1) := by decide +kernel
theorem dL_law_2798 : decode cL_law 2798 = .ok (.iadd, 1) := by decide +kernel
theorem dL_law_2799 : decode cL_law 2799 = .ok (.iaload, 1) := by decide +kernel
theorem dL_law_2800 : decode cL_law 2800 = .ok (.aload_n 3, 1) := by decide +kernel
theorem dL_law_2801 : decode cL_law 2801 = .ok (.invokestatic 344, 3) := by decide +kernel
theorem dL_law_2804 : decode cL_law 2804 = .ok (.istore 6, 2) := by decide +kernel
theorem dL_law_2806 : decode cL_law 2806 = .ok (.aload_n 2, 1) := by decide +kernel
theorem dL_law_2807 : decode cL_law 2807 = .ok (.aload_n 0, 1) := by decide +kernel
theorem dL_law_2808 : decode cL_law 2808 = .ok (.iload 5, 2) := by decide +kernel
theorem dL_law_2810 : decode cL_law 2810 = .ok (.iconst 1, 1) := by decide +kernel
theorem dL_law_2811 : decode cL_law 2811 = .ok (.iadd, 1) := by decide +kernel
theorem dL_law_2812 : decode cL_law 2812 = .ok (.iaload, 1) := by decide +kernel
theorem dL_law_2813 : decode cL_law 2813 = .ok (.aload_n 0, 1) := by decide +kernel
theorem dL_law_2814 : decode cL_law 2814 = .ok (.iload 5, 2) := by decide +kernel
theorem dL_law_2816 : decode cL_law 2816 = .ok (.iconst 2, 1) := by decide +kernel
theorem dL_law_2817 : decode cL_law 2817 = .ok (.iadd, 1) := by decide +kernel
theorem dL_law_2818 : decode cL_law 2818 = .ok (.iaload, 1) := by decide +kernel
theorem dL_law_2819 : decode cL_law 2819 = .ok (.aload_n 0, 1) := by decide +kernel
theorem dL_law_2820 : decode cL_law 2820 = .ok (.iload 5, 2) := by decide +kernel
theorem dL_law_2822 : decode cL_law 2822 = .ok (.iconst 3, 1) := by decide +kernel
theorem dL_law_2823 : decode cL_law 2823 = .ok (.iadd, 1) := by decide +kernel
theorem dL_law_2824 : decode cL_law 2824 = .ok (.iaload, 1) := by decide +kernel
theorem dL_law_2825 : decode cL_law 2825 = .ok (.aload_n 0, 1) := by decide +kernel
theorem dL_law_2826 : decode cL_law 2826 = .ok (.iload 5, 2) := by decide +kernel
theorem dL_law_2828 : decode cL_law 2828 = .ok (.iconst 4, 1) := by decide +kernel
theorem dL_law_2829 : decode cL_law 2829 = .ok (.iadd, 1) := by decide +kernel
theorem dL_law_2830 : decode cL_law 2830 = .ok (.iaload, 1) := by decide +kernel
theorem dL_law_2831 : decode cL_law 2831 = .ok (.aload_n 0, 1) := by decide +kernel
theorem dL_law_2832 : decode cL_law 2832 = .ok (.iload 5, 2) := by decide +kernel
theorem dL_law_2834 : decode cL_law 2834 = .ok (.iconst 5, 1) := by decide +kernel
theorem dL_law_2835 : decode cL_law 2835 = .ok (.iadd, 1) := by decide +kernel
theorem dL_law_2836 : decode cL_law 2836 = .ok (.iaload, 1) := by decide +kernel
theorem dL_law_2837 : decode cL_law 2837 = .ok (.invokevirtual 346, 3) := by decide +kernel
theorem dL_law_2840 : decode cL_law 2840 = .ok (.istore 7, 2) := by decide +kernel
theorem dL_law_2842 : decode cL_law 2842 = .ok (.aload_n 2, 1) := by decide +kernel
theorem dL_law_2843 : decode cL_law 2843 = .ok (.invokevirtual 156, 3) := by decide +kernel
theorem dL_law_2846 : decode cL_law 2846 = .ok (.iload 6, 2) := by decide +kernel
theorem dL_law_2848 : decode cL_law 2848 = .ok (.if_icmp .eq 5, 3) := by decide +kernel
theorem dL_law_2851 : decode cL_law 2851 = .ok (.iconst 0, 1) := by decide +kernel
theorem dL_law_2852 : decode cL_law 2852 = .ok (.ireturn, 1) := by decide +kernel
theorem dL_law_2853 : decode cL_law 2853 = .ok (.iload 6, 2) := by decide +kernel
theorem dL_law_2855 : decode cL_law 2855 = .ok (.ifCond .ne 22, 3) := by decide +kernel
theorem dL_law_2858 : decode cL_law 2858 = .ok (.aload_n 3, 1) := by decide +kernel
theorem dL_law_2859 : decode cL_law 2859 = .ok (.iconst 0, 1) := by decide +kernel
theorem dL_law_2860 : decode cL_law 2860 = .ok (.laload, 1) := by decide +kernel
theorem dL_law_2861 : decode cL_law 2861 = .ok (.iload 7, 2) := by decide +kernel
theorem dL_law_2863 : decode cL_law 2863 = .ok (.ifCond .eq 7, 3) := by decide +kernel
theorem dL_law_2866 : decode cL_law 2866 = .ok (.lconst 1, 1) := by decide +kernel
theorem dL_law_2867 : decode cL_law 2867 = .ok (.goto 4, 3) := by decide +kernel
theorem dL_law_2870 : decode cL_law 2870 = .ok (.lconst 0, 1) := by decide +kernel
theorem dL_law_2871 : decode cL_law 2871 = .ok (.lcmp, 1) := by decide +kernel
theorem dL_law_2872 : decode cL_law 2872 = .ok (.ifCond .eq 5, 3) := by decide +kernel
theorem dL_law_2875 : decode cL_law 2875 = .ok (.iconst 0, 1) := by decide +kernel
theorem dL_law_2876 : decode cL_law 2876 = .ok (.ireturn, 1) := by decide +kernel
theorem dL_law_2877 : decode cL_law 2877 = .ok (.goto 623, 3) := by decide +kernel
theorem dL_law_2880 : decode cL_law 2880 = .ok (.aload_n 1, 1) := by decide +kernel
theorem dL_law_2881 : decode cL_law 2881 = .ok (.aload_n 0, 1) := by decide +kernel
theorem dL_law_2882 : decode cL_law 2882 = .ok (.iload 5, 2) := by decide +kernel
theorem dL_law_2884 : decode cL_law 2884 = .ok (.iconst 1, 1) := by decide +kernel
theorem dL_law_2885 : decode cL_law 2885 = .ok (.iadd, 1) := by decide +kernel
theorem dL_law_2886 : decode cL_law 2886 = .ok (.iaload, 1) := by decide +kernel
theorem dL_law_2887 : decode cL_law 2887 = .ok (.aload_n 0, 1) := by decide +kernel
theorem dL_law_2888 : decode cL_law 2888 = .ok (.iload 5, 2) := by decide +kernel
theorem dL_law_2890 : decode cL_law 2890 = .ok (.iconst 2, 1) := by decide +kernel
theorem dL_law_2891 : decode cL_law 2891 = .ok (.iadd, 1) := by decide +kernel
theorem dL_law_2892 : decode cL_law 2892 = .ok (.iaload, 1) := by decide +kernel
theorem dL_law_2893 : decode cL_law 2893 = .ok (.aload_n 3, 1) := by decide +kernel
theorem dL_law_2894 : decode cL_law 2894 = .ok (.invokestatic 347, 3) := by decide +kernel
theorem dL_law_2897 : decode cL_law 2897 = .ok (.istore 6, 2) := by decide +kernel
theorem dL_law_2899 : decode cL_law 2899 = .ok (.aload_n 2, 1) := by decide +kernel
theorem dL_law_2900 : decode cL_law 2900 = .ok (.aload_n 0, 1) := by decide +kernel
theorem dL_law_2901 : decode cL_law 2901 = .ok (.iload 5, 2) := by decide +kernel
theorem dL_law_2903 : decode cL_law 2903 = .ok (.iconst 1, 1) := by decide +kernel
theorem dL_law_2904 : decode cL_law 2904 = .ok (.iadd, 1) := by decide +kernel
theorem dL_law_2905 : decode cL_law 2905 = .ok (.iaload, 1) := by decide +kernel
theorem dL_law_2906 : decode cL_law 2906 = .ok (.aload_n 0, 1) := by decide +kernel
theorem dL_law_2907 : decode cL_law 2907 = .ok (.iload 5, 2) := by decide +kernel
theorem dL_law_2909 : decode cL_law 2909 = .ok (.iconst 2, 1) := by decide +kernel
theorem dL_law_2910 : decode cL_law 2910 = .ok (.iadd, 1) := by decide +kernel
theorem dL_law_2911 : decode cL_law 2911 = .ok (.iaload, 1) := by decide +kernel
theorem dL_law_2912 : decode cL_law 2912 = .ok (.invokevirtual 349, 3) := by decide +kernel
theorem dL_law_2915 : decode cL_law 2915 = .ok (.istore 7, 2) := by decide +kernel
theorem dL_law_2917 : decode cL_law 2917 = .ok (.aload_n 2, 1) := by decide +kernel
theorem dL_law_2918 : decode cL_law 2918 = .ok (.invokevirtual 156, 3) := by decide +kernel
theorem dL_law_2921 : decode cL_law 2921 = .ok (.iload 6, 2) := by decide +kernel
theorem dL_law_2923 : decode cL_law 2923 = .ok (.if_icmp .eq 5, 3) := by decide +kernel
theorem dL_law_2926 : decode cL_law 2926 = .ok (.iconst 0, 1) := by decide +kernel
theorem dL_law_2927 : decode cL_law 2927 = .ok (.ireturn, 1) := by decide +kernel
theorem dL_law_2928 : decode cL_law 2928 = .ok (.iload 6, 2) := by decide +kernel
theorem dL_law_2930 : decode cL_law 2930 = .ok (.ifCond .ne 22, 3) := by decide +kernel
theorem dL_law_2933 : decode cL_law 2933 = .ok (.aload_n 3, 1) := by decide +kernel
theorem dL_law_2934 : decode cL_law 2934 = .ok (.iconst 0, 1) := by decide +kernel
theorem dL_law_2935 : decode cL_law 2935 = .ok (.laload, 1) := by decide +kernel
theorem dL_law_2936 : decode cL_law 2936 = .ok (.iload 7, 2) := by decide +kernel
theorem dL_law_2938 : decode cL_law 2938 = .ok (.ifCond .eq 7, 3) := by decide +kernel
theorem dL_law_2941 : decode cL_law 2941 = .ok (.lconst 1, 1) := by decide +kernel
theorem dL_law_2942 : decode cL_law 2942 = .ok (.goto 4, 3) := by decide +kernel
theorem dL_law_2945 : decode cL_law 2945 = .ok (.lconst 0, 1) := by decide +kernel
theorem dL_law_2946 : decode cL_law 2946 = .ok (.lcmp, 1) := by decide +kernel
theorem dL_law_2947 : decode cL_law 2947 = .ok (.ifCond .eq 5, 3) := by decide +kernel
theorem dL_law_2950 : decode cL_law 2950 = .ok (.iconst 0, 1) := by decide +kernel
theorem dL_law_2951 : decode cL_law 2951 = .ok (.ireturn, 1) := by decide +kernel
theorem dL_law_2952 : decode cL_law 2952 = .ok (.goto 548, 3) := by decide +kernel
theorem dL_law_2955 : decode cL_law 2955 = .ok (.aload_n 1, 1) := by decide +kernel
theorem dL_law_2956 : decode cL_law 2956 = .ok (.aload_n 0, 1) := by decide +kernel
theorem dL_law_2957 : decode cL_law 2957 = .ok (.iload 5, 2) := by decide +kernel
theorem dL_law_2959 : decode cL_law 2959 = .ok (.iconst 1, 1) := by decide +kernel
theorem dL_law_2960 : decode cL_law 2960 = .ok (.iadd, 1) := by decide +kernel
theorem dL_law_2961 : decode cL_law 2961 = .ok (.iaload, 1) := by decide +kernel
theorem dL_law_2962 : decode cL_law 2962 = .ok (.aload_n 0, 1) := by decide +kernel
theorem dL_law_2963 : decode cL_law 2963 = .ok (.iload 5, 2) := by decide +kernel
theorem dL_law_2965 : decode cL_law 2965 = .ok (.iconst 2, 1) := by decide +kernel
theorem dL_law_2966 : decode cL_law 2966 = .ok (.iadd, 1) := by decide +kernel
theorem dL_law_2967 : decode cL_law 2967 = .ok (.iaload, 1) := by decide +kernel
theorem dL_law_2968 : decode cL_law 2968 = .ok (.aload_n 3, 1) := by decide +kernel
theorem dL_law_2969 : decode cL_law 2969 = .ok (.invokestatic 350, 3) := by decide +kernel
theorem dL_law_2972 : decode cL_law 2972 = .ok (.istore 6, 2) := by decide +kernel
theorem dL_law_2974 : decode cL_law 2974 = .ok (.aload_n 2, 1) := by decide +kernel
theorem dL_law_2975 : decode cL_law 2975 = .ok (.aload_n 0, 1) := by decide +kernel
theorem dL_law_2976 : decode cL_law 2976 = .ok (.iload 5, 2) := by decide +kernel
theorem dL_law_2978 : decode cL_law 2978 = .ok (.iconst 1, 1) := by decide +kernel
theorem dL_law_2979 : decode cL_law 2979 = .ok (.iadd, 1) := by decide +kernel
theorem dL_law_2980 : decode cL_law 2980 = .ok (.iaload, 1) := by decide +kernel
theorem dL_law_2981 : decode cL_law 2981 = .ok (.aload_n 0, 1) := by decide +kernel
theorem dL_law_2982 : decode cL_law 2982 = .ok (.iload 5, 2) := by decide +kernel
theorem dL_law_2984 : decode cL_law 2984 = .ok (.iconst 2, 1) := by decide +kernel
theorem dL_law_2985 : decode cL_law 2985 = .ok (.iadd, 1) := by decide +kernel
theorem dL_law_2986 : decode cL_law 2986 = .ok (.iaload, 1) := by decide +kernel
theorem dL_law_2987 : decode cL_law 2987 = .ok (.invokevirtual 352, 3) := by decide +kernel
theorem dL_law_2990 : decode cL_law 2990 = .ok (.istore 7, 2) := by decide +kernel
theorem dL_law_2992 : decode cL_law 2992 = .ok (.aload_n 2, 1) := by decide +kernel
theorem dL_law_2993 : decode cL_law 2993 = .ok (.invokevirtual 156, 3) := by decide +kernel
theorem dL_law_2996 : decode cL_law 2996 = .ok (.iload 6, 2) := by decide +kernel
theorem dL_law_2998 : decode cL_law 2998 = .ok (.if_icmp .eq 5, 3) := by decide +kernel
theorem dL_law_3001 : decode cL_law 3001 = .ok (.iconst 0, 1) := by decide +kernel
theorem dL_law_3002 : decode cL_law 3002 = .ok (.ireturn, 1) := by decide +kernel
theorem dL_law_3003 : decode cL_law 3003 = .ok (.iload 6, 2) := by decide +kernel
theorem dL_law_3005 : decode cL_law 3005 = .ok (.ifCond .ne 15, 3) := by decide +kernel
theorem dL_law_3008 : decode cL_law 3008 = .ok (.aload_n 3, 1) := by decide +kernel
theorem dL_law_3009 : decode cL_law 3009 = .ok (.iconst 0, 1) := by decide +kernel
theorem dL_law_3010 : decode cL_law 3010 = .ok (.laload, 1) := by decide +kernel
theorem dL_law_3011 : decode cL_law 3011 = .ok (.iload 7, 2) := by decide +kernel
theorem dL_law_3013 : decode cL_law 3013 = .ok (.i2l, 1) := by decide +kernel
theorem dL_law_3014 : decode cL_law 3014 = .ok (.lcmp, 1) := by decide +kernel
theorem dL_law_3015 : decode cL_law 3015 = .ok (.ifCond .eq 5, 3) := by decide +kernel
theorem dL_law_3018 : decode cL_law 3018 = .ok (.iconst 0, 1) := by decide +kernel
theorem dL_law_3019 : decode cL_law 3019 = .ok (.ireturn, 1) := by decide +kernel
theorem dL_law_3020 : decode cL_law 3020 = .ok (.goto 480, 3) := by decide +kernel
theorem dL_law_3023 : decode cL_law 3023 = .ok (.aload_n 1, 1) := by decide +kernel
theorem dL_law_3024 : decode cL_law 3024 = .ok (.aload_n 0, 1) := by decide +kernel
theorem dL_law_3025 : decode cL_law 3025 = .ok (.iload 5, 2) := by decide +kernel
theorem dL_law_3027 : decode cL_law 3027 = .ok (.iconst 1, 1) := by decide +kernel
theorem dL_law_3028 : decode cL_law 3028 = .ok (.iadd, 1) := by decide +kernel
theorem dL_law_3029 : decode cL_law 3029 = .ok (.iaload, 1) := by decide +kernel
theorem dL_law_3030 : decode cL_law 3030 = .ok (.aload_n 0, 1) := by decide +kernel
theorem dL_law_3031 : decode cL_law 3031 = .ok (.iload 5, 2) := by decide +kernel
theorem dL_law_3033 : decode cL_law 3033 = .ok (.iconst 2, 1) := by decide +kernel
theorem dL_law_3034 : decode cL_law 3034 = .ok (.iadd, 1) := by decide +kernel
theorem dL_law_3035 : decode cL_law 3035 = .ok (.iaload, 1) := by decide +kernel
theorem dL_law_3036 : decode cL_law 3036 = .ok (.aload_n 0, 1) := by decide +kernel
theorem dL_law_3037 : decode cL_law 3037 = .ok (.iload 5, 2) := by decide +kernel
theorem dL_law_3039 : decode cL_law 3039 = .ok (.iconst 3, 1) := by decide +kernel
theorem dL_law_3040 : decode cL_law 3040 = .ok (.iadd, 1) := by decide +kernel
theorem dL_law_3041 : decode cL_law 3041 = .ok (.iaload, 1) := by decide +kernel
theorem dL_law_3042 : decode cL_law 3042 = .ok (.aload_n 0, 1) := by decide +kernel
theorem dL_law_3043 : decode cL_law 3043 = .ok (.iload 5, 2) := by decide +kernel
theorem dL_law_3045 : decode cL_law 3045 = .ok (.iconst 4, 1) := by decide +kernel
theorem dL_law_3046 : decode cL_law 3046 = .ok (.iadd, 1) := by decide +kernel
theorem dL_law_3047 : decode cL_law 3047 = .ok (.iaload, 1) := by decide +kernel
theorem dL_law_3048 : decode cL_law 3048 = .ok (.aload_n 3, 1) := by decide +kernel
theorem dL_law_3049 : decode cL_law 3049 = .ok (.invokestatic 353, 3) := by decide +kernel
theorem dL_law_3052 : decode cL_law 3052 = .ok (.istore 6, 2) := by decide +kernel
theorem dL_law_3054 : decode cL_law 3054 = .ok (.aload_n 2, 1) := by decide +kernel
theorem dL_law_3055 : decode cL_law 3055 = .ok (.aload_n 0, 1) := by decide +kernel
theorem dL_law_3056 : decode cL_law 3056 = .ok (.iload 5, 2) := by decide +kernel
theorem dL_law_3058 : decode cL_law 3058 = .ok (.iconst 1, 1) := by decide +kernel
theorem dL_law_3059 : decode cL_law 3059 = .ok (.iadd, 1) := by decide +kernel
theorem dL_law_3060 : decode cL_law 3060 = .ok (.iaload, 1) := by decide +kernel
theorem dL_law_3061 : decode cL_law 3061 = .ok (.aload_n 0, 1) := by decide +kernel
theorem dL_law_3062 : decode cL_law 3062 = .ok (.iload 5, 2) := by decide +kernel
theorem dL_law_3064 : decode cL_law 3064 = .ok (.iconst 2, 1) := by decide +kernel
theorem dL_law_3065 : decode cL_law 3065 = .ok (.iadd, 1) := by decide +kernel
theorem dL_law_3066 : decode cL_law 3066 = .ok (.iaload, 1) := by decide +kernel
theorem dL_law_3067 : decode cL_law 3067 = .ok (.aload_n 0, 1) := by decide +kernel
theorem dL_law_3068 : decode cL_law 3068 = .ok (.iload 5, 2) := by decide +kernel
theorem dL_law_3070 : decode cL_law 3070 = .ok (.iconst 3, 1) := by decide +kernel
theorem dL_law_3071 : decode cL_law 3071 = .ok (.iadd, 1) := by decide +kernel
theorem dL_law_3072 : decode cL_law 3072 = .ok (.iaload, 1) := by decide +kernel
theorem dL_law_3073 : decode cL_law 3073 = .ok (.aload_n 0, 1) := by decide +kernel
theorem dL_law_3074 : decode cL_law 3074 = .ok (.iload 5, 2) := by decide +kernel
theorem dL_law_3076 : decode cL_law 3076 = .ok (.iconst 4, 1) := by decide +kernel
theorem dL_law_3077 : decode cL_law 3077 = .ok (.iadd, 1) := by decide +kernel
theorem dL_law_3078 : decode cL_law 3078 = .ok (.iaload, 1) := by decide +kernel
theorem dL_law_3079 : decode cL_law 3079 = .ok (.invokevirtual 356, 3) := by decide +kernel
theorem dL_law_3082 : decode cL_law 3082 = .ok (.istore 7, 2) := by decide +kernel
theorem dL_law_3084 : decode cL_law 3084 = .ok (.aload_n 2, 1) := by decide +kernel
theorem dL_law_3085 : decode cL_law 3085 = .ok (.invokevirtual 156, 3) := by decide +kernel
theorem dL_law_3088 : decode cL_law 3088 = .ok (.iload 6, 2) := by decide +kernel
theorem dL_law_3090 : decode cL_law 3090 = .ok (.if_icmp .eq 5, 3) := by decide +kernel
theorem dL_law_3093 : decode cL_law 3093 = .ok (.iconst 0, 1) := by decide +kernel
theorem dL_law_3094 : decode cL_law 3094 = .ok (.ireturn, 1) := by decide +kernel
theorem dL_law_3095 : decode cL_law 3095 = .ok (.iload 6, 2) := by decide +kernel
theorem dL_law_3097 : decode cL_law 3097 = .ok (.ifCond .ne 22, 3) := by decide +kernel
theorem dL_law_3100 : decode cL_law 3100 = .ok (.aload_n 3, 1) := by decide +kernel
theorem dL_law_3101 : decode cL_law 3101 = .ok (.iconst 0, 1) := by decide +kernel
theorem dL_law_3102 : decode cL_law 3102 = .ok (.laload, 1) := by decide +kernel
theorem dL_law_3103 : decode cL_law 3103 = .ok (.iload 7, 2) := by decide +kernel
theorem dL_law_3105 : decode cL_law 3105 = .ok (.ifCond .eq 7, 3) := by decide +kernel
theorem dL_law_3108 : decode cL_law 3108 = .ok (.lconst 1, 1) := by decide +kernel
theorem dL_law_3109 : decode cL_law 3109 = .ok (.goto 4, 3) := by decide +kernel
theorem dL_law_3112 : decode cL_law 3112 = .ok (.lconst 0, 1) := by decide +kernel
theorem dL_law_3113 : decode cL_law 3113 = .ok (.lcmp, 1) := by decide +kernel
theorem dL_law_3114 : decode cL_law 3114 = .ok (.ifCond .eq 5, 3) := by decide +kernel
theorem dL_law_3117 : decode cL_law 3117 = .ok (.iconst 0, 1) := by decide +kernel
theorem dL_law_3118 : decode cL_law 3118 = .ok (.ireturn, 1) := by decide +kernel
theorem dL_law_3119 : decode cL_law 3119 = .ok (.goto 381, 3) := by decide +kernel
theorem dL_law_3122 : decode cL_law 3122 = .ok (.aload_n 1, 1) := by decide +kernel
theorem dL_law_3123 : decode cL_law 3123 = .ok (.aload_n 0, 1) := by decide +kernel
theorem dL_law_3124 : decode cL_law 3124 = .ok (.iload 5, 2) := by decide +kernel
theorem dL_law_3126 : decode cL_law 3126 = .ok (.iconst 1, 1) := by decide +kernel
theorem dL_law_3127 : decode cL_law 3127 = .ok (.iadd, 1) := by decide +kernel
theorem dL_law_3128 : decode cL_law 3128 = .ok (.iaload, 1) := by decide +kernel
theorem dL_law_3129 : decode cL_law 3129 = .ok (.aload_n 0, 1) := by decide +kernel
theorem dL_law_3130 : decode cL_law 3130 = .ok (.iload 5, 2) := by decide +kernel
theorem dL_law_3132 : decode cL_law 3132 = .ok (.iconst 2, 1) := by decide +kernel
theorem dL_law_3133 : decode cL_law 3133 = .ok (.iadd, 1) := by decide +kernel
theorem dL_law_3134 : decode cL_law 3134 = .ok (.iaload, 1) := by decide +kernel
theorem dL_law_3135 : decode cL_law 3135 = .ok (.aload_n 0, 1) := by decide +kernel
theorem dL_law_3136 : decode cL_law 3136 = .ok (.iload 5, 2) := by decide +kernel
theorem dL_law_3138 : decode cL_law 3138 = .ok (.iconst 3, 1) := by decide +kernel
theorem dL_law_3139 : decode cL_law 3139 = .ok (.iadd, 1) := by decide +kernel
theorem dL_law_3140 : decode cL_law 3140 = .ok (.iaload, 1) := by decide +kernel
theorem dL_law_3141 : decode cL_law 3141 = .ok (.aload_n 0, 1) := by decide +kernel
theorem dL_law_3142 : decode cL_law 3142 = .ok (.iload 5, 2) := by decide +kernel
theorem dL_law_3144 : decode cL_law 3144 = .ok (.iconst 4, 1) := by decide +kernel
theorem dL_law_3145 : decode cL_law 3145 = .ok (.iadd, 1) := by decide +kernel
theorem dL_law_3146 : decode cL_law 3146 = .ok (.iaload, 1) := by decide +kernel
theorem dL_law_3147 : decode cL_law 3147 = .ok (.aload_n 3, 1) := by decide +kernel
theorem dL_law_3148 : decode cL_law 3148 = .ok (.invokestatic 357, 3) := by decide +kernel
theorem dL_law_3151 : decode cL_law 3151 = .ok (.istore 6, 2) := by decide +kernel
theorem dL_law_3153 : decode cL_law 3153 = .ok (.aload_n 2, 1) := by decide +kernel
theorem dL_law_3154 : decode cL_law 3154 = .ok (.aload_n 0, 1) := by decide +kernel
theorem dL_law_3155 : decode cL_law 3155 = .ok (.iload 5, 2) := by decide +kernel
theorem dL_law_3157 : decode cL_law 3157 = .ok (.iconst 1, 1) := by decide +kernel
theorem dL_law_3158 : decode cL_law 3158 = .ok (.iadd, 1) := by decide +kernel
theorem dL_law_3159 : decode cL_law 3159 = .ok (.iaload, 1) := by decide +kernel
theorem dL_law_3160 : decode cL_law 3160 = .ok (.aload_n 0, 1) := by decide +kernel
theorem dL_law_3161 : decode cL_law 3161 = .ok (.iload 5, 2) := by decide +kernel
theorem dL_law_3163 : decode cL_law 3163 = .ok (.iconst 2, 1) := by decide +kernel
theorem dL_law_3164 : decode cL_law 3164 = .ok (.iadd, 1) := by decide +kernel
theorem dL_law_3165 : decode cL_law 3165 = .ok (.iaload, 1) := by decide +kernel
theorem dL_law_3166 : decode cL_law 3166 = .ok (.aload_n 0, 1) := by decide +kernel
theorem dL_law_3167 : decode cL_law 3167 = .ok (.iload 5, 2) := by decide +kernel
theorem dL_law_3169 : decode cL_law 3169 = .ok (.iconst 3, 1) := by decide +kernel
theorem dL_law_3170 : decode cL_law 3170 = .ok (.iadd, 1) := by decide +kernel
theorem dL_law_3171 : decode cL_law 3171 = .ok (.iaload, 1) := by decide +kernel
theorem dL_law_3172 : decode cL_law 3172 = .ok (.aload_n 0, 1) := by decide +kernel
theorem dL_law_3173 : decode cL_law 3173 = .ok (.iload 5, 2) := by decide +kernel
theorem dL_law_3175 : decode cL_law 3175 = .ok (.iconst 4, 1) := by decide +kernel
theorem dL_law_3176 : decode cL_law 3176 = .ok (.iadd, 1) := by decide +kernel
theorem dL_law_3177 : decode cL_law 3177 = .ok (.iaload, 1) := by decide +kernel
theorem dL_law_3178 : decode cL_law 3178 = .ok (.invokevirtual 359, 3) := by decide +kernel
theorem dL_law_3181 : decode cL_law 3181 = .ok (.istore 7, 2) := by decide +kernel
theorem dL_law_3183 : decode cL_law 3183 = .ok (.aload_n 2, 1) := by decide +kernel
theorem dL_law_3184 : decode cL_law 3184 = .ok (.invokevirtual 156, 3) := by decide +kernel
theorem dL_law_3187 : decode cL_law 3187 = .ok (.iload 6, 2) := by decide +kernel
theorem dL_law_3189 : decode cL_law 3189 = .ok (.if_icmp .eq 5, 3) := by decide +kernel
theorem dL_law_3192 : decode cL_law 3192 = .ok (.iconst 0, 1) := by decide +kernel
theorem dL_law_3193 : decode cL_law 3193 = .ok (.ireturn, 1) := by decide +kernel
theorem dL_law_3194 : decode cL_law 3194 = .ok (.iload 6, 2) := by decide +kernel
theorem dL_law_3196 : decode cL_law 3196 = .ok (.ifCond .ne 15, 3) := by decide +kernel
theorem dL_law_3199 : decode cL_law 3199 = .ok (.aload_n 3, 1) := by decide +kernel
theorem dL_law_3200 : decode cL_law 3200 = .ok (.iconst 0, 1) := by decide +kernel
theorem dL_law_3201 : decode cL_law 3201 = .ok (.laload, 1) := by decide +kernel
theorem dL_law_3202 : decode cL_law 3202 = .ok (.iload 7, 2) := by decide +kernel
theorem dL_law_3204 : decode cL_law 3204 = .ok (.i2l, 1) := by decide +kernel
theorem dL_law_3205 : decode cL_law 3205 = .ok (.lcmp, 1) := by decide +kernel
theorem dL_law_3206 : decode cL_law 3206 = .ok (.ifCond .eq 5, 3) := by decide +kernel
theorem dL_law_3209 : decode cL_law 3209 = .ok (.iconst 0, 1) := by decide +kernel
theorem dL_law_3210 : decode cL_law 3210 = .ok (.ireturn, 1) := by decide +kernel
theorem dL_law_3211 : decode cL_law 3211 = .ok (.goto 289, 3) := by decide +kernel
theorem dL_law_3214 : decode cL_law 3214 = .ok (.aload_n 1, 1) := by decide +kernel
theorem dL_law_3215 : decode cL_law 3215 = .ok (.aload_n 0, 1) := by decide +kernel
theorem dL_law_3216 : decode cL_law 3216 = .ok (.iload 5, 2) := by decide +kernel
theorem dL_law_3218 : decode cL_law 3218 = .ok (.iconst 1, 1) := by decide +kernel
theorem dL_law_3219 : decode cL_law 3219 = .ok (.iadd, 1) := by decide +kernel
theorem dL_law_3220 : decode cL_law 3220 = .ok (.iaload, 1) := by decide +kernel
theorem dL_law_3221 : decode cL_law 3221 = .ok (.aload_n 0, 1) := by decide +kernel
theorem dL_law_3222 : decode cL_law 3222 = .ok (.iload 5, 2) := by decide +kernel
theorem dL_law_3224 : decode cL_law 3224 = .ok (.iconst 2, 1) := by decide +kernel
theorem dL_law_3225 : decode cL_law 3225 = .ok (.iadd, 1) := by decide +kernel
theorem dL_law_3226 : decode cL_law 3226 = .ok (.iaload, 1) := by decide +kernel
theorem dL_law_3227 : decode cL_law 3227 = .ok (.aload_n 0, 1) := by decide +kernel
theorem dL_law_3228 : decode cL_law 3228 = .ok (.iload 5, 2) := by decide +kernel
theorem dL_law_3230 : decode cL_law 3230 = .ok (.iconst 3, 1) := by decide +kernel
theorem dL_law_3231 : decode cL_law 3231 = .ok (.iadd, 1) := by decide +kernel
theorem dL_law_3232 : decode cL_law 3232 = .ok (.iaload, 1) := by decide +kernel
theorem dL_law_3233 : decode cL_law 3233 = .ok (.aload_n 0, 1) := by decide +kernel
theorem dL_law_3234 : decode cL_law 3234 = .ok (.iload 5, 2) := by decide +kernel
theorem dL_law_3236 : decode cL_law 3236 = .ok (.iconst 4, 1) := by decide +kernel
theorem dL_law_3237 : decode cL_law 3237 = .ok (.iadd, 1) := by decide +kernel
theorem dL_law_3238 : decode cL_law 3238 = .ok (.iaload, 1) := by decide +kernel
theorem dL_law_3239 : decode cL_law 3239 = .ok (.aload_n 3, 1) := by decide +kernel
theorem dL_law_3240 : decode cL_law 3240 = .ok (.invokestatic 360, 3) := by decide +kernel
theorem dL_law_3243 : decode cL_law 3243 = .ok (.istore 6, 2) := by decide +kernel
theorem dL_law_3245 : decode cL_law 3245 = .ok (.aload_n 2, 1) := by decide +kernel
theorem dL_law_3246 : decode cL_law 3246 = .ok (.aload_n 0, 1) := by decide +kernel
theorem dL_law_3247 : decode cL_law 3247 = .ok (.iload 5, 2) := by decide +kernel
theorem dL_law_3249 : decode cL_law 3249 = .ok (.iconst 1, 1) := by decide +kernel
theorem dL_law_3250 : decode cL_law 3250 = .ok (.iadd, 1) := by decide +kernel
theorem dL_law_3251 : decode cL_law 3251 = .ok (.iaload, 1) := by decide +kernel
theorem dL_law_3252 : decode cL_law 3252 = .ok (.aload_n 0, 1) := by decide +kernel
theorem dL_law_3253 : decode cL_law 3253 = .ok (.iload 5, 2) := by decide +kernel
theorem dL_law_3255 : decode cL_law 3255 = .ok (.iconst 2, 1) := by decide +kernel
theorem dL_law_3256 : decode cL_law 3256 = .ok (.iadd, 1) := by decide +kernel
theorem dL_law_3257 : decode cL_law 3257 = .ok (.iaload, 1) := by decide +kernel
theorem dL_law_3258 : decode cL_law 3258 = .ok (.aload_n 0, 1) := by decide +kernel
theorem dL_law_3259 : decode cL_law 3259 = .ok (.iload 5, 2) := by decide +kernel
theorem dL_law_3261 : decode cL_law 3261 = .ok (.iconst 3, 1) := by decide +kernel
theorem dL_law_3262 : decode cL_law 3262 = .ok (.iadd, 1) := by decide +kernel
theorem dL_law_3263 : decode cL_law 3263 = .ok (.iaload, 1) := by decide +kernel
theorem dL_law_3264 : decode cL_law 3264 = .ok (.aload_n 0, 1) := by decide +kernel
theorem dL_law_3265 : decode cL_law 3265 = .ok (.iload 5, 2) := by decide +kernel
theorem dL_law_3267 : decode cL_law 3267 = .ok (.iconst 4, 1) := by decide +kernel
theorem dL_law_3268 : decode cL_law 3268 = .ok (.iadd, 1) := by decide +kernel
theorem dL_law_3269 : decode cL_law 3269 = .ok (.iaload, 1) := by decide +kernel
theorem dL_law_3270 : decode cL_law 3270 = .ok (.invokevirtual 362, 3) := by decide +kernel
theorem dL_law_3273 : decode cL_law 3273 = .ok (.istore 7, 2) := by decide +kernel
theorem dL_law_3275 : decode cL_law 3275 = .ok (.aload_n 2, 1) := by decide +kernel
theorem dL_law_3276 : decode cL_law 3276 = .ok (.invokevirtual 156, 3) := by decide +kernel
theorem dL_law_3279 : decode cL_law 3279 = .ok (.iload 6, 2) := by decide +kernel
theorem dL_law_3281 : decode cL_law 3281 = .ok (.if_icmp .eq 5, 3) := by decide +kernel
theorem dL_law_3284 : decode cL_law 3284 = .ok (.iconst 0, 1) := by decide +kernel
theorem dL_law_3285 : decode cL_law 3285 = .ok (.ireturn, 1) := by decide +kernel
theorem dL_law_3286 : decode cL_law 3286 = .ok (.iload 6, 2) := by decide +kernel
theorem dL_law_3288 : decode cL_law 3288 = .ok (.ifCond .ne 15, 3) := by decide +kernel
theorem dL_law_3291 : decode cL_law 3291 = .ok (.aload_n 3, 1) := by decide +kernel
theorem dL_law_3292 : decode cL_law 3292 = .ok (.iconst 0, 1) := by decide +kernel
theorem dL_law_3293 : decode cL_law 3293 = .ok (.laload, 1) := by decide +kernel
theorem dL_law_3294 : decode cL_law 3294 = .ok (.iload 7, 2) := by decide +kernel
theorem dL_law_3296 : decode cL_law 3296 = .ok (.i2l, 1) := by decide +kernel
theorem dL_law_3297 : decode cL_law 3297 = .ok (.lcmp, 1) := by decide +kernel
theorem dL_law_3298 : decode cL_law 3298 = .ok (.ifCond .eq 5, 3) := by decide +kernel
theorem dL_law_3301 : decode cL_law 3301 = .ok (.iconst 0, 1) := by decide +kernel
theorem dL_law_3302 : decode cL_law 3302 = .ok (.ireturn, 1) := by decide +kernel
theorem dL_law_3303 : decode cL_law 3303 = .ok (.goto 197, 3) := by decide +kernel
theorem dL_law_3306 : decode cL_law 3306 = .ok (.aload_n 1, 1) := by decide +kernel
theorem dL_law_3307 : decode cL_law 3307 = .ok (.invokevirtual 363, 3) := by decide +kernel
theorem dL_law_3310 : decode cL_law 3310 = .ok (.aload_n 2, 1) := by decide +kernel
theorem dL_law_3311 : decode cL_law 3311 = .ok (.invokevirtual 366, 3) := by decide +kernel
theorem dL_law_3314 : decode cL_law 3314 = .ok (.if_icmp .eq 186, 3) := by decide +kernel
theorem dL_law_3317 : decode cL_law 3317 = .ok (.iconst 0, 1) := by decide +kernel
theorem dL_law_3318 : decode cL_law 3318 = .ok (.ireturn, 1) := by decide +kernel
theorem dL_law_3319 : decode cL_law 3319 = .ok (.aload_n 1, 1) := by decide +kernel
theorem dL_law_3320 : decode cL_law 3320 = .ok (.aload_n 0, 1) := by decide +kernel
theorem dL_law_3321 : decode cL_law 3321 = .ok (.iload 5, 2) := by decide +kernel
theorem dL_law_3323 : decode cL_law 3323 = .ok (.iconst 1, 1) := by decide +kernel
theorem dL_law_3324 : decode cL_law 3324 = .ok (.iadd, 1) := by decide +kernel
theorem dL_law_3325 : decode cL_law 3325 = .ok (.iaload, 1) := by decide +kernel
theorem dL_law_3326 : decode cL_law 3326 = .ok (.aload_n 3, 1) := by decide +kernel
theorem dL_law_3327 : decode cL_law 3327 = .ok (.invokestatic 367, 3) := by decide +kernel
theorem dL_law_3330 : decode cL_law 3330 = .ok (.istore 6, 2) := by decide +kernel
theorem dL_law_3332 : decode cL_law 3332 = .ok (.aload_n 2, 1) := by decide +kernel
theorem dL_law_3333 : decode cL_law 3333 = .ok (.aload_n 0, 1) := by decide +kernel
theorem dL_law_3334 : decode cL_law 3334 = .ok (.iload 5, 2) := by decide +kernel
theorem dL_law_3336 : decode cL_law 3336 = .ok (.iconst 1, 1) := by decide +kernel
theorem dL_law_3337 : decode cL_law 3337 = .ok (.iadd, 1) := by decide +kernel
theorem dL_law_3338 : decode cL_law 3338 = .ok (.iaload, 1) := by decide +kernel
theorem dL_law_3339 : decode cL_law 3339 = .ok (.invokevirtual 369, 3) := by decide +kernel
theorem dL_law_3342 : decode cL_law 3342 = .ok (.istore 7, 2) := by decide +kernel
theorem dL_law_3344 : decode cL_law 3344 = .ok (.aload_n 2, 1) := by decide +kernel
theorem dL_law_3345 : decode cL_law 3345 = .ok (.invokevirtual 156, 3) := by decide +kernel
theorem dL_law_3348 : decode cL_law 3348 = .ok (.iload 6, 2) := by decide +kernel
theorem dL_law_3350 : decode cL_law 3350 = .ok (.if_icmp .eq 5, 3) := by decide +kernel
theorem dL_law_3353 : decode cL_law 3353 = .ok (.iconst 0, 1) := by decide +kernel
theorem dL_law_3354 : decode cL_law 3354 = .ok (.ireturn, 1) := by decide +kernel
theorem dL_law_3355 : decode cL_law 3355 = .ok (.iload 6, 2) := by decide +kernel
theorem dL_law_3357 : decode cL_law 3357 = .ok (.ifCond .ne 15, 3) := by decide +kernel
theorem dL_law_3360 : decode cL_law 3360 = .ok (.aload_n 3, 1) := by decide +kernel
theorem dL_law_3361 : decode cL_law 3361 = .ok (.iconst 0, 1) := by decide +kernel
theorem dL_law_3362 : decode cL_law 3362 = .ok (.laload, 1) := by decide +kernel
theorem dL_law_3363 : decode cL_law 3363 = .ok (.iload 7, 2) := by decide +kernel
theorem dL_law_3365 : decode cL_law 3365 = .ok (.i2l, 1) := by decide +kernel
theorem dL_law_3366 : decode cL_law 3366 = .ok (.lcmp, 1) := by decide +kernel
theorem dL_law_3367 : decode cL_law 3367 = .ok (.ifCond .eq 5, 3) := by decide +kernel
theorem dL_law_3370 : decode cL_law 3370 = .ok (.iconst 0, 1) := by decide +kernel
theorem dL_law_3371 : decode cL_law 3371 = .ok (.ireturn, 1) := by decide +kernel
theorem dL_law_3372 : decode cL_law 3372 = .ok (.goto 128, 3) := by decide +kernel
theorem dL_law_3375 : decode cL_law 3375 = .ok (.aload_n 1, 1) := by decide +kernel
theorem dL_law_3376 : decode cL_law 3376 = .ok (.invokevirtual 370, 3) := by decide +kernel
theorem dL_law_3379 : decode cL_law 3379 = .ok (.aload_n 2, 1) := by decide +kernel
theorem dL_law_3380 : decode cL_law 3380 = .ok (.invokevirtual 373, 3) := by decide +kernel
theorem dL_law_3383 : decode cL_law 3383 = .ok (.if_icmp .eq 117, 3) := by decide +kernel
theorem dL_law_3386 : decode cL_law 3386 = .ok (.iconst 0, 1) := by decide +kernel
theorem dL_law_3387 : decode cL_law 3387 = .ok (.ireturn, 1) := by decide +kernel
theorem dL_law_3388 : decode cL_law 3388 = .ok (.aload_n 1, 1) := by decide +kernel
theorem dL_law_3389 : decode cL_law 3389 = .ok (.aload_n 0, 1) := by decide +kernel
theorem dL_law_3390 : decode cL_law 3390 = .ok (.iload 5, 2) := by decide +kernel
theorem dL_law_3392 : decode cL_law 3392 = .ok (.iconst 1, 1) := by decide +kernel
theorem dL_law_3393 : decode cL_law 3393 = .ok (.iadd, 1) := by decide +kernel
theorem dL_law_3394 : decode cL_law 3394 = .ok (.iaload, 1) := by decide +kernel
theorem dL_law_3395 : decode cL_law 3395 = .ok (.aload_n 3, 1) := by decide +kernel
theorem dL_law_3396 : decode cL_law 3396 = .ok (.invokestatic 374, 3) := by decide +kernel
theorem dL_law_3399 : decode cL_law 3399 = .ok (.istore 6, 2) := by decide +kernel
theorem dL_law_3401 : decode cL_law 3401 = .ok (.aload_n 2, 1) := by decide +kernel
theorem dL_law_3402 : decode cL_law 3402 = .ok (.aload_n 0, 1) := by decide +kernel
theorem dL_law_3403 : decode cL_law 3403 = .ok (.iload 5, 2) := by decide +kernel
theorem dL_law_3405 : decode cL_law 3405 = .ok (.iconst 1, 1) := by decide +kernel
theorem dL_law_3406 : decode cL_law 3406 = .ok (.iadd, 1) := by decide +kernel
theorem dL_law_3407 : decode cL_law 3407 = .ok (.iaload, 1) := by decide +kernel
theorem dL_law_3408 : decode cL_law 3408 = .ok (.invokevirtual 376, 3) := by decide +kernel
theorem dL_law_3411 : decode cL_law 3411 = .ok (.istore 7, 2) := by decide +kernel
theorem dL_law_3413 : decode cL_law 3413 = .ok (.aload_n 2, 1) := by decide +kernel
theorem dL_law_3414 : decode cL_law 3414 = .ok (.invokevirtual 156, 3) := by decide +kernel
theorem dL_law_3417 : decode cL_law 3417 = .ok (.iload 6, 2) := by decide +kernel
theorem dL_law_3419 : decode cL_law 3419 = .ok (.if_icmp .eq 5, 3) := by decide +kernel
theorem dL_law_3422 : decode cL_law 3422 = .ok (.iconst 0, 1) := by decide +kernel
theorem dL_law_3423 : decode cL_law 3423 = .ok (.ireturn, 1) := by decide +kernel
theorem dL_law_3424 : decode cL_law 3424 = .ok (.iload 6, 2) := by decide +kernel
theorem dL_law_3426 : decode cL_law 3426 = .ok (.ifCond .ne 15, 3) := by decide +kernel
theorem dL_law_3429 : decode cL_law 3429 = .ok (.aload_n 3, 1) := by decide +kernel
theorem dL_law_3430 : decode cL_law 3430 = .ok (.iconst 0, 1) := by decide +kernel
theorem dL_law_3431 : decode cL_law 3431 = .ok (.laload, 1) := by decide +kernel
theorem dL_law_3432 : decode cL_law 3432 = .ok (.iload 7, 2) := by decide +kernel
theorem dL_law_3434 : decode cL_law 3434 = .ok (.i2l, 1) := by decide +kernel
theorem dL_law_3435 : decode cL_law 3435 = .ok (.lcmp, 1) := by decide +kernel
theorem dL_law_3436 : decode cL_law 3436 = .ok (.ifCond .eq 5, 3) := by decide +kernel
theorem dL_law_3439 : decode cL_law 3439 = .ok (.iconst 0, 1) := by decide +kernel
theorem dL_law_3440 : decode cL_law 3440 = .ok (.ireturn, 1) := by decide +kernel
theorem dL_law_3441 : decode cL_law 3441 = .ok (.goto 59, 3) := by decide +kernel
theorem dL_law_3444 : decode cL_law 3444 = .ok (.aload_n 1, 1) := by decide +kernel
theorem dL_law_3445 : decode cL_law 3445 = .ok (.aload_n 0, 1) := by decide +kernel
theorem dL_law_3446 : decode cL_law 3446 = .ok (.iload 5, 2) := by decide +kernel
theorem dL_law_3448 : decode cL_law 3448 = .ok (.iconst 1, 1) := by decide +kernel
theorem dL_law_3449 : decode cL_law 3449 = .ok (.iadd, 1) := by decide +kernel
theorem dL_law_3450 : decode cL_law 3450 = .ok (.iaload, 1) := by decide +kernel
theorem dL_law_3451 : decode cL_law 3451 = .ok (.aload_n 3, 1) := by decide +kernel
theorem dL_law_3452 : decode cL_law 3452 = .ok (.invokestatic 377, 3) := by decide +kernel
theorem dL_law_3455 : decode cL_law 3455 = .ok (.istore 6, 2) := by decide +kernel
theorem dL_law_3457 : decode cL_law 3457 = .ok (.aload_n 2, 1) := by decide +kernel
theorem dL_law_3458 : decode cL_law 3458 = .ok (.aload_n 0, 1) := by decide +kernel
theorem dL_law_3459 : decode cL_law 3459 = .ok (.iload 5, 2) := by decide +kernel
theorem dL_law_3461 : decode cL_law 3461 = .ok (.iconst 1, 1) := by decide +kernel
theorem dL_law_3462 : decode cL_law 3462 = .ok (.iadd, 1) := by decide +kernel
theorem dL_law_3463 : decode cL_law 3463 = .ok (.iaload, 1) := by decide +kernel
theorem dL_law_3464 : decode cL_law 3464 = .ok (.invokevirtual 379, 3) := by decide +kernel
theorem dL_law_3467 : decode cL_law 3467 = .ok (.istore 7, 2) := by decide +kernel
theorem dL_law_3469 : decode cL_law 3469 = .ok (.aload_n 2, 1) := by decide +kernel
theorem dL_law_3470 : decode cL_law 3470 = .ok (.invokevirtual 156, 3) := by decide +kernel
theorem dL_law_3473 : decode cL_law 3473 = .ok (.iload 6, 2) := by decide +kernel
theorem dL_law_3475 : decode cL_law 3475 = .ok (.if_icmp .eq 5, 3) := by decide +kernel
theorem dL_law_3478 : decode cL_law 3478 = .ok (.iconst 0, 1) := by decide +kernel
theorem dL_law_3479 : decode cL_law 3479 = .ok (.ireturn, 1) := by decide +kernel
theorem dL_law_3480 : decode cL_law 3480 = .ok (.iload 6, 2) := by decide +kernel
theorem dL_law_3482 : decode cL_law 3482 = .ok (.ifCond .ne 15, 3) := by decide +kernel
theorem dL_law_3485 : decode cL_law 3485 = .ok (.aload_n 3, 1) := by decide +kernel
theorem dL_law_3486 : decode cL_law 3486 = .ok (.iconst 0, 1) := by decide +kernel
theorem dL_law_3487 : decode cL_law 3487 = .ok (.laload, 1) := by decide +kernel
theorem dL_law_3488 : decode cL_law 3488 = .ok (.iload 7, 2) := by decide +kernel
theorem dL_law_3490 : decode cL_law 3490 = .ok (.i2l, 1) := by decide +kernel
theorem dL_law_3491 : decode cL_law 3491 = .ok (.lcmp, 1) := by decide +kernel
theorem dL_law_3492 : decode cL_law 3492 = .ok (.ifCond .eq 5, 3) := by decide +kernel
theorem dL_law_3495 : decode cL_law 3495 = .ok (.iconst 0, 1) := by decide +kernel
theorem dL_law_3496 : decode cL_law 3496 = .ok (.ireturn, 1) := by decide +kernel
theorem dL_law_3497 : decode cL_law 3497 = .ok (.goto 3, 3) := by decide +kernel
theorem dL_law_3500 : decode cL_law 3500 = .ok (.iinc 5 6, 3) := by decide +kernel
theorem dL_law_3503 : decode cL_law 3503 = .ok (.goto (-3475), 3) := by decide +kernel
theorem dL_law_3506 : decode cL_law 3506 = .ok (.iconst 1, 1) := by decide +kernel
theorem dL_law_3507 : decode cL_law 3507 = .ok (.ireturn, 1) := by decide +kernel
