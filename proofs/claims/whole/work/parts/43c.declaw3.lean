theorem dL_law__1455 : decode cL_law_ 1455 = .ok (.laload, 1) := by decide +kernel
theorem dL_law__1456 : decode cL_law_ 1456 = .ok (.iload 6, 2) := by decide +kernel
theorem dL_law__1458 : decode cL_law_ 1458 = .ok (.i2l, 1) := by decide +kernel
theorem dL_law__1459 : decode cL_law_ 1459 = .ok (.lcmp, 1) := by decide +kernel
theorem dL_law__1460 : decode cL_law_ 1460 = .ok (.ifCond .eq 5, 3) := by decide +kernel
theorem dL_law__1463 : decode cL_law_ 1463 = .ok (.iconst 0, 1) := by decide +kernel
theorem dL_law__1464 : decode cL_law_ 1464 = .ok (.ireturn, 1) := by decide +kernel
theorem dL_law__1465 : decode cL_law_ 1465 = .ok (.goto 1192, 3) := by decide +kernel
theorem dL_law__1468 : decode cL_law_ 1468 = .ok (.aload_n 1, 1) := by decide +kernel
theorem dL_law__1469 : decode cL_law_ 1469 = .ok (.aload_n 0, 1) := by decide +kernel
theorem dL_law__1470 : decode cL_law_ 1470 = .ok (.iload 4, 2) := by decide +kernel
theorem dL_law__1472 : decode cL_law_ 1472 = .ok (.iconst 1, 1) := by decide +kernel
theorem dL_law__1473 : decode cL_law_ 1473 = .ok (.iadd, 1) := by decide +kernel
theorem dL_law__1474 : decode cL_law_ 1474 = .ok (.iaload, 1) := by decide +kernel
theorem dL_law__1475 : decode cL_law_ 1475 = .ok (.aload_n 3, 1) := by decide +kernel
theorem dL_law__1476 : decode cL_law_ 1476 = .ok (.invokestatic 201, 3) := by decide +kernel
theorem dL_law__1479 : decode cL_law_ 1479 = .ok (.istore 5, 2) := by decide +kernel
theorem dL_law__1481 : decode cL_law_ 1481 = .ok (.aload_n 2, 1) := by decide +kernel
theorem dL_law__1482 : decode cL_law_ 1482 = .ok (.aload_n 0, 1) := by decide +kernel
theorem dL_law__1483 : decode cL_law_ 1483 = .ok (.iload 4, 2) := by decide +kernel
theorem dL_law__1485 : decode cL_law_ 1485 = .ok (.iconst 1, 1) := by decide +kernel
theorem dL_law__1486 : decode cL_law_ 1486 = .ok (.iadd, 1) := by decide +kernel
theorem dL_law__1487 : decode cL_law_ 1487 = .ok (.iaload, 1) := by decide +kernel
theorem dL_law__1488 : decode cL_law_ 1488 = .ok (.invokevirtual 203, 3) := by decide +kernel
theorem dL_law__1491 : decode cL_law_ 1491 = .ok (.istore 6, 2) := by decide +kernel
theorem dL_law__1493 : decode cL_law_ 1493 = .ok (.aload_n 2, 1) := by decide +kernel
theorem dL_law__1494 : decode cL_law_ 1494 = .ok (.invokevirtual 134, 3) := by decide +kernel
theorem dL_law__1497 : decode cL_law_ 1497 = .ok (.iload 5, 2) := by decide +kernel
theorem dL_law__1499 : decode cL_law_ 1499 = .ok (.if_icmp .eq 5, 3) := by decide +kernel
theorem dL_law__1502 : decode cL_law_ 1502 = .ok (.iconst 0, 1) := by decide +kernel
theorem dL_law__1503 : decode cL_law_ 1503 = .ok (.ireturn, 1) := by decide +kernel
theorem dL_law__1504 : decode cL_law_ 1504 = .ok (.iload 5, 2) := by decide +kernel
theorem dL_law__1506 : decode cL_law_ 1506 = .ok (.ifCond .ne 15, 3) := by decide +kernel
theorem dL_law__1509 : decode cL_law_ 1509 = .ok (.aload_n 3, 1) := by decide +kernel
theorem dL_law__1510 : decode cL_law_ 1510 = .ok (.iconst 0, 1) := by decide +kernel
theorem dL_law__1511 : decode cL_law_ 1511 = .ok (.laload, 1) := by decide +kernel
theorem dL_law__1512 : decode cL_law_ 1512 = .ok (.iload 6, 2) := by decide +kernel
theorem dL_law__1514 : decode cL_law_ 1514 = .ok (.i2l, 1) := by decide +kernel
theorem dL_law__1515 : decode cL_law_ 1515 = .ok (.lcmp, 1) := by decide +kernel
theorem dL_law__1516 : decode cL_law_ 1516 = .ok (.ifCond .eq 5, 3) := by decide +kernel
theorem dL_law__1519 : decode cL_law_ 1519 = .ok (.iconst 0, 1) := by decide +kernel
theorem dL_law__1520 : decode cL_law_ 1520 = .ok (.ireturn, 1) := by decide +kernel
theorem dL_law__1521 : decode cL_law_ 1521 = .ok (.goto 1136, 3) := by decide +kernel
theorem dL_law__1524 : decode cL_law_ 1524 = .ok (.aload_n 1, 1) := by decide +kernel
theorem dL_law__1525 : decode cL_law_ 1525 = .ok (.aload_n 0, 1) := by decide +kernel
theorem dL_law__1526 : decode cL_law_ 1526 = .ok (.iload 4, 2) := by decide +kernel
theorem dL_law__1528 : decode cL_law_ 1528 = .ok (.iconst 1, 1) := by decide +kernel
theorem dL_law__1529 : decode cL_law_ 1529 = .ok (.iadd, 1) := by decide +kernel
theorem dL_law__1530 : decode cL_law_ 1530 = .ok (.iaload, 1) := by decide +kernel
theorem dL_law__1531 : decode cL_law_ 1531 = .ok (.aload_n 3, 1) := by decide +kernel
theorem dL_law__1532 : decode cL_law_ 1532 = .ok (.invokestatic 204, 3) := by decide +kernel
theorem dL_law__1535 : decode cL_law_ 1535 = .ok (.istore 5, 2) := by decide +kernel
theorem dL_law__1537 : decode cL_law_ 1537 = .ok (.aload_n 2, 1) := by decide +kernel
theorem dL_law__1538 : decode cL_law_ 1538 = .ok (.aload_n 0, 1) := by decide +kernel
theorem dL_law__1539 : decode cL_law_ 1539 = .ok (.iload 4, 2) := by decide +kernel
theorem dL_law__1541 : decode cL_law_ 1541 = .ok (.iconst 1, 1) := by decide +kernel
theorem dL_law__1542 : decode cL_law_ 1542 = .ok (.iadd, 1) := by decide +kernel
theorem dL_law__1543 : decode cL_law_ 1543 = .ok (.iaload, 1) := by decide +kernel
theorem dL_law__1544 : decode cL_law_ 1544 = .ok (.invokevirtual 206, 3) := by decide +kernel
theorem dL_law__1547 : decode cL_law_ 1547 = .ok (.istore 6, 2) := by decide +kernel
theorem dL_law__1549 : decode cL_law_ 1549 = .ok (.aload_n 2, 1) := by decide +kernel
theorem dL_law__1550 : decode cL_law_ 1550 = .ok (.invokevirtual 134, 3) := by decide +kernel
theorem dL_law__1553 : decode cL_law_ 1553 = .ok (.iload 5, 2) := by decide +kernel
theorem dL_law__1555 : decode cL_law_ 1555 = .ok (.if_icmp .eq 5, 3) := by decide +kernel
theorem dL_law__1558 : decode cL_law_ 1558 = .ok (.iconst 0, 1) := by decide +kernel
theorem dL_law__1559 : decode cL_law_ 1559 = .ok (.ireturn, 1) := by decide +kernel
theorem dL_law__1560 : decode cL_law_ 1560 = .ok (.iload 5, 2) := by decide +kernel
theorem dL_law__1562 : decode cL_law_ 1562 = .ok (.ifCond .ne 15, 3) := by decide +kernel
theorem dL_law__1565 : decode cL_law_ 1565 = .ok (.aload_n 3, 1) := by decide +kernel
theorem dL_law__1566 : decode cL_law_ 1566 = .ok (.iconst 0, 1) := by decide +kernel
theorem dL_law__1567 : decode cL_law_ 1567 = .ok (.laload, 1) := by decide +kernel
theorem dL_law__1568 : decode cL_law_ 1568 = .ok (.iload 6, 2) := by decide +kernel
theorem dL_law__1570 : decode cL_law_ 1570 = .ok (.i2l, 1) := by decide +kernel
theorem dL_law__1571 : decode cL_law_ 1571 = .ok (.lcmp, 1) := by decide +kernel
theorem dL_law__1572 : decode cL_law_ 1572 = .ok (.ifCond .eq 5, 3) := by decide +kernel
theorem dL_law__1575 : decode cL_law_ 1575 = .ok (.iconst 0, 1) := by decide +kernel
theorem dL_law__1576 : decode cL_law_ 1576 = .ok (.ireturn, 1) := by decide +kernel
theorem dL_law__1577 : decode cL_law_ 1577 = .ok (.goto 1080, 3) := by decide +kernel
theorem dL_law__1580 : decode cL_law_ 1580 = .ok (.aload_n 1, 1) := by decide +kernel
theorem dL_law__1581 : decode cL_law_ 1581 = .ok (.aload_n 0, 1) := by decide +kernel
theorem dL_law__1582 : decode cL_law_ 1582 = .ok (.iload 4, 2) := by decide +kernel
theorem dL_law__1584 : decode cL_law_ 1584 = .ok (.iconst 1, 1) := by decide +kernel
theorem dL_law__1585 : decode cL_law_ 1585 = .ok (.iadd, 1) := by decide +kernel
theorem dL_law__1586 : decode cL_law_ 1586 = .ok (.iaload, 1) := by decide +kernel
theorem dL_law__1587 : decode cL_law_ 1587 = .ok (.aload_n 3, 1) := by decide +kernel
theorem dL_law__1588 : decode cL_law_ 1588 = .ok (.invokestatic 207, 3) := by decide +kernel
theorem dL_law__1591 : decode cL_law_ 1591 = .ok (.istore 5, 2) := by decide +kernel
theorem dL_law__1593 : decode cL_law_ 1593 = .ok (.aload_n 2, 1) := by decide +kernel
theorem dL_law__1594 : decode cL_law_ 1594 = .ok (.aload_n 0, 1) := by decide +kernel
theorem dL_law__1595 : decode cL_law_ 1595 = .ok (.iload 4, 2) := by decide +kernel
theorem dL_law__1597 : decode cL_law_ 1597 = .ok (.iconst 1, 1) := by decide +kernel
theorem dL_law__1598 : decode cL_law_ 1598 = .ok (.iadd, 1) := by decide +kernel
theorem dL_law__1599 : decode cL_law_ 1599 = .ok (.iaload, 1) := by decide +kernel
theorem dL_law__1600 : decode cL_law_ 1600 = .ok (.invokevirtual 209, 3) := by decide +kernel
theorem dL_law__1603 : decode cL_law_ 1603 = .ok (.istore 6, 2) := by decide +kernel
theorem dL_law__1605 : decode cL_law_ 1605 = .ok (.aload_n 2, 1) := by decide +kernel
theorem dL_law__1606 : decode cL_law_ 1606 = .ok (.invokevirtual 134, 3) := by decide +kernel
theorem dL_law__1609 : decode cL_law_ 1609 = .ok (.iload 5, 2) := by decide +kernel
theorem dL_law__1611 : decode cL_law_ 1611 = .ok (.if_icmp .eq 5, 3) := by decide +kernel
theorem dL_law__1614 : decode cL_law_ 1614 = .ok (.iconst 0, 1) := by decide +kernel
theorem dL_law__1615 : decode cL_law_ 1615 = .ok (.ireturn, 1) := by decide +kernel
theorem dL_law__1616 : decode cL_law_ 1616 = .ok (.iload 5, 2) := by decide +kernel
theorem dL_law__1618 : decode cL_law_ 1618 = .ok (.ifCond .ne 15, 3) := by decide +kernel
theorem dL_law__1621 : decode cL_law_ 1621 = .ok (.aload_n 3, 1) := by decide +kernel
theorem dL_law__1622 : decode cL_law_ 1622 = .ok (.iconst 0, 1) := by decide +kernel
theorem dL_law__1623 : decode cL_law_ 1623 = .ok (.laload, 1) := by decide +kernel
theorem dL_law__1624 : decode cL_law_ 1624 = .ok (.iload 6, 2) := by decide +kernel
theorem dL_law__1626 : decode cL_law_ 1626 = .ok (.i2l, 1) := by decide +kernel
theorem dL_law__1627 : decode cL_law_ 1627 = .ok (.lcmp, 1) := by decide +kernel
theorem dL_law__1628 : decode cL_law_ 1628 = .ok (.ifCond .eq 5, 3) := by decide +kernel
theorem dL_law__1631 : decode cL_law_ 1631 = .ok (.iconst 0, 1) := by decide +kernel
theorem dL_law__1632 : decode cL_law_ 1632 = .ok (.ireturn, 1) := by decide +kernel
theorem dL_law__1633 : decode cL_law_ 1633 = .ok (.goto 1024, 3) := by decide +kernel
theorem dL_law__1636 : decode cL_law_ 1636 = .ok (.aload_n 1, 1) := by decide +kernel
theorem dL_law__1637 : decode cL_law_ 1637 = .ok (.aload_n 0, 1) := by decide +kernel
theorem dL_law__1638 : decode cL_law_ 1638 = .ok (.iload 4, 2) := by decide +kernel
theorem dL_law__1640 : decode cL_law_ 1640 = .ok (.iconst 1, 1) := by decide +kernel
theorem dL_law__1641 : decode cL_law_ 1641 = .ok (.iadd, 1) := by decide +kernel
theorem dL_law__1642 : decode cL_law_ 1642 = .ok (.iaload, 1) := by decide +kernel
theorem dL_law__1643 : decode cL_law_ 1643 = .ok (.aload_n 0, 1) := by decide +kernel
theorem dL_law__1644 : decode cL_law_ 1644 = .ok (.iload 4, 2) := by decide +kernel
theorem dL_law__1646 : decode cL_law_ 1646 = .ok (.iconst 2, 1) := by decide +kernel
theorem dL_law__1647 : decode cL_law_ 1647 = .ok (.iadd, 1) := by decide +kernel
theorem dL_law__1648 : decode cL_law_ 1648 = .ok (.iaload, 1) := by decide +kernel
theorem dL_law__1649 : decode cL_law_ 1649 = .ok (.aload_n 0, 1) := by decide +kernel
theorem dL_law__1650 : decode cL_law_ 1650 = .ok (.iload 4, 2) := by decide +kernel
theorem dL_law__1652 : decode cL_law_ 1652 = .ok (.iconst 3, 1) := by decide +kernel
theorem dL_law__1653 : decode cL_law_ 1653 = .ok (.iadd, 1) := by decide +kernel
theorem dL_law__1654 : decode cL_law_ 1654 = .ok (.iaload, 1) := by decide +kernel
theorem dL_law__1655 : decode cL_law_ 1655 = .ok (.aload_n 0, 1) := by decide +kernel
theorem dL_law__1656 : decode cL_law_ 1656 = .ok (.iload 4, 2) := by decide +kernel
theorem dL_law__1658 : decode cL_law_ 1658 = .ok (.iconst 4, 1) := by decide +kernel
theorem dL_law__1659 : decode cL_law_ 1659 = .ok (.iadd, 1) := by decide +kernel
theorem dL_law__1660 : decode cL_law_ 1660 = .ok (.iaload, 1) := by decide +kernel
theorem dL_law__1661 : decode cL_law_ 1661 = .ok (.aload_n 3, 1) := by decide +kernel
theorem dL_law__1662 : decode cL_law_ 1662 = .ok (.invokestatic 210, 3) := by decide +kernel
theorem dL_law__1665 : decode cL_law_ 1665 = .ok (.istore 5, 2) := by decide +kernel
theorem dL_law__1667 : decode cL_law_ 1667 = .ok (.aload_n 2, 1) := by decide +kernel
theorem dL_law__1668 : decode cL_law_ 1668 = .ok (.aload_n 0, 1) := by decide +kernel
theorem dL_law__1669 : decode cL_law_ 1669 = .ok (.iload 4, 2) := by decide +kernel
theorem dL_law__1671 : decode cL_law_ 1671 = .ok (.iconst 1, 1) := by decide +kernel
theorem dL_law__1672 : decode cL_law_ 1672 = .ok (.iadd, 1) := by decide +kernel
theorem dL_law__1673 : decode cL_law_ 1673 = .ok (.iaload, 1) := by decide +kernel
theorem dL_law__1674 : decode cL_law_ 1674 = .ok (.aload_n 0, 1) := by decide +kernel
theorem dL_law__1675 : decode cL_law_ 1675 = .ok (.iload 4, 2) := by decide +kernel
theorem dL_law__1677 : decode cL_law_ 1677 = .ok (.iconst 2, 1) := by decide +kernel
theorem dL_law__1678 : decode cL_law_ 1678 = .ok (.iadd, 1) := by decide +kernel
theorem dL_law__1679 : decode cL_law_ 1679 = .ok (.iaload, 1) := by decide +kernel
theorem dL_law__1680 : decode cL_law_ 1680 = .ok (.aload_n 0, 1) := by decide +kernel
theorem dL_law__1681 : decode cL_law_ 1681 = .ok (.iload 4, 2) := by decide +kernel
theorem dL_law__1683 : decode cL_law_ 1683 = .ok (.iconst 3, 1) := by decide +kernel
theorem dL_law__1684 : decode cL_law_ 1684 = .ok (.iadd, 1) := by decide +kernel
theorem dL_law__1685 : decode cL_law_ 1685 = .ok (.iaload, 1) := by decide +kernel
theorem dL_law__1686 : decode cL_law_ 1686 = .ok (.aload_n 0, 1) := by decide +kernel
theorem dL_law__1687 : decode cL_law_ 1687 = .ok (.iload 4, 2) := by decide +kernel
theorem dL_law__1689 : decode cL_law_ 1689 = .ok (.iconst 4, 1) := by decide +kernel
theorem dL_law__1690 : decode cL_law_ 1690 = .ok (.iadd, 1) := by decide +kernel
theorem dL_law__1691 : decode cL_law_ 1691 = .ok (.iaload, 1) := by decide +kernel
theorem dL_law__1692 : decode cL_law_ 1692 = .ok (.invokevirtual 213, 3) := by decide +kernel
theorem dL_law__1695 : decode cL_law_ 1695 = .ok (.lstore 6, 2) := by decide +kernel
theorem dL_law__1697 : decode cL_law_ 1697 = .ok (.aload_n 2, 1) := by decide +kernel
theorem dL_law__1698 : decode cL_law_ 1698 = .ok (.invokevirtual 134, 3) := by decide +kernel
theorem dL_law__1701 : decode cL_law_ 1701 = .ok (.iload 5, 2) := by decide +kernel
theorem dL_law__1703 : decode cL_law_ 1703 = .ok (.if_icmp .eq 5, 3) := by decide +kernel
theorem dL_law__1706 : decode cL_law_ 1706 = .ok (.iconst 0, 1) := by decide +kernel
theorem dL_law__1707 : decode cL_law_ 1707 = .ok (.ireturn, 1) := by decide +kernel
theorem dL_law__1708 : decode cL_law_ 1708 = .ok (.iload 5, 2) := by decide +kernel
theorem dL_law__1710 : decode cL_law_ 1710 = .ok (.ifCond .ne 14, 3) := by decide +kernel
theorem dL_law__1713 : decode cL_law_ 1713 = .ok (.aload_n 3, 1) := by decide +kernel
theorem dL_law__1714 : decode cL_law_ 1714 = .ok (.iconst 0, 1) := by decide +kernel
theorem dL_law__1715 : decode cL_law_ 1715 = .ok (.laload, 1) := by decide +kernel
theorem dL_law__1716 : decode cL_law_ 1716 = .ok (.lload 6, 2) := by decide +kernel
theorem dL_law__1718 : decode cL_law_ 1718 = .ok (.lcmp, 1) := by decide +kernel
theorem dL_law__1719 : decode cL_law_ 1719 = .ok (.ifCond .eq 5, 3) := by decide +kernel
theorem dL_law__1722 : decode cL_law_ 1722 = .ok (.iconst 0, 1) := by decide +kernel
theorem dL_law__1723 : decode cL_law_ 1723 = .ok (.ireturn, 1) := by decide +kernel
theorem dL_law__1724 : decode cL_law_ 1724 = .ok (.goto 933, 3) := by decide +kernel
theorem dL_law__1727 : decode cL_law_ 1727 = .ok (.aload_n 1, 1) := by decide +kernel
theorem dL_law__1728 : decode cL_law_ 1728 = .ok (.aload_n 0, 1) := by decide +kernel
theorem dL_law__1729 : decode cL_law_ 1729 = .ok (.iload 4, 2) := by decide +kernel
theorem dL_law__1731 : decode cL_law_ 1731 = .ok (.iconst 1, 1) := by decide +kernel
theorem dL_law__1732 : decode cL_law_ 1732 = .ok (.iadd, 1) := by decide +kernel
theorem dL_law__1733 : decode cL_law_ 1733 = .ok (.iaload, 1) := by decide +kernel
theorem dL_law__1734 : decode cL_law_ 1734 = .ok (.aload_n 0, 1) := by decide +kernel
theorem dL_law__1735 : decode cL_law_ 1735 = .ok (.iload 4, 2) := by decide +kernel
theorem dL_law__1737 : decode cL_law_ 1737 = .ok (.iconst 2, 1) := by decide +kernel
theorem dL_law__1738 : decode cL_law_ 1738 = .ok (.iadd, 1) := by decide +kernel
theorem dL_law__1739 : decode cL_law_ 1739 = .ok (.iaload, 1) := by decide +kernel
theorem dL_law__1740 : decode cL_law_ 1740 = .ok (.aload_n 0, 1) := by decide +kernel
theorem dL_law__1741 : decode cL_law_ 1741 = .ok (.iload 4, 2) := by decide +kernel
theorem dL_law__1743 : decode cL_law_ 1743 = .ok (.iconst 3, 1) := by decide +kernel
theorem dL_law__1744 : decode cL_law_ 1744 = .ok (.iadd, 1) := by decide +kernel
theorem dL_law__1745 : decode cL_law_ 1745 = .ok (.iaload, 1) := by decide +kernel
theorem dL_law__1746 : decode cL_law_ 1746 = .ok (.aload_n 3, 1) := by decide +kernel
theorem dL_law__1747 : decode cL_law_ 1747 = .ok (.invokestatic 214, 3) := by decide +kernel
theorem dL_law__1750 : decode cL_law_ 1750 = .ok (.istore 5, 2) := by decide +kernel
theorem dL_law__1752 : decode cL_law_ 1752 = .ok (.aload_n 2, 1) := by decide +kernel
theorem dL_law__1753 : decode cL_law_ 1753 = .ok (.aload_n 0, 1) := by decide +kernel
theorem dL_law__1754 : decode cL_law_ 1754 = .ok (.iload 4, 2) := by decide +kernel
theorem dL_law__1756 : decode cL_law_ 1756 = .ok (.iconst 1, 1) := by decide +kernel
theorem dL_law__1757 : decode cL_law_ 1757 = .ok (.iadd, 1) := by decide +kernel
theorem dL_law__1758 : decode cL_law_ 1758 = .ok (.iaload, 1) := by decide +kernel
theorem dL_law__1759 : decode cL_law_ 1759 = .ok (.aload_n 0, 1) := by decide +kernel
theorem dL_law__1760 : decode cL_law_ 1760 = .ok (.iload 4, 2) := by decide +kernel
theorem dL_law__1762 : decode cL_law_ 1762 = .ok (.iconst 2, 1) := by decide +kernel
theorem dL_law__1763 : decode cL_law_ 1763 = .ok (.iadd, 1) := by decide +kernel
theorem dL_law__1764 : decode cL_law_ 1764 = .ok (.iaload, 1) := by decide +kernel
theorem dL_law__1765 : decode cL_law_ 1765 = .ok (.aload_n 0, 1) := by decide +kernel
theorem dL_law__1766 : decode cL_law_ 1766 = .ok (.iload 4, 2) := by decide +kernel
theorem dL_law__1768 : decode cL_law_ 1768 = .ok (.iconst 3, 1) := by decide +kernel
theorem dL_law__1769 : decode cL_law_ 1769 = .ok (.iadd, 1) := by decide +kernel
theorem dL_law__1770 : decode cL_law_ 1770 = .ok (.iaload, 1) := by decide +kernel
theorem dL_law__1771 : decode cL_law_ 1771 = .ok (.invokevirtual 216, 3) := by decide +kernel
theorem dL_law__1774 : decode cL_law_ 1774 = .ok (.istore 6, 2) := by decide +kernel
theorem dL_law__1776 : decode cL_law_ 1776 = .ok (.aload_n 2, 1) := by decide +kernel
theorem dL_law__1777 : decode cL_law_ 1777 = .ok (.invokevirtual 134, 3) := by decide +kernel
theorem dL_law__1780 : decode cL_law_ 1780 = .ok (.iload 5, 2) := by decide +kernel
theorem dL_law__1782 : decode cL_law_ 1782 = .ok (.if_icmp .eq 5, 3) := by decide +kernel
theorem dL_law__1785 : decode cL_law_ 1785 = .ok (.iconst 0, 1) := by decide +kernel
theorem dL_law__1786 : decode cL_law_ 1786 = .ok (.ireturn, 1) := by decide +kernel
theorem dL_law__1787 : decode cL_law_ 1787 = .ok (.iload 5, 2) := by decide +kernel
theorem dL_law__1789 : decode cL_law_ 1789 = .ok (.ifCond .ne 15, 3) := by decide +kernel
theorem dL_law__1792 : decode cL_law_ 1792 = .ok (.aload_n 3, 1) := by decide +kernel
theorem dL_law__1793 : decode cL_law_ 1793 = .ok (.iconst 0, 1) := by decide +kernel
theorem dL_law__1794 : decode cL_law_ 1794 = .ok (.laload, 1) := by decide +kernel
theorem dL_law__1795 : decode cL_law_ 1795 = .ok (.iload 6, 2) := by decide +kernel
theorem dL_law__1797 : decode cL_law_ 1797 = .ok (.i2l, 1) := by decide +kernel
theorem dL_law__1798 : decode cL_law_ 1798 = .ok (.lcmp, 1) := by decide +kernel
theorem dL_law__1799 : decode cL_law_ 1799 = .ok (.ifCond .eq 5, 3) := by decide +kernel
theorem dL_law__1802 : decode cL_law_ 1802 = .ok (.iconst 0, 1) := by decide +kernel
theorem dL_law__1803 : decode cL_law_ 1803 = .ok (.ireturn, 1) := by decide +kernel
theorem dL_law__1804 : decode cL_law_ 1804 = .ok (.goto 853, 3) := by decide +kernel
theorem dL_law__1807 : decode cL_law_ 1807 = .ok (.aload_n 1, 1) := by decide +kernel
theorem dL_law__1808 : decode cL_law_ 1808 = .ok (.aload_n 0, 1) := by decide +kernel
theorem dL_law__1809 : decode cL_law_ 1809 = .ok (.iload 4, 2) := by decide +kernel
theorem dL_law__1811 : decode cL_law_ 1811 = .ok (.iconst 1, 1) := by decide +kernel
theorem dL_law__1812 : decode cL_law_ 1812 = .ok (.iadd, 1) := by decide +kernel
theorem dL_law__1813 : decode cL_law_ 1813 = .ok (.iaload, 1) := by decide +kernel
theorem dL_law__1814 : decode cL_law_ 1814 = .ok (.aload_n 0, 1) := by decide +kernel
theorem dL_law__1815 : decode cL_law_ 1815 = .ok (.iload 4, 2) := by decide +kernel
theorem dL_law__1817 : decode cL_law_ 1817 = .ok (.iconst 2, 1) := by decide +kernel
theorem dL_law__1818 : decode cL_law_ 1818 = .ok (.iadd, 1) := by decide +kernel
theorem dL_law__1819 : decode cL_law_ 1819 = .ok (.iaload, 1) := by decide +kernel
theorem dL_law__1820 : decode cL_law_ 1820 = .ok (.aload_n 0, 1) := by decide +kernel
theorem dL_law__1821 : decode cL_law_ 1821 = .ok (.iload 4, 2) := by decide +kernel
theorem dL_law__1823 : decode cL_law_ 1823 = .ok (.iconst 3, 1) := by decide +kernel
theorem dL_law__1824 : decode cL_law_ 1824 = .ok (.iadd, 1) := by decide +kernel
theorem dL_law__1825 : decode cL_law_ 1825 = .ok (.iaload, 1) := by decide +kernel
theorem dL_law__1826 : decode cL_law_ 1826 = .ok (.aload_n 3, 1) := by decide +kernel
theorem dL_law__1827 : decode cL_law_ 1827 = .ok (.invokestatic 217, 3) := by decide +kernel
theorem dL_law__1830 : decode cL_law_ 1830 = .ok (.istore 5, 2) := by decide +kernel
theorem dL_law__1832 : decode cL_law_ 1832 = .ok (.aload_n 2, 1) := by decide +kernel
theorem dL_law__1833 : decode cL_law_ 1833 = .ok (.aload_n 0, 1) := by decide +kernel
theorem dL_law__1834 : decode cL_law_ 1834 = .ok (.iload 4, 2) := by decide +kernel
theorem dL_law__1836 : decode cL_law_ 1836 = .ok (.iconst 1, 1) := by decide +kernel
theorem dL_law__1837 : decode cL_law_ 1837 = .ok (.iadd, 1) := by decide +kernel
theorem dL_law__1838 : decode cL_law_ 1838 = .ok (.iaload, 1) := by decide +kernel
theorem dL_law__1839 : decode cL_law_ 1839 = .ok (.aload_n 0, 1) := by decide +kernel
theorem dL_law__1840 : decode cL_law_ 1840 = .ok (.iload 4, 2) := by decide +kernel
theorem dL_law__1842 : decode cL_law_ 1842 = .ok (.iconst 2, 1) := by decide +kernel
theorem dL_law__1843 : decode cL_law_ 1843 = .ok (.iadd, 1) := by decide +kernel
theorem dL_law__1844 : decode cL_law_ 1844 = .ok (.iaload, 1) := by decide +kernel
theorem dL_law__1845 : decode cL_law_ 1845 = .ok (.aload_n 0, 1) := by decide +kernel
theorem dL_law__1846 : decode cL_law_ 1846 = .ok (.iload 4, 2) := by decide +kernel
theorem dL_law__1848 : decode cL_law_ 1848 = .ok (.iconst 3, 1) := by decide +kernel
theorem dL_law__1849 : decode cL_law_ 1849 = .ok (.iadd, 1) := by decide +kernel
theorem dL_law__1850 : decode cL_law_ 1850 = .ok (.iaload, 1) := by decide +kernel
theorem dL_law__1851 : decode cL_law_ 1851 = .ok (.invokevirtual 219, 3) := by decide +kernel
theorem dL_law__1854 : decode cL_law_ 1854 = .ok (.istore 6, 2) := by decide +kernel
theorem dL_law__1856 : decode cL_law_ 1856 = .ok (.aload_n 2, 1) := by decide +kernel
theorem dL_law__1857 : decode cL_law_ 1857 = .ok (.invokevirtual 134, 3) := by decide +kernel
theorem dL_law__1860 : decode cL_law_ 1860 = .ok (.iload 5, 2) := by decide +kernel
theorem dL_law__1862 : decode cL_law_ 1862 = .ok (.if_icmp .eq 5, 3) := by decide +kernel
theorem dL_law__1865 : decode cL_law_ 1865 = .ok (.iconst 0, 1) := by decide +kernel
theorem dL_law__1866 : decode cL_law_ 1866 = .ok (.ireturn, 1) := by decide +kernel
theorem dL_law__1867 : decode cL_law_ 1867 = .ok (.iload 5, 2) := by decide +kernel
theorem dL_law__1869 : decode cL_law_ 1869 = .ok (.ifCond .ne 15, 3) := by decide +kernel
theorem dL_law__1872 : decode cL_law_ 1872 = .ok (.aload_n 3, 1) := by decide +kernel
theorem dL_law__1873 : decode cL_law_ 1873 = .ok (.iconst 0, 1) := by decide +kernel
theorem dL_law__1874 : decode cL_law_ 1874 = .ok (.laload, 1) := by decide +kernel
theorem dL_law__1875 : decode cL_law_ 1875 = .ok (.iload 6, 2) := by decide +kernel
theorem dL_law__1877 : decode cL_law_ 1877 = .ok (.i2l, 1) := by decide +kernel
theorem dL_law__1878 : decode cL_law_ 1878 = .ok (.lcmp, 1) := by decide +kernel
theorem dL_law__1879 : decode cL_law_ 1879 = .ok (.ifCond .eq 5, 3) := by decide +kernel
theorem dL_law__1882 : decode cL_law_ 1882 = .ok (.iconst 0, 1) := by decide +kernel
theorem dL_law__1883 : decode cL_law_ 1883 = .ok (.ireturn, 1) := by decide +kernel
theorem dL_law__1884 : decode cL_law_ 1884 = .ok (.goto 773, 3) := by decide +kernel
theorem dL_law__1887 : decode cL_law_ 1887 = .ok (.aload_n 1, 1) := by decide +kernel
theorem dL_law__1888 : decode cL_law_ 1888 = .ok (.aload_n 0, 1) := by decide +kernel
theorem dL_law__1889 : decode cL_law_ 1889 = .ok (.iload 4, 2) := by decide +kernel
theorem dL_law__1891 : decode cL_law_ 1891 = .ok (.iconst 1, 1) := by decide +kernel
theorem dL_law__1892 : decode cL_law_ 1892 = .ok (.iadd, 1) := by decide +kernel
theorem dL_law__1893 : decode cL_law_ 1893 = .ok (.iaload, 1) := by decide +kernel
theorem dL_law__1894 : decode cL_law_ 1894 = .ok (.aload_n 3, 1) := by decide +kernel
theorem dL_law__1895 : decode cL_law_ 1895 = .ok (.invokestatic 220, 3) := by decide +kernel
theorem dL_law__1898 : decode cL_law_ 1898 = .ok (.istore 5, 2) := by decide +kernel
theorem dL_law__1900 : decode cL_law_ 1900 = .ok (.aload_n 2, 1) := by decide +kernel
theorem dL_law__1901 : decode cL_law_ 1901 = .ok (.aload_n 0, 1) := by decide +kernel
theorem dL_law__1902 : decode cL_law_ 1902 = .ok (.iload 4, 2) := by decide +kernel
theorem dL_law__1904 : decode cL_law_ 1904 = .ok (.iconst 1, 1) := by decide +kernel
theorem dL_law__1905 : decode cL_law_ 1905 = .ok (.iadd, 1) := by decide +kernel
theorem dL_law__1906 : decode cL_law_ 1906 = .ok (.iaload, 1) := by decide +kernel
theorem dL_law__1907 : decode cL_law_ 1907 = .ok (.invokevirtual 222, 3) := by decide +kernel
theorem dL_law__1910 : decode cL_law_ 1910 = .ok (.istore 6, 2) := by decide +kernel
theorem dL_law__1912 : decode cL_law_ 1912 = .ok (.aload_n 2, 1) := by decide +kernel
theorem dL_law__1913 : decode cL_law_ 1913 = .ok (.invokevirtual 134, 3) := by decide +kernel
theorem dL_law__1916 : decode cL_law_ 1916 = .ok (.iload 5, 2) := by decide +kernel
theorem dL_law__1918 : decode cL_law_ 1918 = .ok (.if_icmp .eq 5, 3) := by decide +kernel
theorem dL_law__1921 : decode cL_law_ 1921 = .ok (.iconst 0, 1) := by decide +kernel
theorem dL_law__1922 : decode cL_law_ 1922 = .ok (.ireturn, 1) := by decide +kernel
theorem dL_law__1923 : decode cL_law_ 1923 = .ok (.iload 5, 2) := by decide +kernel
theorem dL_law__1925 : decode cL_law_ 1925 = .ok (.ifCond .ne 15, 3) := by decide +kernel
theorem dL_law__1928 : decode cL_law_ 1928 = .ok (.aload_n 3, 1) := by decide +kernel
theorem dL_law__1929 : decode cL_law_ 1929 = .ok (.iconst 0, 1) := by decide +kernel
theorem dL_law__1930 : decode cL_law_ 1930 = .ok (.laload, 1) := by decide +kernel
theorem dL_law__1931 : decode cL_law_ 1931 = .ok (.iload 6, 2) := by decide +kernel
theorem dL_law__1933 : decode cL_law_ 1933 = .ok (.i2l, 1) := by decide +kernel
theorem dL_law__1934 : decode cL_law_ 1934 = .ok (.lcmp, 1) := by decide +kernel
theorem dL_law__1935 : decode cL_law_ 1935 = .ok (.ifCond .eq 5, 3) := by decide +kernel
theorem dL_law__1938 : decode cL_law_ 1938 = .ok (.iconst 0, 1) := by decide +kernel
theorem dL_law__1939 : decode cL_law_ 1939 = .ok (.ireturn, 1) := by decide +kernel
theorem dL_law__1940 : decode cL_law_ 1940 = .ok (.goto 717, 3) := by decide +kernel
theorem dL_law__1943 : decode cL_law_ 1943 = .ok (.aload_n 1, 1) := by decide +kernel
theorem dL_law__1944 : decode cL_law_ 1944 = .ok (.aload_n 0, 1) := by decide +kernel
theorem dL_law__1945 : decode cL_law_ 1945 = .ok (.iload 4, 2) := by decide +kernel
theorem dL_law__1947 : decode cL_law_ 1947 = .ok (.iconst 1, 1) := by decide +kernel
theorem dL_law__1948 : decode cL_law_ 1948 = .ok (.iadd, 1) := by decide +kernel
theorem dL_law__1949 : decode cL_law_ 1949 = .ok (.iaload, 1) := by decide +kernel
theorem dL_law__1950 : decode cL_law_ 1950 = .ok (.aload_n 3, 1) := by decide +kernel
theorem dL_law__1951 : decode cL_law_ 1951 = .ok (.invokestatic 223, 3) := by decide +kernel
theorem dL_law__1954 : decode cL_law_ 1954 = .ok (.istore 5, 2) := by decide +kernel
theorem dL_law__1956 : decode cL_law_ 1956 = .ok (.aload_n 2, 1) := by decide +kernel
theorem dL_law__1957 : decode cL_law_ 1957 = .ok (.aload_n 0, 1) := by decide +kernel
theorem dL_law__1958 : decode cL_law_ 1958 = .ok (.iload 4, 2) := by decide +kernel
theorem dL_law__1960 : decode cL_law_ 1960 = .ok (.iconst 1, 1) := by decide +kernel
theorem dL_law__1961 : decode cL_law_ 1961 = .ok (.iadd, 1) := by decide +kernel
theorem dL_law__1962 : decode cL_law_ 1962 = .ok (.iaload, 1) := by decide +kernel
theorem dL_law__1963 : decode cL_law_ 1963 = .ok (.invokevirtual 225, 3) := by decide +kernel
theorem dL_law__1966 : decode cL_law_ 1966 = .ok (.istore 6, 2) := by decide +kernel
theorem dL_law__1968 : decode cL_law_ 1968 = .ok (.aload_n 2, 1) := by decide +kernel
theorem dL_law__1969 : decode cL_law_ 1969 = .ok (.invokevirtual 134, 3) := by decide +kernel
theorem dL_law__1972 : decode cL_law_ 1972 = .ok (.iload 5, 2) := by decide +kernel
theorem dL_law__1974 : decode cL_law_ 1974 = .ok (.if_icmp .eq 5, 3) := by decide +kernel
theorem dL_law__1977 : decode cL_law_ 1977 = .ok (.iconst 0, 1) := by decide +kernel
theorem dL_law__1978 : decode cL_law_ 1978 = .ok (.ireturn, 1) := by decide +kernel
theorem dL_law__1979 : decode cL_law_ 1979 = .ok (.iload 5, 2) := by decide +kernel
theorem dL_law__1981 : decode cL_law_ 1981 = .ok (.ifCond .ne 15, 3) := by decide +kernel
theorem dL_law__1984 : decode cL_law_ 1984 = .ok (.aload_n 3, 1) := by decide +kernel
theorem dL_law__1985 : decode cL_law_ 1985 = .ok (.iconst 0, 1) := by decide +kernel
theorem dL_law__1986 : decode cL_law_ 1986 = .ok (.laload, 1) := by decide +kernel
theorem dL_law__1987 : decode cL_law_ 1987 = .ok (.iload 6, 2) := by decide +kernel
theorem dL_law__1989 : decode cL_law_ 1989 = .ok (.i2l, 1) := by decide +kernel
theorem dL_law__1990 : decode cL_law_ 1990 = .ok (.lcmp, 1) := by decide +kernel
theorem dL_law__1991 : decode cL_law_ 1991 = .ok (.ifCond .eq 5, 3) := by decide +kernel
theorem dL_law__1994 : decode cL_law_ 1994 = .ok (.iconst 0, 1) := by decide +kernel
theorem dL_law__1995 : decode cL_law_ 1995 = .ok (.ireturn, 1) := by decide +kernel
theorem dL_law__1996 : decode cL_law_ 1996 = .ok (.goto 661, 3) := by decide +kernel
theorem dL_law__1999 : decode cL_law_ 1999 = .ok (.aload_n 1, 1) := by decide +kernel
theorem dL_law__2000 : decode cL_law_ 2000 = .ok (.aload_n 0, 1) := by decide +kernel
theorem dL_law__2001 : decode cL_law_ 2001 = .ok (.iload 4, 2) := by decide +kernel
theorem dL_law__2003 : decode cL_law_ 2003 = .ok (.iconst 1, 1) := by decide +kernel
theorem dL_law__2004 : decode cL_law_ 2004 = .ok (.iadd, 1) := by decide +kernel
theorem dL_law__2005 : decode cL_law_ 2005 = .ok (.iaload, 1) := by decide +kernel
theorem dL_law__2006 : decode cL_law_ 2006 = .ok (.aload_n 0, 1) := by decide +kernel
theorem dL_law__2007 : decode cL_law_ 2007 = .ok (.iload 4, 2) := by decide +kernel
theorem dL_law__2009 : decode cL_law_ 2009 = .ok (.iconst 2, 1) := by decide +kernel
theorem dL_law__2010 : decode cL_law_ 2010 = .ok (.iadd, 1) := by decide +kernel
theorem dL_law__2011 : decode cL_law_ 2011 = .ok (.iaload, 1) := by decide +kernel
theorem dL_law__2012 : decode cL_law_ 2012 = .ok (.aload_n 3, 1) := by decide +kernel
theorem dL_law__2013 : decode cL_law_ 2013 = .ok (.invokestatic 226, 3) := by decide +kernel
theorem dL_law__2016 : decode cL_law_ 2016 = .ok (.istore 5, 2) := by decide +kernel
theorem dL_law__2018 : decode cL_law_ 2018 = .ok (.aload_n 2, 1) := by decide +kernel
theorem dL_law__2019 : decode cL_law_ 2019 = .ok (.aload_n 0, 1) := by decide +kernel
theorem dL_law__2020 : decode cL_law_ 2020 = .ok (.iload 4, 2) := by decide +kernel
theorem dL_law__2022 : decode cL_law_ 2022 = .ok (.iconst 1, 1) := by decide +kernel
theorem dL_law__2023 : decode cL_law_ 2023 = .ok (.iadd, 1) := by decide +kernel
theorem dL_law__2024 : decode cL_law_ 2024 = .ok (.iaload, 1) := by decide +kernel
theorem dL_law__2025 : decode cL_law_ 2025 = .ok (.aload_n 0, 1) := by decide +kernel
theorem dL_law__2026 : decode cL_law_ 2026 = .ok (.iload 4, 2) := by decide +kernel
theorem dL_law__2028 : decode cL_law_ 2028 = .ok (.iconst 2, 1) := by decide +kernel
theorem dL_law__2029 : decode cL_law_ 2029 = .ok (.iadd, 1) := by decide +kernel
theorem dL_law__2030 : decode cL_law_ 2030 = .ok (.iaload, 1) := by decide +kernel
theorem dL_law__2031 : decode cL_law_ 2031 = .ok (.invokevirtual 228, 3) := by decide +kernel
theorem dL_law__2034 : decode cL_law_ 2034 = .ok (.istore 6, 2) := by decide +kernel
theorem dL_law__2036 : decode cL_law_ 2036 = .ok (.aload_n 2, 1) := by decide +kernel
theorem dL_law__2037 : decode cL_law_ 2037 = .ok (.invokevirtual 134, 3) := by decide +kernel
theorem dL_law__2040 : decode cL_law_ 2040 = .ok (.iload 5, 2) := by decide +kernel
theorem dL_law__2042 : decode cL_law_ 2042 = .ok (.if_icmp .eq 5, 3) := by decide +kernel
theorem dL_law__2045 : decode cL_law_ 2045 = .ok (.iconst 0, 1) := by decide +kernel
theorem dL_law__2046 : decode cL_law_ 2046 = .ok (.ireturn, 1) := by decide +kernel
theorem dL_law__2047 : decode cL_law_ 2047 = .ok (.iload 5, 2) := by decide +kernel
theorem dL_law__2049 : decode cL_law_ 2049 = .ok (.ifCond .ne 15, 3) := by decide +kernel
theorem dL_law__2052 : decode cL_law_ 2052 = .ok (.aload_n 3, 1) := by decide +kernel
theorem dL_law__2053 : decode cL_law_ 2053 = .ok (.iconst 0, 1) := by decide +kernel
theorem dL_law__2054 : decode cL_law_ 2054 = .ok (.laload, 1) := by decide +kernel
theorem dL_law__2055 : decode cL_law_ 2055 = .ok (.iload 6, 2) := by decide +kernel
theorem dL_law__2057 : decode cL_law_ 2057 = .ok (.i2l, 1) := by decide +kernel
theorem dL_law__2058 : decode cL_law_ 2058 = .ok (.lcmp, 1) := by decide +kernel
theorem dL_law__2059 : decode cL_law_ 2059 = .ok (.ifCond .eq 5, 3) := by decide +kernel
theorem dL_law__2062 : decode cL_law_ 2062 = .ok (.iconst 0, 1) := by decide +kernel
theorem dL_law__2063 : decode cL_law_ 2063 = .ok (.ireturn, 1) := by decide +kernel
theorem dL_law__2064 : decode cL_law_ 2064 = .ok (.goto 593, 3) := by decide +kernel
theorem dL_law__2067 : decode cL_law_ 2067 = .ok (.aload_n 1, 1) := by decide +kernel
theorem dL_law__2068 : decode cL_law_ 2068 = .ok (.aload_n 0, 1) := by decide +kernel
theorem dL_law__2069 : decode cL_law_ 2069 = .ok (.iload 4, 2) := by decide +kernel
theorem dL_law__2071 : decode cL_law_ 2071 = .ok (.iconst 1, 1) := by decide +kernel
theorem dL_law__2072 : decode cL_law_ 2072 = .ok (.iadd, 1) := by decide +kernel
theorem dL_law__2073 : decode cL_law_ 2073 = .ok (.iaload, 1) := by decide +kernel
theorem dL_law__2074 : decode cL_law_ 2074 = .ok (.aload_n 3, 1) := by decide +kernel
theorem dL_law__2075 : decode cL_law_ 2075 = .ok (.invokestatic 229, 3) := by decide +kernel
theorem dL_law__2078 : decode cL_law_ 2078 = .ok (.istore 5, 2) := by decide +kernel
theorem dL_law__2080 : decode cL_law_ 2080 = .ok (.aload_n 2, 1) := by decide +kernel
theorem dL_law__2081 : decode cL_law_ 2081 = .ok (.aload_n 0, 1) := by decide +kernel
theorem dL_law__2082 : decode cL_law_ 2082 = .ok (.iload 4, 2) := by decide +kernel
theorem dL_law__2084 : decode cL_law_ 2084 = .ok (.iconst 1, 1) := by decide +kernel
theorem dL_law__2085 : decode cL_law_ 2085 = .ok (.iadd, 1) := by decide +kernel
theorem dL_law__2086 : decode cL_law_ 2086 = .ok (.iaload, 1) := by decide +kernel
theorem dL_law__2087 : decode cL_law_ 2087 = .ok (.invokevirtual 231, 3) := by decide +kernel
theorem dL_law__2090 : decode cL_law_ 2090 = .ok (.istore 6, 2) := by decide +kernel
theorem dL_law__2092 : decode cL_law_ 2092 = .ok (.aload_n 2, 1) := by decide +kernel
