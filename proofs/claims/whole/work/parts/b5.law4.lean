section LAWC
variable {G : z_G} {n0 d rc rs dc dr mc ms : Nat} {K : z_K} {I : z_I} {L : z_L} {Q : z_R} {b Lx : Nat} {xs : Nat → Int32} {i : Nat}
theorem dL_law_1527 : decode cL_law 1527 = .ok (.aload_n 1, 1) := by decide +kernel
theorem dL_law_1528 : decode cL_law 1528 = .ok (.aload_n 0, 1) := by decide +kernel
theorem dL_law_1529 : decode cL_law 1529 = .ok (.iload_n 3, 1) := by decide +kernel
theorem dL_law_1530 : decode cL_law 1530 = .ok (.iconst 1, 1) := by decide +kernel
theorem dL_law_1531 : decode cL_law 1531 = .ok (.iadd, 1) := by decide +kernel
theorem dL_law_1532 : decode cL_law 1532 = .ok (.iaload, 1) := by decide +kernel
theorem dL_law_1533 : decode cL_law 1533 = .ok (.aload_n 0, 1) := by decide +kernel
theorem dL_law_1534 : decode cL_law 1534 = .ok (.iload_n 3, 1) := by decide +kernel
theorem dL_law_1535 : decode cL_law 1535 = .ok (.iconst 2, 1) := by decide +kernel
theorem dL_law_1536 : decode cL_law 1536 = .ok (.iadd, 1) := by decide +kernel
theorem dL_law_1537 : decode cL_law 1537 = .ok (.iaload, 1) := by decide +kernel
theorem dL_law_1538 : decode cL_law 1538 = .ok (.aload_n 0, 1) := by decide +kernel
theorem dL_law_1539 : decode cL_law 1539 = .ok (.iload_n 3, 1) := by decide +kernel
theorem dL_law_1540 : decode cL_law 1540 = .ok (.iconst 3, 1) := by decide +kernel
theorem dL_law_1541 : decode cL_law 1541 = .ok (.iadd, 1) := by decide +kernel
theorem dL_law_1542 : decode cL_law 1542 = .ok (.iaload, 1) := by decide +kernel
theorem dL_law_1543 : decode cL_law 1543 = .ok (.aload_n 0, 1) := by decide +kernel
theorem dL_law_1544 : decode cL_law 1544 = .ok (.iload_n 3, 1) := by decide +kernel
theorem dL_law_1545 : decode cL_law 1545 = .ok (.iconst 4, 1) := by decide +kernel
theorem dL_law_1546 : decode cL_law 1546 = .ok (.iadd, 1) := by decide +kernel
theorem dL_law_1547 : decode cL_law 1547 = .ok (.iaload, 1) := by decide +kernel
theorem dL_law_1548 : decode cL_law 1548 = .ok (.aload_n 0, 1) := by decide +kernel
theorem dL_law_1549 : decode cL_law 1549 = .ok (.iload_n 3, 1) := by decide +kernel
theorem dL_law_1550 : decode cL_law 1550 = .ok (.iconst 5, 1) := by decide +kernel
theorem dL_law_1551 : decode cL_law 1551 = .ok (.iadd, 1) := by decide +kernel
theorem dL_law_1552 : decode cL_law 1552 = .ok (.iaload, 1) := by decide +kernel
theorem dL_law_1553 : decode cL_law 1553 = .ok (.aload_n 0, 1) := by decide +kernel
theorem dL_law_1554 : decode cL_law 1554 = .ok (.iload_n 3, 1) := by decide +kernel
theorem dL_law_1555 : decode cL_law 1555 = .ok (.bipush 6, 2) := by decide +kernel
theorem dL_law_1557 : decode cL_law 1557 = .ok (.iadd, 1) := by decide +kernel
theorem dL_law_1558 : decode cL_law 1558 = .ok (.iaload, 1) := by decide +kernel
theorem dL_law_1559 : decode cL_law 1559 = .ok (.aload_n 0, 1) := by decide +kernel
theorem dL_law_1560 : decode cL_law 1560 = .ok (.iload_n 3, 1) := by decide +kernel
theorem dL_law_1561 : decode cL_law 1561 = .ok (.bipush 7, 2) := by decide +kernel
theorem dL_law_1563 : decode cL_law 1563 = .ok (.iadd, 1) := by decide +kernel
theorem dL_law_1564 : decode cL_law 1564 = .ok (.iaload, 1) := by decide +kernel
theorem dL_law_1565 : decode cL_law 1565 = .ok (.invokevirtual 135, 3) := by decide +kernel
theorem dL_law_1568 : decode cL_law 1568 = .ok (.aload_n 2, 1) := by decide +kernel
theorem dL_law_1569 : decode cL_law 1569 = .ok (.aload_n 0, 1) := by decide +kernel
theorem dL_law_1570 : decode cL_law 1570 = .ok (.iload_n 3, 1) := by decide +kernel
theorem dL_law_1571 : decode cL_law 1571 = .ok (.iconst 1, 1) := by decide +kernel
theorem dL_law_1572 : decode cL_law 1572 = .ok (.iadd, 1) := by decide +kernel
theorem dL_law_1573 : decode cL_law 1573 = .ok (.iaload, 1) := by decide +kernel
theorem dL_law_1574 : decode cL_law 1574 = .ok (.aload_n 0, 1) := by decide +kernel
theorem dL_law_1575 : decode cL_law 1575 = .ok (.iload_n 3, 1) := by decide +kernel
theorem dL_law_1576 : decode cL_law 1576 = .ok (.iconst 2, 1) := by decide +kernel
theorem dL_law_1577 : decode cL_law 1577 = .ok (.iadd, 1) := by decide +kernel
theorem dL_law_1578 : decode cL_law 1578 = .ok (.iaload, 1) := by decide +kernel
theorem dL_law_1579 : decode cL_law 1579 = .ok (.aload_n 0, 1) := by decide +kernel
theorem dL_law_1580 : decode cL_law 1580 = .ok (.iload_n 3, 1) := by decide +kernel
theorem dL_law_1581 : decode cL_law 1581 = .ok (.iconst 3, 1) := by decide +kernel
theorem dL_law_1582 : decode cL_law 1582 = .ok (.iadd, 1) := by decide +kernel
theorem dL_law_1583 : decode cL_law 1583 = .ok (.iaload, 1) := by decide +kernel
theorem dL_law_1584 : decode cL_law 1584 = .ok (.aload_n 0, 1) := by decide +kernel
theorem dL_law_1585 : decode cL_law 1585 = .ok (.iload_n 3, 1) := by decide +kernel
theorem dL_law_1586 : decode cL_law 1586 = .ok (.iconst 4, 1) := by decide +kernel
theorem dL_law_1587 : decode cL_law 1587 = .ok (.iadd, 1) := by decide +kernel
theorem dL_law_1588 : decode cL_law 1588 = .ok (.iaload, 1) := by decide +kernel
theorem dL_law_1589 : decode cL_law 1589 = .ok (.aload_n 0, 1) := by decide +kernel
theorem dL_law_1590 : decode cL_law 1590 = .ok (.iload_n 3, 1) := by decide +kernel
theorem dL_law_1591 : decode cL_law 1591 = .ok (.iconst 5, 1) := by decide +kernel
theorem dL_law_1592 : decode cL_law 1592 = .ok (.iadd, 1) := by decide +kernel
theorem dL_law_1593 : decode cL_law 1593 = .ok (.iaload, 1) := by decide +kernel
theorem dL_law_1594 : decode cL_law 1594 = .ok (.aload_n 0, 1) := by decide +kernel
theorem dL_law_1595 : decode cL_law 1595 = .ok (.iload_n 3, 1) := by decide +kernel
theorem dL_law_1596 : decode cL_law 1596 = .ok (.bipush 6, 2) := by decide +kernel
theorem dL_law_1598 : decode cL_law 1598 = .ok (.iadd, 1) := by decide +kernel
theorem dL_law_1599 : decode cL_law 1599 = .ok (.iaload, 1) := by decide +kernel
theorem dL_law_1600 : decode cL_law 1600 = .ok (.aload_n 0, 1) := by decide +kernel
theorem dL_law_1601 : decode cL_law 1601 = .ok (.iload_n 3, 1) := by decide +kernel
theorem dL_law_1602 : decode cL_law 1602 = .ok (.bipush 7, 2) := by decide +kernel
theorem dL_law_1604 : decode cL_law 1604 = .ok (.iadd, 1) := by decide +kernel
theorem dL_law_1605 : decode cL_law 1605 = .ok (.iaload, 1) := by decide +kernel
theorem dL_law_1606 : decode cL_law 1606 = .ok (.invokevirtual 139, 3) := by decide +kernel
theorem dL_law_1609 : decode cL_law 1609 = .ok (.if_icmp .eq 733, 3) := by decide +kernel
theorem dL_law_1614 : decode cL_law 1614 = .ok (.aload_n 1, 1) := by decide +kernel
theorem dL_law_1615 : decode cL_law 1615 = .ok (.invokevirtual 140, 3) := by decide +kernel
theorem dL_law_1618 : decode cL_law 1618 = .ok (.aload_n 2, 1) := by decide +kernel
theorem dL_law_1619 : decode cL_law 1619 = .ok (.invokevirtual 144, 3) := by decide +kernel
theorem dL_law_1622 : decode cL_law 1622 = .ok (.if_icmp .eq 720, 3) := by decide +kernel
theorem dL_law_1627 : decode cL_law 1627 = .ok (.aload_n 1, 1) := by decide +kernel
theorem dL_law_1628 : decode cL_law 1628 = .ok (.aload_n 0, 1) := by decide +kernel
theorem dL_law_1629 : decode cL_law 1629 = .ok (.iload_n 3, 1) := by decide +kernel
theorem dL_law_1630 : decode cL_law 1630 = .ok (.iconst 1, 1) := by decide +kernel
theorem dL_law_1631 : decode cL_law 1631 = .ok (.iadd, 1) := by decide +kernel
theorem dL_law_1632 : decode cL_law 1632 = .ok (.iaload, 1) := by decide +kernel
theorem dL_law_1633 : decode cL_law 1633 = .ok (.aload_n 0, 1) := by decide +kernel
theorem dL_law_1634 : decode cL_law 1634 = .ok (.iload_n 3, 1) := by decide +kernel
theorem dL_law_1635 : decode cL_law 1635 = .ok (.iconst 2, 1) := by decide +kernel
theorem dL_law_1636 : decode cL_law 1636 = .ok (.iadd, 1) := by decide +kernel
theorem dL_law_1637 : decode cL_law 1637 = .ok (.iaload, 1) := by decide +kernel
theorem dL_law_1638 : decode cL_law 1638 = .ok (.invokevirtual 145, 3) := by decide +kernel
theorem dL_law_1641 : decode cL_law 1641 = .ok (.aload_n 2, 1) := by decide +kernel
theorem dL_law_1642 : decode cL_law 1642 = .ok (.aload_n 0, 1) := by decide +kernel
theorem dL_law_1643 : decode cL_law 1643 = .ok (.iload_n 3, 1) := by decide +kernel
theorem dL_law_1644 : decode cL_law 1644 = .ok (.iconst 1, 1) := by decide +kernel
theorem dL_law_1645 : decode cL_law 1645 = .ok (.iadd, 1) := by decide +kernel
theorem dL_law_1646 : decode cL_law 1646 = .ok (.iaload, 1) := by decide +kernel
theorem dL_law_1647 : decode cL_law 1647 = .ok (.aload_n 0, 1) := by decide +kernel
theorem dL_law_1648 : decode cL_law 1648 = .ok (.iload_n 3, 1) := by decide +kernel
theorem dL_law_1649 : decode cL_law 1649 = .ok (.iconst 2, 1) := by decide +kernel
theorem dL_law_1650 : decode cL_law 1650 = .ok (.iadd, 1) := by decide +kernel
theorem dL_law_1651 : decode cL_law 1651 = .ok (.iaload, 1) := by decide +kernel
theorem dL_law_1652 : decode cL_law 1652 = .ok (.invokevirtual 149, 3) := by decide +kernel
theorem dL_law_1655 : decode cL_law 1655 = .ok (.lcmp, 1) := by decide +kernel
theorem dL_law_1656 : decode cL_law 1656 = .ok (.ifCond .eq 686, 3) := by decide +kernel
theorem dL_law_1661 : decode cL_law 1661 = .ok (.aload_n 1, 1) := by decide +kernel
theorem dL_law_1662 : decode cL_law 1662 = .ok (.aload_n 0, 1) := by decide +kernel
theorem dL_law_1663 : decode cL_law 1663 = .ok (.iload_n 3, 1) := by decide +kernel
theorem dL_law_1664 : decode cL_law 1664 = .ok (.iconst 1, 1) := by decide +kernel
theorem dL_law_1665 : decode cL_law 1665 = .ok (.iadd, 1) := by decide +kernel
theorem dL_law_1666 : decode cL_law 1666 = .ok (.iaload, 1) := by decide +kernel
theorem dL_law_1667 : decode cL_law 1667 = .ok (.aload_n 0, 1) := by decide +kernel
theorem dL_law_1668 : decode cL_law 1668 = .ok (.iload_n 3, 1) := by decide +kernel
theorem dL_law_1669 : decode cL_law 1669 = .ok (.iconst 2, 1) := by decide +kernel
theorem dL_law_1670 : decode cL_law 1670 = .ok (.iadd, 1) := by decide +kernel
theorem dL_law_1671 : decode cL_law 1671 = .ok (.iaload, 1) := by decide +kernel
theorem dL_law_1672 : decode cL_law 1672 = .ok (.invokevirtual 150, 3) := by decide +kernel
theorem dL_law_1675 : decode cL_law 1675 = .ok (.aload_n 2, 1) := by decide +kernel
theorem dL_law_1676 : decode cL_law 1676 = .ok (.aload_n 0, 1) := by decide +kernel
theorem dL_law_1677 : decode cL_law 1677 = .ok (.iload_n 3, 1) := by decide +kernel
theorem dL_law_1678 : decode cL_law 1678 = .ok (.iconst 1, 1) := by decide +kernel
theorem dL_law_1679 : decode cL_law 1679 = .ok (.iadd, 1) := by decide +kernel
theorem dL_law_1680 : decode cL_law 1680 = .ok (.iaload, 1) := by decide +kernel
theorem dL_law_1681 : decode cL_law 1681 = .ok (.aload_n 0, 1) := by decide +kernel
theorem dL_law_1682 : decode cL_law 1682 = .ok (.iload_n 3, 1) := by decide +kernel
theorem dL_law_1683 : decode cL_law 1683 = .ok (.iconst 2, 1) := by decide +kernel
theorem dL_law_1684 : decode cL_law 1684 = .ok (.iadd, 1) := by decide +kernel
theorem dL_law_1685 : decode cL_law 1685 = .ok (.iaload, 1) := by decide +kernel
theorem dL_law_1686 : decode cL_law 1686 = .ok (.invokevirtual 153, 3) := by decide +kernel
theorem dL_law_1689 : decode cL_law 1689 = .ok (.if_icmp .eq 653, 3) := by decide +kernel
theorem dL_law_1694 : decode cL_law 1694 = .ok (.aload_n 1, 1) := by decide +kernel
theorem dL_law_1695 : decode cL_law 1695 = .ok (.aload_n 0, 1) := by decide +kernel
theorem dL_law_1696 : decode cL_law 1696 = .ok (.iload_n 3, 1) := by decide +kernel
theorem dL_law_1697 : decode cL_law 1697 = .ok (.iconst 1, 1) := by decide +kernel
theorem dL_law_1698 : decode cL_law 1698 = .ok (.iadd, 1) := by decide +kernel
theorem dL_law_1699 : decode cL_law 1699 = .ok (.iaload, 1) := by decide +kernel
theorem dL_law_1700 : decode cL_law 1700 = .ok (.aload_n 0, 1) := by decide +kernel
theorem dL_law_1701 : decode cL_law 1701 = .ok (.iload_n 3, 1) := by decide +kernel
theorem dL_law_1702 : decode cL_law 1702 = .ok (.iconst 2, 1) := by decide +kernel
theorem dL_law_1703 : decode cL_law 1703 = .ok (.iadd, 1) := by decide +kernel
theorem dL_law_1704 : decode cL_law 1704 = .ok (.iaload, 1) := by decide +kernel
theorem dL_law_1705 : decode cL_law 1705 = .ok (.aload_n 0, 1) := by decide +kernel
theorem dL_law_1706 : decode cL_law 1706 = .ok (.iload_n 3, 1) := by decide +kernel
theorem dL_law_1707 : decode cL_law 1707 = .ok (.iconst 3, 1) := by decide +kernel
theorem dL_law_1708 : decode cL_law 1708 = .ok (.iadd, 1) := by decide +kernel
theorem dL_law_1709 : decode cL_law 1709 = .ok (.iaload, 1) := by decide +kernel
theorem dL_law_1710 : decode cL_law 1710 = .ok (.invokevirtual 154, 3) := by decide +kernel
theorem dL_law_1713 : decode cL_law 1713 = .ok (.aload_n 2, 1) := by decide +kernel
theorem dL_law_1714 : decode cL_law 1714 = .ok (.aload_n 0, 1) := by decide +kernel
theorem dL_law_1715 : decode cL_law 1715 = .ok (.iload_n 3, 1) := by decide +kernel
theorem dL_law_1716 : decode cL_law 1716 = .ok (.iconst 1, 1) := by decide +kernel
theorem dL_law_1717 : decode cL_law 1717 = .ok (.iadd, 1) := by decide +kernel
theorem dL_law_1718 : decode cL_law 1718 = .ok (.iaload, 1) := by decide +kernel
theorem dL_law_1719 : decode cL_law 1719 = .ok (.aload_n 0, 1) := by decide +kernel
theorem dL_law_1720 : decode cL_law 1720 = .ok (.iload_n 3, 1) := by decide +kernel
theorem dL_law_1721 : decode cL_law 1721 = .ok (.iconst 2, 1) := by decide +kernel
theorem dL_law_1722 : decode cL_law 1722 = .ok (.iadd, 1) := by decide +kernel
theorem dL_law_1723 : decode cL_law 1723 = .ok (.iaload, 1) := by decide +kernel
theorem dL_law_1724 : decode cL_law 1724 = .ok (.aload_n 0, 1) := by decide +kernel
theorem dL_law_1725 : decode cL_law 1725 = .ok (.iload_n 3, 1) := by decide +kernel
theorem dL_law_1726 : decode cL_law 1726 = .ok (.iconst 3, 1) := by decide +kernel
theorem dL_law_1727 : decode cL_law 1727 = .ok (.iadd, 1) := by decide +kernel
theorem dL_law_1728 : decode cL_law 1728 = .ok (.iaload, 1) := by decide +kernel
theorem dL_law_1729 : decode cL_law 1729 = .ok (.invokevirtual 157, 3) := by decide +kernel
theorem dL_law_1732 : decode cL_law 1732 = .ok (.if_icmp .eq 610, 3) := by decide +kernel
theorem dL_law_1737 : decode cL_law 1737 = .ok (.aload_n 1, 1) := by decide +kernel
theorem dL_law_1738 : decode cL_law 1738 = .ok (.aload_n 0, 1) := by decide +kernel
theorem dL_law_1739 : decode cL_law 1739 = .ok (.iload_n 3, 1) := by decide +kernel
theorem dL_law_1740 : decode cL_law 1740 = .ok (.iconst 1, 1) := by decide +kernel
theorem dL_law_1741 : decode cL_law 1741 = .ok (.iadd, 1) := by decide +kernel
theorem dL_law_1742 : decode cL_law 1742 = .ok (.iaload, 1) := by decide +kernel
theorem dL_law_1743 : decode cL_law 1743 = .ok (.aload_n 0, 1) := by decide +kernel
theorem dL_law_1744 : decode cL_law 1744 = .ok (.iload_n 3, 1) := by decide +kernel
theorem dL_law_1745 : decode cL_law 1745 = .ok (.iconst 2, 1) := by decide +kernel
theorem dL_law_1746 : decode cL_law 1746 = .ok (.iadd, 1) := by decide +kernel
theorem dL_law_1747 : decode cL_law 1747 = .ok (.iaload, 1) := by decide +kernel
theorem dL_law_1748 : decode cL_law 1748 = .ok (.invokevirtual 158, 3) := by decide +kernel
theorem dL_law_1751 : decode cL_law 1751 = .ok (.aload_n 2, 1) := by decide +kernel
theorem dL_law_1752 : decode cL_law 1752 = .ok (.aload_n 0, 1) := by decide +kernel
theorem dL_law_1753 : decode cL_law 1753 = .ok (.iload_n 3, 1) := by decide +kernel
theorem dL_law_1754 : decode cL_law 1754 = .ok (.iconst 1, 1) := by decide +kernel
theorem dL_law_1755 : decode cL_law 1755 = .ok (.iadd, 1) := by decide +kernel
theorem dL_law_1756 : decode cL_law 1756 = .ok (.iaload, 1) := by decide +kernel
theorem dL_law_1757 : decode cL_law 1757 = .ok (.aload_n 0, 1) := by decide +kernel
theorem dL_law_1758 : decode cL_law 1758 = .ok (.iload_n 3, 1) := by decide +kernel
theorem dL_law_1759 : decode cL_law 1759 = .ok (.iconst 2, 1) := by decide +kernel
theorem dL_law_1760 : decode cL_law 1760 = .ok (.iadd, 1) := by decide +kernel
theorem dL_law_1761 : decode cL_law 1761 = .ok (.iaload, 1) := by decide +kernel
theorem dL_law_1762 : decode cL_law 1762 = .ok (.invokevirtual 161, 3) := by decide +kernel
theorem dL_law_1765 : decode cL_law 1765 = .ok (.if_icmp .eq 577, 3) := by decide +kernel
theorem dL_law_1770 : decode cL_law 1770 = .ok (.aload_n 1, 1) := by decide +kernel
theorem dL_law_1771 : decode cL_law 1771 = .ok (.invokevirtual 162, 3) := by decide +kernel
theorem dL_law_1774 : decode cL_law 1774 = .ok (.aload_n 2, 1) := by decide +kernel
theorem dL_law_1775 : decode cL_law 1775 = .ok (.invokevirtual 165, 3) := by decide +kernel
theorem dL_law_1778 : decode cL_law 1778 = .ok (.if_icmp .eq 564, 3) := by decide +kernel
theorem lw_condition (hG : G.2.2.2 3 = (b, Lx, xs)) (hi : i + 9 ≤ Lx) (hLx : Lx ≤ 4608) (h0 : 0 < K.1) (h12 : (K.2.1 0).1 = 12) (hdc : dc + 1 ≤ d) (hdr : dr + 1 ≤ d)
    (hop : OpA n0 xX12_condition xX13_condition dc dr mc ms [.int (xs (i + 1)), .int (xs (i + 2)), .int (xs (i + 3)), .int (xs (i + 4)), .int (xs (i + 5)), .int (xs (i + 6)), .int (xs (i + 7))] K I L (fun K' I' L' => ZG G n0 xL_law d rc rs 18 [(0, .ref b), (1, .ref (n0 + 0)), (2, .ref (n0 + 59)), (3, .int (nI (i + 9)))] [] K' I' L' Q)) :
    ZH G n0 xL_law d (rc + mc) (rs + ms) 1527 [(0, .ref b), (1, .ref (n0 + 0)), (2, .ref (n0 + 59)), (3, .int (nI i))] [] K I L Q := by
  refine yh_aload_n 1 dL_law_1527 rfl ?_
  refine yh_aload_n 0 dL_law_1528 rfl ?_
  refine yh_iload_n 3 dL_law_1529 rfl ?_
  refine yh_iconst 1 dL_law_1530 (by decide) ?_
  refine yh_iadd dL_law_1531 ?_
  refine yh_sld hG dL_law_1532 (law_ix (c := 1) (j := 1) rfl hi hLx (by omega)) ?_
  rw [law_cl (c := 1) (j := 1) rfl hi hLx (by omega)]
  refine yh_aload_n 0 dL_law_1533 rfl ?_
  refine yh_iload_n 3 dL_law_1534 rfl ?_
  refine yh_iconst 2 dL_law_1535 (by decide) ?_
  refine yh_iadd dL_law_1536 ?_
  refine yh_sld hG dL_law_1537 (law_ix (c := 2) (j := 2) rfl hi hLx (by omega)) ?_
  rw [law_cl (c := 2) (j := 2) rfl hi hLx (by omega)]
  refine yh_aload_n 0 dL_law_1538 rfl ?_
  refine yh_iload_n 3 dL_law_1539 rfl ?_
  refine yh_iconst 3 dL_law_1540 (by decide) ?_
  refine yh_iadd dL_law_1541 ?_
  refine yh_sld hG dL_law_1542 (law_ix (c := 3) (j := 3) rfl hi hLx (by omega)) ?_
  rw [law_cl (c := 3) (j := 3) rfl hi hLx (by omega)]
  refine yh_aload_n 0 dL_law_1543 rfl ?_
  refine yh_iload_n 3 dL_law_1544 rfl ?_
  refine yh_iconst 4 dL_law_1545 (by decide) ?_
  refine yh_iadd dL_law_1546 ?_
  refine yh_sld hG dL_law_1547 (law_ix (c := 4) (j := 4) rfl hi hLx (by omega)) ?_
  rw [law_cl (c := 4) (j := 4) rfl hi hLx (by omega)]
  refine yh_aload_n 0 dL_law_1548 rfl ?_
  refine yh_iload_n 3 dL_law_1549 rfl ?_
  refine yh_iconst 5 dL_law_1550 (by decide) ?_
  refine yh_iadd dL_law_1551 ?_
  refine yh_sld hG dL_law_1552 (law_ix (c := 5) (j := 5) rfl hi hLx (by omega)) ?_
  rw [law_cl (c := 5) (j := 5) rfl hi hLx (by omega)]
  refine yh_aload_n 0 dL_law_1553 rfl ?_
  refine yh_iload_n 3 dL_law_1554 rfl ?_
  refine yh_bipush 6 dL_law_1555 (by decide) ?_
  refine yh_iadd dL_law_1557 ?_
  refine yh_sld hG dL_law_1558 (law_ix (c := 6) (j := 6) rfl hi hLx (by omega)) ?_
  rw [law_cl (c := 6) (j := 6) rfl hi hLx (by omega)]
  refine yh_aload_n 0 dL_law_1559 rfl ?_
  refine yh_iload_n 3 dL_law_1560 rfl ?_
  refine yh_bipush 7 dL_law_1561 (by decide) ?_
  refine yh_iadd dL_law_1563 ?_
  refine yh_sld hG dL_law_1564 (law_ix (c := 7) (j := 7) rfl hi hLx (by omega)) ?_
  rw [law_cl (c := 7) (j := 7) rfl hi hLx (by omega)]
  refine yh_callV (rc := rc) (rs := rs) (mc1 := mc) (ms1 := ms) (k := 0) (c := 12) (As := [.int (xs (i + 1)), .int (xs (i + 2)), .int (xs (i + 3)), .int (xs (i + 4)), .int (xs (i + 5)), .int (xs (i + 6)), .int (xs (i + 7))]) dL_law_1565 hy_X12_condition h0 h12 (by decide) wg_1053 wg_1054 wg_1055 hdc (Nat.le_of_ble_eq_true rfl) (RM.mono hop ?_)
  clear hop
  rintro vv K1 I1 L1 ⟨r, rfl, hop⟩
  change ZH G n0 xL_law d rc rs _ _ [.int r] K1 I1 L1 Q
  refine yh_aload_n 2 dL_law_1568 rfl ?_
  refine yh_aload_n 0 dL_law_1569 rfl ?_
  refine yh_iload_n 3 dL_law_1570 rfl ?_
  refine yh_iconst 1 dL_law_1571 (by decide) ?_
  refine yh_iadd dL_law_1572 ?_
  refine yh_sld hG dL_law_1573 (law_ix (c := 1) (j := 1) rfl hi hLx (by omega)) ?_
  rw [law_cl (c := 1) (j := 1) rfl hi hLx (by omega)]
  refine yh_aload_n 0 dL_law_1574 rfl ?_
  refine yh_iload_n 3 dL_law_1575 rfl ?_
  refine yh_iconst 2 dL_law_1576 (by decide) ?_
  refine yh_iadd dL_law_1577 ?_
  refine yh_sld hG dL_law_1578 (law_ix (c := 2) (j := 2) rfl hi hLx (by omega)) ?_
  rw [law_cl (c := 2) (j := 2) rfl hi hLx (by omega)]
  refine yh_aload_n 0 dL_law_1579 rfl ?_
  refine yh_iload_n 3 dL_law_1580 rfl ?_
  refine yh_iconst 3 dL_law_1581 (by decide) ?_
  refine yh_iadd dL_law_1582 ?_
  refine yh_sld hG dL_law_1583 (law_ix (c := 3) (j := 3) rfl hi hLx (by omega)) ?_
  rw [law_cl (c := 3) (j := 3) rfl hi hLx (by omega)]
  refine yh_aload_n 0 dL_law_1584 rfl ?_
  refine yh_iload_n 3 dL_law_1585 rfl ?_
  refine yh_iconst 4 dL_law_1586 (by decide) ?_
  refine yh_iadd dL_law_1587 ?_
  refine yh_sld hG dL_law_1588 (law_ix (c := 4) (j := 4) rfl hi hLx (by omega)) ?_
  rw [law_cl (c := 4) (j := 4) rfl hi hLx (by omega)]
  refine yh_aload_n 0 dL_law_1589 rfl ?_
  refine yh_iload_n 3 dL_law_1590 rfl ?_
  refine yh_iconst 5 dL_law_1591 (by decide) ?_
  refine yh_iadd dL_law_1592 ?_
  refine yh_sld hG dL_law_1593 (law_ix (c := 5) (j := 5) rfl hi hLx (by omega)) ?_
  rw [law_cl (c := 5) (j := 5) rfl hi hLx (by omega)]
  refine yh_aload_n 0 dL_law_1594 rfl ?_
  refine yh_iload_n 3 dL_law_1595 rfl ?_
  refine yh_bipush 6 dL_law_1596 (by decide) ?_
  refine yh_iadd dL_law_1598 ?_
  refine yh_sld hG dL_law_1599 (law_ix (c := 6) (j := 6) rfl hi hLx (by omega)) ?_
  rw [law_cl (c := 6) (j := 6) rfl hi hLx (by omega)]
  refine yh_aload_n 0 dL_law_1600 rfl ?_
  refine yh_iload_n 3 dL_law_1601 rfl ?_
  refine yh_bipush 7 dL_law_1602 (by decide) ?_
  refine yh_iadd dL_law_1604 ?_
  refine yh_sld hG dL_law_1605 (law_ix (c := 7) (j := 7) rfl hi hLx (by omega)) ?_
  rw [law_cl (c := 7) (j := 7) rfl hi hLx (by omega)]
  refine yh_callM (As := [.int (xs (i + 1)), .int (xs (i + 2)), .int (xs (i + 3)), .int (xs (i + 4)), .int (xs (i + 5)), .int (xs (i + 6)), .int (xs (i + 7))]) (st := [.int r]) dL_law_1606 hy_X13_condition wg_2051 wg_2052 wg_2053 hdr (Nat.le_of_ble_eq_true rfl) (RM0.mono hop ?_)
  clear hop
  rintro vv I2 L2 ⟨rfl, hP⟩
  change ZH G n0 xL_law d rc rs _ _ [.int r, .int r] K1 I2 L2 Q
  refine yh_icmp_eq 2342 dL_law_1609 (by decide) (fun _ => ?_) (fun z => absurd rfl z)
  refine yh_iinc (j := 3) (nI (i + 9)) [1, 2, 3, 0] [(0, .ref b), (1, .ref (n0 + 0)), (2, .ref (n0 + 59)), (3, .int (nI (i + 9)))] dL_law_2342 rfl q_nadd (Nat.le_of_ble_eq_true rfl) rfl ?_
  refine yh_goto 18 dL_law_2345 (by decide) ?_
  exact ZH.ofG hP
theorem lw_free (hG : G.2.2.2 3 = (b, Lx, xs)) (hi : i + 9 ≤ Lx) (hLx : Lx ≤ 4608) (h0 : 0 < K.1) (h12 : (K.2.1 0).1 = 12) (hdc : dc + 1 ≤ d) (hdr : dr + 1 ≤ d)
    (hop : OpA n0 xX12_free xX13_free dc dr mc ms [] K I L (fun K' I' L' => ZG G n0 xL_law d rc rs 18 [(0, .ref b), (1, .ref (n0 + 0)), (2, .ref (n0 + 59)), (3, .int (nI (i + 9)))] [] K' I' L' Q)) :
    ZH G n0 xL_law d (rc + mc) (rs + ms) 1614 [(0, .ref b), (1, .ref (n0 + 0)), (2, .ref (n0 + 59)), (3, .int (nI i))] [] K I L Q := by
  refine yh_aload_n 1 dL_law_1614 rfl ?_
  refine yh_callV (rc := rc) (rs := rs) (mc1 := mc) (ms1 := ms) (k := 0) (c := 12) (As := []) dL_law_1615 hy_X12_free h0 h12 (by decide) wg_1061 wg_1062 wg_1063 hdc (Nat.le_of_ble_eq_true rfl) (RM.mono hop ?_)
  clear hop
  rintro vv K1 I1 L1 ⟨r, rfl, hop⟩
  change ZH G n0 xL_law d rc rs _ _ [.int r] K1 I1 L1 Q
  refine yh_aload_n 2 dL_law_1618 rfl ?_
  refine yh_callM (As := []) (st := [.int r]) dL_law_1619 hy_X13_free wg_2055 wg_2056 wg_2057 hdr (Nat.le_of_ble_eq_true rfl) (RM0.mono hop ?_)
  clear hop
  rintro vv I2 L2 ⟨rfl, hP⟩
  change ZH G n0 xL_law d rc rs _ _ [.int r, .int r] K1 I2 L2 Q
  refine yh_icmp_eq 2342 dL_law_1622 (by decide) (fun _ => ?_) (fun z => absurd rfl z)
  refine yh_iinc (j := 3) (nI (i + 9)) [1, 2, 3, 0] [(0, .ref b), (1, .ref (n0 + 0)), (2, .ref (n0 + 59)), (3, .int (nI (i + 9)))] dL_law_2342 rfl q_nadd (Nat.le_of_ble_eq_true rfl) rfl ?_
  refine yh_goto 18 dL_law_2345 (by decide) ?_
  exact ZH.ofG hP
theorem lw_least (hG : G.2.2.2 3 = (b, Lx, xs)) (hi : i + 9 ≤ Lx) (hLx : Lx ≤ 4608) (h0 : 0 < K.1) (h12 : (K.2.1 0).1 = 12) (hdc : dc + 1 ≤ d) (hdr : dr + 1 ≤ d)
    (hop : OpL n0 xX12_least xX13_least dc dr mc ms [.int (xs (i + 1)), .int (xs (i + 2))] K I L (fun K' I' L' => ZG G n0 xL_law d rc rs 18 [(0, .ref b), (1, .ref (n0 + 0)), (2, .ref (n0 + 59)), (3, .int (nI (i + 9)))] [] K' I' L' Q)) :
    ZH G n0 xL_law d (rc + mc) (rs + ms) 1627 [(0, .ref b), (1, .ref (n0 + 0)), (2, .ref (n0 + 59)), (3, .int (nI i))] [] K I L Q := by
  refine yh_aload_n 1 dL_law_1627 rfl ?_
  refine yh_aload_n 0 dL_law_1628 rfl ?_
  refine yh_iload_n 3 dL_law_1629 rfl ?_
  refine yh_iconst 1 dL_law_1630 (by decide) ?_
  refine yh_iadd dL_law_1631 ?_
  refine yh_sld hG dL_law_1632 (law_ix (c := 1) (j := 1) rfl hi hLx (by omega)) ?_
  rw [law_cl (c := 1) (j := 1) rfl hi hLx (by omega)]
  refine yh_aload_n 0 dL_law_1633 rfl ?_
  refine yh_iload_n 3 dL_law_1634 rfl ?_
  refine yh_iconst 2 dL_law_1635 (by decide) ?_
  refine yh_iadd dL_law_1636 ?_
  refine yh_sld hG dL_law_1637 (law_ix (c := 2) (j := 2) rfl hi hLx (by omega)) ?_
  rw [law_cl (c := 2) (j := 2) rfl hi hLx (by omega)]
  refine yh_callV (rc := rc) (rs := rs) (mc1 := mc) (ms1 := ms) (k := 0) (c := 12) (As := [.int (xs (i + 1)), .int (xs (i + 2))]) dL_law_1638 hy_X12_least h0 h12 (by decide) wg_1065 wg_1066 wg_1067 hdc (Nat.le_of_ble_eq_true rfl) (RM.mono hop ?_)
  clear hop
  rintro vv K1 I1 L1 ⟨r, rfl, hop⟩
  change ZH G n0 xL_law d rc rs _ _ [.long r] K1 I1 L1 Q
  refine yh_aload_n 2 dL_law_1641 rfl ?_
  refine yh_aload_n 0 dL_law_1642 rfl ?_
  refine yh_iload_n 3 dL_law_1643 rfl ?_
  refine yh_iconst 1 dL_law_1644 (by decide) ?_
  refine yh_iadd dL_law_1645 ?_
  refine yh_sld hG dL_law_1646 (law_ix (c := 1) (j := 1) rfl hi hLx (by omega)) ?_
  rw [law_cl (c := 1) (j := 1) rfl hi hLx (by omega)]
  refine yh_aload_n 0 dL_law_1647 rfl ?_
  refine yh_iload_n 3 dL_law_1648 rfl ?_
  refine yh_iconst 2 dL_law_1649 (by decide) ?_
  refine yh_iadd dL_law_1650 ?_
  refine yh_sld hG dL_law_1651 (law_ix (c := 2) (j := 2) rfl hi hLx (by omega)) ?_
  rw [law_cl (c := 2) (j := 2) rfl hi hLx (by omega)]
  refine yh_callM (As := [.int (xs (i + 1)), .int (xs (i + 2))]) (st := [.long r]) dL_law_1652 hy_X13_least wg_2059 wg_2060 wg_2061 hdr (Nat.le_of_ble_eq_true rfl) (RM0.mono hop ?_)
  clear hop
  rintro vv I2 L2 ⟨rfl, hP⟩
  change ZH G n0 xL_law d rc rs _ _ [.long r, .long r] K1 I2 L2 Q
  refine yh_lcmp dL_law_1655 ?_
  refine yh_if_eq 2342 dL_law_1656 (by decide) (fun _ => ?_) (fun z => absurd (lg_cmp_rf r) z)
  refine yh_iinc (j := 3) (nI (i + 9)) [1, 2, 3, 0] [(0, .ref b), (1, .ref (n0 + 0)), (2, .ref (n0 + 59)), (3, .int (nI (i + 9)))] dL_law_2342 rfl q_nadd (Nat.le_of_ble_eq_true rfl) rfl ?_
  refine yh_goto 18 dL_law_2345 (by decide) ?_
  exact ZH.ofG hP
theorem lw_cloth (hG : G.2.2.2 3 = (b, Lx, xs)) (hi : i + 9 ≤ Lx) (hLx : Lx ≤ 4608) (h0 : 0 < K.1) (h12 : (K.2.1 0).1 = 12) (hdc : dc + 1 ≤ d) (hdr : dr + 1 ≤ d)
    (hop : OpA n0 xX12_cloth xX13_cloth dc dr mc ms [.int (xs (i + 1)), .int (xs (i + 2))] K I L (fun K' I' L' => ZG G n0 xL_law d rc rs 18 [(0, .ref b), (1, .ref (n0 + 0)), (2, .ref (n0 + 59)), (3, .int (nI (i + 9)))] [] K' I' L' Q)) :
    ZH G n0 xL_law d (rc + mc) (rs + ms) 1661 [(0, .ref b), (1, .ref (n0 + 0)), (2, .ref (n0 + 59)), (3, .int (nI i))] [] K I L Q := by
  refine yh_aload_n 1 dL_law_1661 rfl ?_
  refine yh_aload_n 0 dL_law_1662 rfl ?_
  refine yh_iload_n 3 dL_law_1663 rfl ?_
  refine yh_iconst 1 dL_law_1664 (by decide) ?_
  refine yh_iadd dL_law_1665 ?_
  refine yh_sld hG dL_law_1666 (law_ix (c := 1) (j := 1) rfl hi hLx (by omega)) ?_
  rw [law_cl (c := 1) (j := 1) rfl hi hLx (by omega)]
  refine yh_aload_n 0 dL_law_1667 rfl ?_
  refine yh_iload_n 3 dL_law_1668 rfl ?_
  refine yh_iconst 2 dL_law_1669 (by decide) ?_
  refine yh_iadd dL_law_1670 ?_
  refine yh_sld hG dL_law_1671 (law_ix (c := 2) (j := 2) rfl hi hLx (by omega)) ?_
  rw [law_cl (c := 2) (j := 2) rfl hi hLx (by omega)]
  refine yh_callV (rc := rc) (rs := rs) (mc1 := mc) (ms1 := ms) (k := 0) (c := 12) (As := [.int (xs (i + 1)), .int (xs (i + 2))]) dL_law_1672 hy_X12_cloth h0 h12 (by decide) wg_1090 wg_1091 wg_1092 hdc (Nat.le_of_ble_eq_true rfl) (RM.mono hop ?_)
  clear hop
  rintro vv K1 I1 L1 ⟨r, rfl, hop⟩
  change ZH G n0 xL_law d rc rs _ _ [.int r] K1 I1 L1 Q
  refine yh_aload_n 2 dL_law_1675 rfl ?_
  refine yh_aload_n 0 dL_law_1676 rfl ?_
  refine yh_iload_n 3 dL_law_1677 rfl ?_
  refine yh_iconst 1 dL_law_1678 (by decide) ?_
  refine yh_iadd dL_law_1679 ?_
  refine yh_sld hG dL_law_1680 (law_ix (c := 1) (j := 1) rfl hi hLx (by omega)) ?_
  rw [law_cl (c := 1) (j := 1) rfl hi hLx (by omega)]
  refine yh_aload_n 0 dL_law_1681 rfl ?_
  refine yh_iload_n 3 dL_law_1682 rfl ?_
  refine yh_iconst 2 dL_law_1683 (by decide) ?_
  refine yh_iadd dL_law_1684 ?_
  refine yh_sld hG dL_law_1685 (law_ix (c := 2) (j := 2) rfl hi hLx (by omega)) ?_
  rw [law_cl (c := 2) (j := 2) rfl hi hLx (by omega)]
  refine yh_callM (As := [.int (xs (i + 1)), .int (xs (i + 2))]) (st := [.int r]) dL_law_1686 hy_X13_cloth wg_2079 wg_2080 wg_2081 hdr (Nat.le_of_ble_eq_true rfl) (RM0.mono hop ?_)
  clear hop
  rintro vv I2 L2 ⟨rfl, hP⟩
  change ZH G n0 xL_law d rc rs _ _ [.int r, .int r] K1 I2 L2 Q
  refine yh_icmp_eq 2342 dL_law_1689 (by decide) (fun _ => ?_) (fun z => absurd rfl z)
  refine yh_iinc (j := 3) (nI (i + 9)) [1, 2, 3, 0] [(0, .ref b), (1, .ref (n0 + 0)), (2, .ref (n0 + 59)), (3, .int (nI (i + 9)))] dL_law_2342 rfl q_nadd (Nat.le_of_ble_eq_true rfl) rfl ?_
  refine yh_goto 18 dL_law_2345 (by decide) ?_
  exact ZH.ofG hP
theorem lw_cells (hG : G.2.2.2 3 = (b, Lx, xs)) (hi : i + 9 ≤ Lx) (hLx : Lx ≤ 4608) (h0 : 0 < K.1) (h12 : (K.2.1 0).1 = 12) (hdc : dc + 1 ≤ d) (hdr : dr + 1 ≤ d)
    (hop : OpA n0 xX12_cells xX13_cells dc dr mc ms [.int (xs (i + 1)), .int (xs (i + 2)), .int (xs (i + 3))] K I L (fun K' I' L' => ZG G n0 xL_law d rc rs 18 [(0, .ref b), (1, .ref (n0 + 0)), (2, .ref (n0 + 59)), (3, .int (nI (i + 9)))] [] K' I' L' Q)) :
    ZH G n0 xL_law d (rc + mc) (rs + ms) 1694 [(0, .ref b), (1, .ref (n0 + 0)), (2, .ref (n0 + 59)), (3, .int (nI i))] [] K I L Q := by
  refine yh_aload_n 1 dL_law_1694 rfl ?_
  refine yh_aload_n 0 dL_law_1695 rfl ?_
  refine yh_iload_n 3 dL_law_1696 rfl ?_
  refine yh_iconst 1 dL_law_1697 (by decide) ?_
  refine yh_iadd dL_law_1698 ?_
  refine yh_sld hG dL_law_1699 (law_ix (c := 1) (j := 1) rfl hi hLx (by omega)) ?_
  rw [law_cl (c := 1) (j := 1) rfl hi hLx (by omega)]
  refine yh_aload_n 0 dL_law_1700 rfl ?_
  refine yh_iload_n 3 dL_law_1701 rfl ?_
  refine yh_iconst 2 dL_law_1702 (by decide) ?_
  refine yh_iadd dL_law_1703 ?_
  refine yh_sld hG dL_law_1704 (law_ix (c := 2) (j := 2) rfl hi hLx (by omega)) ?_
  rw [law_cl (c := 2) (j := 2) rfl hi hLx (by omega)]
  refine yh_aload_n 0 dL_law_1705 rfl ?_
  refine yh_iload_n 3 dL_law_1706 rfl ?_
  refine yh_iconst 3 dL_law_1707 (by decide) ?_
  refine yh_iadd dL_law_1708 ?_
  refine yh_sld hG dL_law_1709 (law_ix (c := 3) (j := 3) rfl hi hLx (by omega)) ?_
  rw [law_cl (c := 3) (j := 3) rfl hi hLx (by omega)]
  refine yh_callV (rc := rc) (rs := rs) (mc1 := mc) (ms1 := ms) (k := 0) (c := 12) (As := [.int (xs (i + 1)), .int (xs (i + 2)), .int (xs (i + 3))]) dL_law_1710 hy_X12_cells h0 h12 (by decide) wg_1098 wg_1099 wg_1100 hdc (Nat.le_of_ble_eq_true rfl) (RM.mono hop ?_)
  clear hop
  rintro vv K1 I1 L1 ⟨r, rfl, hop⟩
  change ZH G n0 xL_law d rc rs _ _ [.int r] K1 I1 L1 Q
  refine yh_aload_n 2 dL_law_1713 rfl ?_
  refine yh_aload_n 0 dL_law_1714 rfl ?_
  refine yh_iload_n 3 dL_law_1715 rfl ?_
  refine yh_iconst 1 dL_law_1716 (by decide) ?_
  refine yh_iadd dL_law_1717 ?_
  refine yh_sld hG dL_law_1718 (law_ix (c := 1) (j := 1) rfl hi hLx (by omega)) ?_
  rw [law_cl (c := 1) (j := 1) rfl hi hLx (by omega)]
  refine yh_aload_n 0 dL_law_1719 rfl ?_
  refine yh_iload_n 3 dL_law_1720 rfl ?_
  refine yh_iconst 2 dL_law_1721 (by decide) ?_
  refine yh_iadd dL_law_1722 ?_
  refine yh_sld hG dL_law_1723 (law_ix (c := 2) (j := 2) rfl hi hLx (by omega)) ?_
  rw [law_cl (c := 2) (j := 2) rfl hi hLx (by omega)]
  refine yh_aload_n 0 dL_law_1724 rfl ?_
  refine yh_iload_n 3 dL_law_1725 rfl ?_
  refine yh_iconst 3 dL_law_1726 (by decide) ?_
  refine yh_iadd dL_law_1727 ?_
  refine yh_sld hG dL_law_1728 (law_ix (c := 3) (j := 3) rfl hi hLx (by omega)) ?_
  rw [law_cl (c := 3) (j := 3) rfl hi hLx (by omega)]
  refine yh_callM (As := [.int (xs (i + 1)), .int (xs (i + 2)), .int (xs (i + 3))]) (st := [.int r]) dL_law_1729 hy_X13_cells wg_2083 wg_2084 wg_2085 hdr (Nat.le_of_ble_eq_true rfl) (RM0.mono hop ?_)
  clear hop
  rintro vv I2 L2 ⟨rfl, hP⟩
  change ZH G n0 xL_law d rc rs _ _ [.int r, .int r] K1 I2 L2 Q
  refine yh_icmp_eq 2342 dL_law_1732 (by decide) (fun _ => ?_) (fun z => absurd rfl z)
  refine yh_iinc (j := 3) (nI (i + 9)) [1, 2, 3, 0] [(0, .ref b), (1, .ref (n0 + 0)), (2, .ref (n0 + 59)), (3, .int (nI (i + 9)))] dL_law_2342 rfl q_nadd (Nat.le_of_ble_eq_true rfl) rfl ?_
  refine yh_goto 18 dL_law_2345 (by decide) ?_
  exact ZH.ofG hP
theorem lw_lays (hG : G.2.2.2 3 = (b, Lx, xs)) (hi : i + 9 ≤ Lx) (hLx : Lx ≤ 4608) (h0 : 0 < K.1) (h12 : (K.2.1 0).1 = 12) (hdc : dc + 1 ≤ d) (hdr : dr + 1 ≤ d)
    (hop : OpA n0 xX12_lays xX13_lays dc dr mc ms [.int (xs (i + 1)), .int (xs (i + 2))] K I L (fun K' I' L' => ZG G n0 xL_law d rc rs 18 [(0, .ref b), (1, .ref (n0 + 0)), (2, .ref (n0 + 59)), (3, .int (nI (i + 9)))] [] K' I' L' Q)) :
    ZH G n0 xL_law d (rc + mc) (rs + ms) 1737 [(0, .ref b), (1, .ref (n0 + 0)), (2, .ref (n0 + 59)), (3, .int (nI i))] [] K I L Q := by
  refine yh_aload_n 1 dL_law_1737 rfl ?_
  refine yh_aload_n 0 dL_law_1738 rfl ?_
  refine yh_iload_n 3 dL_law_1739 rfl ?_
  refine yh_iconst 1 dL_law_1740 (by decide) ?_
  refine yh_iadd dL_law_1741 ?_
  refine yh_sld hG dL_law_1742 (law_ix (c := 1) (j := 1) rfl hi hLx (by omega)) ?_
  rw [law_cl (c := 1) (j := 1) rfl hi hLx (by omega)]
  refine yh_aload_n 0 dL_law_1743 rfl ?_
  refine yh_iload_n 3 dL_law_1744 rfl ?_
  refine yh_iconst 2 dL_law_1745 (by decide) ?_
  refine yh_iadd dL_law_1746 ?_
  refine yh_sld hG dL_law_1747 (law_ix (c := 2) (j := 2) rfl hi hLx (by omega)) ?_
  rw [law_cl (c := 2) (j := 2) rfl hi hLx (by omega)]
  refine yh_callV (rc := rc) (rs := rs) (mc1 := mc) (ms1 := ms) (k := 0) (c := 12) (As := [.int (xs (i + 1)), .int (xs (i + 2))]) dL_law_1748 hy_X12_lays h0 h12 (by decide) wg_1132 wg_1133 wg_1134 hdc (Nat.le_of_ble_eq_true rfl) (RM.mono hop ?_)
  clear hop
  rintro vv K1 I1 L1 ⟨r, rfl, hop⟩
  change ZH G n0 xL_law d rc rs _ _ [.int r] K1 I1 L1 Q
  refine yh_aload_n 2 dL_law_1751 rfl ?_
  refine yh_aload_n 0 dL_law_1752 rfl ?_
  refine yh_iload_n 3 dL_law_1753 rfl ?_
  refine yh_iconst 1 dL_law_1754 (by decide) ?_
  refine yh_iadd dL_law_1755 ?_
  refine yh_sld hG dL_law_1756 (law_ix (c := 1) (j := 1) rfl hi hLx (by omega)) ?_
  rw [law_cl (c := 1) (j := 1) rfl hi hLx (by omega)]
  refine yh_aload_n 0 dL_law_1757 rfl ?_
  refine yh_iload_n 3 dL_law_1758 rfl ?_
  refine yh_iconst 2 dL_law_1759 (by decide) ?_
  refine yh_iadd dL_law_1760 ?_
  refine yh_sld hG dL_law_1761 (law_ix (c := 2) (j := 2) rfl hi hLx (by omega)) ?_
  rw [law_cl (c := 2) (j := 2) rfl hi hLx (by omega)]
  refine yh_callM (As := [.int (xs (i + 1)), .int (xs (i + 2))]) (st := [.int r]) dL_law_1762 hy_X13_lays wg_2098 wg_2099 wg_2100 hdr (Nat.le_of_ble_eq_true rfl) (RM0.mono hop ?_)
  clear hop
  rintro vv I2 L2 ⟨rfl, hP⟩
  change ZH G n0 xL_law d rc rs _ _ [.int r, .int r] K1 I2 L2 Q
  refine yh_icmp_eq 2342 dL_law_1765 (by decide) (fun _ => ?_) (fun z => absurd rfl z)
  refine yh_iinc (j := 3) (nI (i + 9)) [1, 2, 3, 0] [(0, .ref b), (1, .ref (n0 + 0)), (2, .ref (n0 + 59)), (3, .int (nI (i + 9)))] dL_law_2342 rfl q_nadd (Nat.le_of_ble_eq_true rfl) rfl ?_
  refine yh_goto 18 dL_law_2345 (by decide) ?_
  exact ZH.ofG hP
theorem lw_clear (hG : G.2.2.2 3 = (b, Lx, xs)) (hi : i + 9 ≤ Lx) (hLx : Lx ≤ 4608) (h0 : 0 < K.1) (h12 : (K.2.1 0).1 = 12) (hdc : dc + 1 ≤ d) (hdr : dr + 1 ≤ d)
    (hop : OpA n0 xX12_clear xX13_clear dc dr mc ms [] K I L (fun K' I' L' => ZG G n0 xL_law d rc rs 18 [(0, .ref b), (1, .ref (n0 + 0)), (2, .ref (n0 + 59)), (3, .int (nI (i + 9)))] [] K' I' L' Q)) :
    ZH G n0 xL_law d (rc + mc) (rs + ms) 1770 [(0, .ref b), (1, .ref (n0 + 0)), (2, .ref (n0 + 59)), (3, .int (nI i))] [] K I L Q := by
  refine yh_aload_n 1 dL_law_1770 rfl ?_
  refine yh_callV (rc := rc) (rs := rs) (mc1 := mc) (ms1 := ms) (k := 0) (c := 12) (As := []) dL_law_1771 hy_X12_clear h0 h12 (by decide) wg_1140 wg_1141 wg_1142 hdc (Nat.le_of_ble_eq_true rfl) (RM.mono hop ?_)
  clear hop
  rintro vv K1 I1 L1 ⟨r, rfl, hop⟩
  change ZH G n0 xL_law d rc rs _ _ [.int r] K1 I1 L1 Q
  refine yh_aload_n 2 dL_law_1774 rfl ?_
  refine yh_callM (As := []) (st := [.int r]) dL_law_1775 hy_X13_clear wg_2102 wg_2103 wg_2104 hdr (Nat.le_of_ble_eq_true rfl) (RM0.mono hop ?_)
  clear hop
  rintro vv I2 L2 ⟨rfl, hP⟩
  change ZH G n0 xL_law d rc rs _ _ [.int r, .int r] K1 I2 L2 Q
  refine yh_icmp_eq 2342 dL_law_1778 (by decide) (fun _ => ?_) (fun z => absurd rfl z)
  refine yh_iinc (j := 3) (nI (i + 9)) [1, 2, 3, 0] [(0, .ref b), (1, .ref (n0 + 0)), (2, .ref (n0 + 59)), (3, .int (nI (i + 9)))] dL_law_2342 rfl q_nadd (Nat.le_of_ble_eq_true rfl) rfl ?_
  refine yh_goto 18 dL_law_2345 (by decide) ?_
  exact ZH.ofG hP
end LAWC
