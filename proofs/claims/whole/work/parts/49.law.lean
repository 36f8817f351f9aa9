theorem dL_law_1640 : decode cL_law 1640 = .ok (.aload_n 1, 1) := by decide +kernel
theorem dL_law_1641 : decode cL_law 1641 = .ok (.aload_n 0, 1) := by decide +kernel
theorem dL_law_1642 : decode cL_law 1642 = .ok (.iload_n 3, 1) := by decide +kernel
theorem dL_law_1643 : decode cL_law 1643 = .ok (.iconst 1, 1) := by decide +kernel
theorem dL_law_1644 : decode cL_law 1644 = .ok (.iadd, 1) := by decide +kernel
theorem dL_law_1645 : decode cL_law 1645 = .ok (.iaload, 1) := by decide +kernel
theorem dL_law_1646 : decode cL_law 1646 = .ok (.aload_n 0, 1) := by decide +kernel
theorem dL_law_1647 : decode cL_law 1647 = .ok (.iload_n 3, 1) := by decide +kernel
theorem dL_law_1648 : decode cL_law 1648 = .ok (.iconst 2, 1) := by decide +kernel
theorem dL_law_1649 : decode cL_law 1649 = .ok (.iadd, 1) := by decide +kernel
theorem dL_law_1650 : decode cL_law 1650 = .ok (.iaload, 1) := by decide +kernel
theorem dL_law_1651 : decode cL_law 1651 = .ok (.aload_n 0, 1) := by decide +kernel
theorem dL_law_1652 : decode cL_law 1652 = .ok (.iload_n 3, 1) := by decide +kernel
theorem dL_law_1653 : decode cL_law 1653 = .ok (.iconst 3, 1) := by decide +kernel
theorem dL_law_1654 : decode cL_law 1654 = .ok (.iadd, 1) := by decide +kernel
theorem dL_law_1655 : decode cL_law 1655 = .ok (.iaload, 1) := by decide +kernel
theorem dL_law_1656 : decode cL_law 1656 = .ok (.aload_n 0, 1) := by decide +kernel
theorem dL_law_1657 : decode cL_law 1657 = .ok (.iload_n 3, 1) := by decide +kernel
theorem dL_law_1658 : decode cL_law 1658 = .ok (.iconst 4, 1) := by decide +kernel
theorem dL_law_1659 : decode cL_law 1659 = .ok (.iadd, 1) := by decide +kernel
theorem dL_law_1660 : decode cL_law 1660 = .ok (.iaload, 1) := by decide +kernel
theorem dL_law_1661 : decode cL_law 1661 = .ok (.aload_n 0, 1) := by decide +kernel
theorem dL_law_1662 : decode cL_law 1662 = .ok (.iload_n 3, 1) := by decide +kernel
theorem dL_law_1663 : decode cL_law 1663 = .ok (.iconst 5, 1) := by decide +kernel
theorem dL_law_1664 : decode cL_law 1664 = .ok (.iadd, 1) := by decide +kernel
theorem dL_law_1665 : decode cL_law 1665 = .ok (.iaload, 1) := by decide +kernel
theorem dL_law_1666 : decode cL_law 1666 = .ok (.invokevirtual 181, 3) := by decide +kernel
theorem dL_law_1669 : decode cL_law 1669 = .ok (.aload_n 2, 1) := by decide +kernel
theorem dL_law_1670 : decode cL_law 1670 = .ok (.aload_n 0, 1) := by decide +kernel
theorem dL_law_1671 : decode cL_law 1671 = .ok (.iload_n 3, 1) := by decide +kernel
theorem dL_law_1672 : decode cL_law 1672 = .ok (.iconst 1, 1) := by decide +kernel
theorem dL_law_1673 : decode cL_law 1673 = .ok (.iadd, 1) := by decide +kernel
theorem dL_law_1674 : decode cL_law 1674 = .ok (.iaload, 1) := by decide +kernel
theorem dL_law_1675 : decode cL_law 1675 = .ok (.aload_n 0, 1) := by decide +kernel
theorem dL_law_1676 : decode cL_law 1676 = .ok (.iload_n 3, 1) := by decide +kernel
theorem dL_law_1677 : decode cL_law 1677 = .ok (.iconst 2, 1) := by decide +kernel
theorem dL_law_1678 : decode cL_law 1678 = .ok (.iadd, 1) := by decide +kernel
theorem dL_law_1679 : decode cL_law 1679 = .ok (.iaload, 1) := by decide +kernel
theorem dL_law_1680 : decode cL_law 1680 = .ok (.aload_n 0, 1) := by decide +kernel
theorem dL_law_1681 : decode cL_law 1681 = .ok (.iload_n 3, 1) := by decide +kernel
theorem dL_law_1682 : decode cL_law 1682 = .ok (.iconst 3, 1) := by decide +kernel
theorem dL_law_1683 : decode cL_law 1683 = .ok (.iadd, 1) := by decide +kernel
theorem dL_law_1684 : decode cL_law 1684 = .ok (.iaload, 1) := by decide +kernel
theorem dL_law_1685 : decode cL_law 1685 = .ok (.aload_n 0, 1) := by decide +kernel
theorem dL_law_1686 : decode cL_law 1686 = .ok (.iload_n 3, 1) := by decide +kernel
theorem dL_law_1687 : decode cL_law 1687 = .ok (.iconst 4, 1) := by decide +kernel
theorem dL_law_1688 : decode cL_law 1688 = .ok (.iadd, 1) := by decide +kernel
theorem dL_law_1689 : decode cL_law 1689 = .ok (.iaload, 1) := by decide +kernel
theorem dL_law_1690 : decode cL_law 1690 = .ok (.aload_n 0, 1) := by decide +kernel
theorem dL_law_1691 : decode cL_law 1691 = .ok (.iload_n 3, 1) := by decide +kernel
theorem dL_law_1692 : decode cL_law 1692 = .ok (.iconst 5, 1) := by decide +kernel
theorem dL_law_1693 : decode cL_law 1693 = .ok (.iadd, 1) := by decide +kernel
theorem dL_law_1694 : decode cL_law 1694 = .ok (.iaload, 1) := by decide +kernel
theorem dL_law_1695 : decode cL_law 1695 = .ok (.invokevirtual 184, 3) := by decide +kernel
theorem dL_law_1698 : decode cL_law 1698 = .ok (.if_icmp .eq 84, 3) := by decide +kernel
theorem dL_law_1701 : decode cL_law 1701 = .ok (.iconst 0, 1) := by decide +kernel
theorem dL_law_1702 : decode cL_law 1702 = .ok (.ireturn, 1) := by decide +kernel
set_option maxRecDepth 100000 in
set_option maxHeartbeats 4000000 in
theorem case_39 {p : Program} {l : Launch} {e : Env} {s : State} {m : MethodId} {args : Array Value} {below : List Frame} {meth : Method} {c : Code} {D : va_G} {ac : Nat → ClassId} {A : Nat → Prop} {Q : State → Prop} {adX adM : Nat → Nat} {b n nc ns : Nat} {xs : Nat → Int32} {N : Nat} {Rel : Mem → Mem → Prop} (hp : PureOk N Rel) (C : LC p s m args c D ac A adX adM b n xs) (hnc : nc ≤ 600000) (hns : ns ≤ 7302250) {x3 : Int32} (hi1 : vp_in (x3 + 1) n) (hi2 : vp_in (x3 + 2) n) (hi3 : vp_in (x3 + 3) n) (hi4 : vp_in (x3 + 4) n) (hi5 : vp_in (x3 + 5) n) (Mx Mm : Mem) (hrel : Rel Mx Mm) (next : ∀ Mx2 Mm2, Rel Mx2 Mm2 → Ac p l e room_1 s m args below meth c D A 4 Q 1782 [(0, .ref b), (1, .ref (adX 0)), (2, .ref (adM 0)), (3, .int x3)] [] (wXM ac adX adM Mx2 Mm2) nc ns) : Ac p l e room_1 s m args below meth c D A 4 Q 1640 [(0, .ref b), (1, .ref (adX 0)), (2, .ref (adM 0)), (3, .int x3)] [] (wXM ac adX adM Mx Mm) nc ns := by
  obtain ⟨r, Mx2, Mm2, hx, hm, hrel2⟩ := (hp.2.2.2.2.2.2.2.2.2.2.2.2.2.2.2.2.2.2.2.2.2.2.2.2.2.2.2.2.2.2.2.2.2.2.2.2.2.2.2.2.1) Mx Mm (xs (x3 + 1).toNatClampNeg) (xs (x3 + 2).toNatClampNeg) (xs (x3 + 3).toNatClampNeg) (xs (x3 + 4).toNatClampNeg) (xs (x3 + 5).toNatClampNeg) hrel
  refine c_aload_n (pc := 1640) C.1 dL_law_1640 1 rfl ?_
  refine c_aload_n (pc := 1641) C.1 dL_law_1641 0 rfl ?_
  refine c_iload_n (pc := 1642) C.1 dL_law_1642 3 rfl ?_
  refine c_iconst (pc := 1643) (v := 1) C.1 dL_law_1643 (by decide) ?_
  refine c_iadd (pc := 1644) C.1 dL_law_1644 ?_
  refine c_sld (pc := 1645) C dL_law_1645 hi1 ?_
  refine c_aload_n (pc := 1646) C.1 dL_law_1646 0 rfl ?_
  refine c_iload_n (pc := 1647) C.1 dL_law_1647 3 rfl ?_
  refine c_iconst (pc := 1648) (v := 2) C.1 dL_law_1648 (by decide) ?_
  refine c_iadd (pc := 1649) C.1 dL_law_1649 ?_
  refine c_sld (pc := 1650) C dL_law_1650 hi2 ?_
  refine c_aload_n (pc := 1651) C.1 dL_law_1651 0 rfl ?_
  refine c_iload_n (pc := 1652) C.1 dL_law_1652 3 rfl ?_
  refine c_iconst (pc := 1653) (v := 3) C.1 dL_law_1653 (by decide) ?_
  refine c_iadd (pc := 1654) C.1 dL_law_1654 ?_
  refine c_sld (pc := 1655) C dL_law_1655 hi3 ?_
  refine c_aload_n (pc := 1656) C.1 dL_law_1656 0 rfl ?_
  refine c_iload_n (pc := 1657) C.1 dL_law_1657 3 rfl ?_
  refine c_iconst (pc := 1658) (v := 4) C.1 dL_law_1658 (by decide) ?_
  refine c_iadd (pc := 1659) C.1 dL_law_1659 ?_
  refine c_sld (pc := 1660) C dL_law_1660 hi4 ?_
  refine c_aload_n (pc := 1661) C.1 dL_law_1661 0 rfl ?_
  refine c_iload_n (pc := 1662) C.1 dL_law_1662 3 rfl ?_
  refine c_iconst (pc := 1663) (v := 5) C.1 dL_law_1663 (by decide) ?_
  refine c_iadd (pc := 1664) C.1 dL_law_1664 ?_
  refine c_sld (pc := 1665) C dL_law_1665 hi5 ?_
  refine l_callX_I (pc := 1666) C dL_law_1666 ml_L_181 mc_X7_copy mv_X7_copy rfl [.int (xs (x3 + 1).toNatClampNeg), .int (xs (x3 + 2).toNatClampNeg), .int (xs (x3 + 3).toNatClampNeg), .int (xs (x3 + 4).toNatClampNeg), .int (xs (x3 + 5).toNatClampNeg)] rfl (by decide) (by decide) rfl (Nat.le_of_ble_eq_true rfl) ⟨hnc, hns⟩ (c_X7_copy N (xs (x3 + 1).toNatClampNeg) (xs (x3 + 2).toNatClampNeg) (xs (x3 + 3).toNatClampNeg) (xs (x3 + 4).toNatClampNeg) (xs (x3 + 5).toNatClampNeg) _ _ _ hx) ?_
  refine c_aload_n (pc := 1669) C.1 dL_law_1669 2 rfl ?_
  refine c_aload_n (pc := 1670) C.1 dL_law_1670 0 rfl ?_
  refine c_iload_n (pc := 1671) C.1 dL_law_1671 3 rfl ?_
  refine c_iconst (pc := 1672) (v := 1) C.1 dL_law_1672 (by decide) ?_
  refine c_iadd (pc := 1673) C.1 dL_law_1673 ?_
  refine c_sld (pc := 1674) C dL_law_1674 hi1 ?_
  refine c_aload_n (pc := 1675) C.1 dL_law_1675 0 rfl ?_
  refine c_iload_n (pc := 1676) C.1 dL_law_1676 3 rfl ?_
  refine c_iconst (pc := 1677) (v := 2) C.1 dL_law_1677 (by decide) ?_
  refine c_iadd (pc := 1678) C.1 dL_law_1678 ?_
  refine c_sld (pc := 1679) C dL_law_1679 hi2 ?_
  refine c_aload_n (pc := 1680) C.1 dL_law_1680 0 rfl ?_
  refine c_iload_n (pc := 1681) C.1 dL_law_1681 3 rfl ?_
  refine c_iconst (pc := 1682) (v := 3) C.1 dL_law_1682 (by decide) ?_
  refine c_iadd (pc := 1683) C.1 dL_law_1683 ?_
  refine c_sld (pc := 1684) C dL_law_1684 hi3 ?_
  refine c_aload_n (pc := 1685) C.1 dL_law_1685 0 rfl ?_
  refine c_iload_n (pc := 1686) C.1 dL_law_1686 3 rfl ?_
  refine c_iconst (pc := 1687) (v := 4) C.1 dL_law_1687 (by decide) ?_
  refine c_iadd (pc := 1688) C.1 dL_law_1688 ?_
  refine c_sld (pc := 1689) C dL_law_1689 hi4 ?_
  refine c_aload_n (pc := 1690) C.1 dL_law_1690 0 rfl ?_
  refine c_iload_n (pc := 1691) C.1 dL_law_1691 3 rfl ?_
  refine c_iconst (pc := 1692) (v := 5) C.1 dL_law_1692 (by decide) ?_
  refine c_iadd (pc := 1693) C.1 dL_law_1693 ?_
  refine c_sld (pc := 1694) C dL_law_1694 hi5 ?_
  refine l_callM_I (pc := 1695) C dL_law_1695 ml_L_184 mc_X8_copy mv_X8_copy rfl [.int (xs (x3 + 1).toNatClampNeg), .int (xs (x3 + 2).toNatClampNeg), .int (xs (x3 + 3).toNatClampNeg), .int (xs (x3 + 4).toNatClampNeg), .int (xs (x3 + 5).toNatClampNeg)] rfl (by decide) (by decide) rfl (Nat.le_of_ble_eq_true rfl) ⟨hnc, hns⟩ (c_X8_copy N (xs (x3 + 1).toNatClampNeg) (xs (x3 + 2).toNatClampNeg) (xs (x3 + 3).toNatClampNeg) (xs (x3 + 4).toNatClampNeg) (xs (x3 + 5).toNatClampNeg) _ _ _ hm) ?_
  refine c_icmp_eq (pc := 1698) 1782 C.1 dL_law_1698 (by decide) (fun _ => ?_) (fun h => absurd rfl h)
  exact next _ _ hrel2
theorem dL_law_1703 : decode cL_law 1703 = .ok (.aload_n 1, 1) := by decide +kernel
theorem dL_law_1704 : decode cL_law 1704 = .ok (.aload_n 0, 1) := by decide +kernel
theorem dL_law_1705 : decode cL_law 1705 = .ok (.iload_n 3, 1) := by decide +kernel
theorem dL_law_1706 : decode cL_law 1706 = .ok (.iconst 1, 1) := by decide +kernel
theorem dL_law_1707 : decode cL_law 1707 = .ok (.iadd, 1) := by decide +kernel
theorem dL_law_1708 : decode cL_law 1708 = .ok (.iaload, 1) := by decide +kernel
theorem dL_law_1709 : decode cL_law 1709 = .ok (.aload_n 0, 1) := by decide +kernel
theorem dL_law_1710 : decode cL_law 1710 = .ok (.iload_n 3, 1) := by decide +kernel
theorem dL_law_1711 : decode cL_law 1711 = .ok (.iconst 2, 1) := by decide +kernel
theorem dL_law_1712 : decode cL_law 1712 = .ok (.iadd, 1) := by decide +kernel
theorem dL_law_1713 : decode cL_law 1713 = .ok (.iaload, 1) := by decide +kernel
theorem dL_law_1714 : decode cL_law 1714 = .ok (.aload_n 0, 1) := by decide +kernel
theorem dL_law_1715 : decode cL_law 1715 = .ok (.iload_n 3, 1) := by decide +kernel
theorem dL_law_1716 : decode cL_law 1716 = .ok (.iconst 3, 1) := by decide +kernel
theorem dL_law_1717 : decode cL_law 1717 = .ok (.iadd, 1) := by decide +kernel
theorem dL_law_1718 : decode cL_law 1718 = .ok (.iaload, 1) := by decide +kernel
theorem dL_law_1719 : decode cL_law 1719 = .ok (.aload_n 0, 1) := by decide +kernel
theorem dL_law_1720 : decode cL_law 1720 = .ok (.iload_n 3, 1) := by decide +kernel
theorem dL_law_1721 : decode cL_law 1721 = .ok (.iconst 4, 1) := by decide +kernel
theorem dL_law_1722 : decode cL_law 1722 = .ok (.iadd, 1) := by decide +kernel
theorem dL_law_1723 : decode cL_law 1723 = .ok (.iaload, 1) := by decide +kernel
theorem dL_law_1724 : decode cL_law 1724 = .ok (.invokevirtual 185, 3) := by decide +kernel
theorem dL_law_1727 : decode cL_law 1727 = .ok (.aload_n 2, 1) := by decide +kernel
theorem dL_law_1728 : decode cL_law 1728 = .ok (.aload_n 0, 1) := by decide +kernel
theorem dL_law_1729 : decode cL_law 1729 = .ok (.iload_n 3, 1) := by decide +kernel
theorem dL_law_1730 : decode cL_law 1730 = .ok (.iconst 1, 1) := by decide +kernel
theorem dL_law_1731 : decode cL_law 1731 = .ok (.iadd, 1) := by decide +kernel
theorem dL_law_1732 : decode cL_law 1732 = .ok (.iaload, 1) := by decide +kernel
theorem dL_law_1733 : decode cL_law 1733 = .ok (.aload_n 0, 1) := by decide +kernel
theorem dL_law_1734 : decode cL_law 1734 = .ok (.iload_n 3, 1) := by decide +kernel
theorem dL_law_1735 : decode cL_law 1735 = .ok (.iconst 2, 1) := by decide +kernel
theorem dL_law_1736 : decode cL_law 1736 = .ok (.iadd, 1) := by decide +kernel
theorem dL_law_1737 : decode cL_law 1737 = .ok (.iaload, 1) := by decide +kernel
theorem dL_law_1738 : decode cL_law 1738 = .ok (.aload_n 0, 1) := by decide +kernel
theorem dL_law_1739 : decode cL_law 1739 = .ok (.iload_n 3, 1) := by decide +kernel
theorem dL_law_1740 : decode cL_law 1740 = .ok (.iconst 3, 1) := by decide +kernel
theorem dL_law_1741 : decode cL_law 1741 = .ok (.iadd, 1) := by decide +kernel
theorem dL_law_1742 : decode cL_law 1742 = .ok (.iaload, 1) := by decide +kernel
theorem dL_law_1743 : decode cL_law 1743 = .ok (.aload_n 0, 1) := by decide +kernel
theorem dL_law_1744 : decode cL_law 1744 = .ok (.iload_n 3, 1) := by decide +kernel
theorem dL_law_1745 : decode cL_law 1745 = .ok (.iconst 4, 1) := by decide +kernel
theorem dL_law_1746 : decode cL_law 1746 = .ok (.iadd, 1) := by decide +kernel
theorem dL_law_1747 : decode cL_law 1747 = .ok (.iaload, 1) := by decide +kernel
theorem dL_law_1748 : decode cL_law 1748 = .ok (.invokevirtual 188, 3) := by decide +kernel
theorem dL_law_1751 : decode cL_law 1751 = .ok (.if_icmp .eq 31, 3) := by decide +kernel
theorem dL_law_1754 : decode cL_law 1754 = .ok (.iconst 0, 1) := by decide +kernel
theorem dL_law_1755 : decode cL_law 1755 = .ok (.ireturn, 1) := by decide +kernel
set_option maxRecDepth 100000 in
set_option maxHeartbeats 4000000 in
theorem case_40 {p : Program} {l : Launch} {e : Env} {s : State} {m : MethodId} {args : Array Value} {below : List Frame} {meth : Method} {c : Code} {D : va_G} {ac : Nat → ClassId} {A : Nat → Prop} {Q : State → Prop} {adX adM : Nat → Nat} {b n nc ns : Nat} {xs : Nat → Int32} {N : Nat} {Rel : Mem → Mem → Prop} (hp : PureOk N Rel) (C : LC p s m args c D ac A adX adM b n xs) (hnc : nc ≤ 600000) (hns : ns ≤ 7302250) {x3 : Int32} (hi1 : vp_in (x3 + 1) n) (hi2 : vp_in (x3 + 2) n) (hi3 : vp_in (x3 + 3) n) (hi4 : vp_in (x3 + 4) n) (hi5 : vp_in (x3 + 5) n) (Mx Mm : Mem) (hrel : Rel Mx Mm) (next : ∀ Mx2 Mm2, Rel Mx2 Mm2 → Ac p l e room_1 s m args below meth c D A 4 Q 1782 [(0, .ref b), (1, .ref (adX 0)), (2, .ref (adM 0)), (3, .int x3)] [] (wXM ac adX adM Mx2 Mm2) nc ns) : Ac p l e room_1 s m args below meth c D A 4 Q 1703 [(0, .ref b), (1, .ref (adX 0)), (2, .ref (adM 0)), (3, .int x3)] [] (wXM ac adX adM Mx Mm) nc ns := by
  obtain ⟨r, Mx2, Mm2, hx, hm, hrel2⟩ := (hp.2.2.2.2.2.2.2.2.2.2.2.2.2.2.2.2.2.2.2.2.2.2.2.2.2.2.2.2.2.2.2.2.2.2.2.2.2.2.2.2.2.1) Mx Mm (xs (x3 + 1).toNatClampNeg) (xs (x3 + 2).toNatClampNeg) (xs (x3 + 3).toNatClampNeg) (xs (x3 + 4).toNatClampNeg) hrel
  refine c_aload_n (pc := 1703) C.1 dL_law_1703 1 rfl ?_
  refine c_aload_n (pc := 1704) C.1 dL_law_1704 0 rfl ?_
  refine c_iload_n (pc := 1705) C.1 dL_law_1705 3 rfl ?_
  refine c_iconst (pc := 1706) (v := 1) C.1 dL_law_1706 (by decide) ?_
  refine c_iadd (pc := 1707) C.1 dL_law_1707 ?_
  refine c_sld (pc := 1708) C dL_law_1708 hi1 ?_
  refine c_aload_n (pc := 1709) C.1 dL_law_1709 0 rfl ?_
  refine c_iload_n (pc := 1710) C.1 dL_law_1710 3 rfl ?_
  refine c_iconst (pc := 1711) (v := 2) C.1 dL_law_1711 (by decide) ?_
  refine c_iadd (pc := 1712) C.1 dL_law_1712 ?_
  refine c_sld (pc := 1713) C dL_law_1713 hi2 ?_
  refine c_aload_n (pc := 1714) C.1 dL_law_1714 0 rfl ?_
  refine c_iload_n (pc := 1715) C.1 dL_law_1715 3 rfl ?_
  refine c_iconst (pc := 1716) (v := 3) C.1 dL_law_1716 (by decide) ?_
  refine c_iadd (pc := 1717) C.1 dL_law_1717 ?_
  refine c_sld (pc := 1718) C dL_law_1718 hi3 ?_
  refine c_aload_n (pc := 1719) C.1 dL_law_1719 0 rfl ?_
  refine c_iload_n (pc := 1720) C.1 dL_law_1720 3 rfl ?_
  refine c_iconst (pc := 1721) (v := 4) C.1 dL_law_1721 (by decide) ?_
  refine c_iadd (pc := 1722) C.1 dL_law_1722 ?_
  refine c_sld (pc := 1723) C dL_law_1723 hi4 ?_
  refine l_callX_I (pc := 1724) C dL_law_1724 ml_L_185 mc_X7_paint mv_X7_paint rfl [.int (xs (x3 + 1).toNatClampNeg), .int (xs (x3 + 2).toNatClampNeg), .int (xs (x3 + 3).toNatClampNeg), .int (xs (x3 + 4).toNatClampNeg)] rfl (by decide) (by decide) rfl (Nat.le_of_ble_eq_true rfl) ⟨hnc, hns⟩ (c_X7_paint N (xs (x3 + 1).toNatClampNeg) (xs (x3 + 2).toNatClampNeg) (xs (x3 + 3).toNatClampNeg) (xs (x3 + 4).toNatClampNeg) _ _ _ hx) ?_
  refine c_aload_n (pc := 1727) C.1 dL_law_1727 2 rfl ?_
  refine c_aload_n (pc := 1728) C.1 dL_law_1728 0 rfl ?_
  refine c_iload_n (pc := 1729) C.1 dL_law_1729 3 rfl ?_
  refine c_iconst (pc := 1730) (v := 1) C.1 dL_law_1730 (by decide) ?_
  refine c_iadd (pc := 1731) C.1 dL_law_1731 ?_
  refine c_sld (pc := 1732) C dL_law_1732 hi1 ?_
  refine c_aload_n (pc := 1733) C.1 dL_law_1733 0 rfl ?_
  refine c_iload_n (pc := 1734) C.1 dL_law_1734 3 rfl ?_
  refine c_iconst (pc := 1735) (v := 2) C.1 dL_law_1735 (by decide) ?_
  refine c_iadd (pc := 1736) C.1 dL_law_1736 ?_
  refine c_sld (pc := 1737) C dL_law_1737 hi2 ?_
  refine c_aload_n (pc := 1738) C.1 dL_law_1738 0 rfl ?_
  refine c_iload_n (pc := 1739) C.1 dL_law_1739 3 rfl ?_
  refine c_iconst (pc := 1740) (v := 3) C.1 dL_law_1740 (by decide) ?_
  refine c_iadd (pc := 1741) C.1 dL_law_1741 ?_
  refine c_sld (pc := 1742) C dL_law_1742 hi3 ?_
  refine c_aload_n (pc := 1743) C.1 dL_law_1743 0 rfl ?_
  refine c_iload_n (pc := 1744) C.1 dL_law_1744 3 rfl ?_
  refine c_iconst (pc := 1745) (v := 4) C.1 dL_law_1745 (by decide) ?_
  refine c_iadd (pc := 1746) C.1 dL_law_1746 ?_
  refine c_sld (pc := 1747) C dL_law_1747 hi4 ?_
  refine l_callM_I (pc := 1748) C dL_law_1748 ml_L_188 mc_X8_paint mv_X8_paint rfl [.int (xs (x3 + 1).toNatClampNeg), .int (xs (x3 + 2).toNatClampNeg), .int (xs (x3 + 3).toNatClampNeg), .int (xs (x3 + 4).toNatClampNeg)] rfl (by decide) (by decide) rfl (Nat.le_of_ble_eq_true rfl) ⟨hnc, hns⟩ (c_X8_paint N (xs (x3 + 1).toNatClampNeg) (xs (x3 + 2).toNatClampNeg) (xs (x3 + 3).toNatClampNeg) (xs (x3 + 4).toNatClampNeg) _ _ _ hm) ?_
  refine c_icmp_eq (pc := 1751) 1782 C.1 dL_law_1751 (by decide) (fun _ => ?_) (fun h => absurd rfl h)
  exact next _ _ hrel2
theorem dL_law_1756 : decode cL_law 1756 = .ok (.aload_n 1, 1) := by decide +kernel
theorem dL_law_1757 : decode cL_law 1757 = .ok (.invokevirtual 189, 3) := by decide +kernel
theorem dL_law_1760 : decode cL_law 1760 = .ok (.aload_n 2, 1) := by decide +kernel
theorem dL_law_1761 : decode cL_law 1761 = .ok (.invokevirtual 192, 3) := by decide +kernel
theorem dL_law_1764 : decode cL_law 1764 = .ok (.if_icmp .eq 18, 3) := by decide +kernel
theorem dL_law_1767 : decode cL_law 1767 = .ok (.iconst 0, 1) := by decide +kernel
theorem dL_law_1768 : decode cL_law 1768 = .ok (.ireturn, 1) := by decide +kernel
set_option maxRecDepth 100000 in
set_option maxHeartbeats 4000000 in
theorem case_41 {p : Program} {l : Launch} {e : Env} {s : State} {m : MethodId} {args : Array Value} {below : List Frame} {meth : Method} {c : Code} {D : va_G} {ac : Nat → ClassId} {A : Nat → Prop} {Q : State → Prop} {adX adM : Nat → Nat} {b n nc ns : Nat} {xs : Nat → Int32} {N : Nat} {Rel : Mem → Mem → Prop} (hp : PureOk N Rel) (C : LC p s m args c D ac A adX adM b n xs) (hnc : nc ≤ 600000) (hns : ns ≤ 7302250) {x3 : Int32} (hi1 : vp_in (x3 + 1) n) (hi2 : vp_in (x3 + 2) n) (hi3 : vp_in (x3 + 3) n) (hi4 : vp_in (x3 + 4) n) (hi5 : vp_in (x3 + 5) n) (Mx Mm : Mem) (hrel : Rel Mx Mm) (next : ∀ Mx2 Mm2, Rel Mx2 Mm2 → Ac p l e room_1 s m args below meth c D A 4 Q 1782 [(0, .ref b), (1, .ref (adX 0)), (2, .ref (adM 0)), (3, .int x3)] [] (wXM ac adX adM Mx2 Mm2) nc ns) : Ac p l e room_1 s m args below meth c D A 4 Q 1756 [(0, .ref b), (1, .ref (adX 0)), (2, .ref (adM 0)), (3, .int x3)] [] (wXM ac adX adM Mx Mm) nc ns := by
  obtain ⟨r, Mx2, Mm2, hx, hm, hrel2⟩ := (hp.2.2.2.2.2.2.2.2.2.2.2.2.2.2.2.2.2.2.2.2.2.2.2.2.2.2.2.2.2.2.2.2.2.2.2.2.2.2.2.2.2.2.1) Mx Mm  hrel
  refine c_aload_n (pc := 1756) C.1 dL_law_1756 1 rfl ?_
  refine l_callX_I (pc := 1757) C dL_law_1757 ml_L_189 mc_X7_image mv_X7_image rfl [] rfl (by decide) (by decide) rfl (Nat.le_of_ble_eq_true rfl) ⟨hnc, hns⟩ (c_X7_image N  _ _ _ hx) ?_
  refine c_aload_n (pc := 1760) C.1 dL_law_1760 2 rfl ?_
  refine l_callM_I (pc := 1761) C dL_law_1761 ml_L_192 mc_X8_image mv_X8_image rfl [] rfl (by decide) (by decide) rfl (Nat.le_of_ble_eq_true rfl) ⟨hnc, hns⟩ (c_X8_image N  _ _ _ hm) ?_
  refine c_icmp_eq (pc := 1764) 1782 C.1 dL_law_1764 (by decide) (fun _ => ?_) (fun h => absurd rfl h)
  exact next _ _ hrel2
theorem dL_law_1769 : decode cL_law 1769 = .ok (.aload_n 1, 1) := by decide +kernel
theorem dL_law_1770 : decode cL_law 1770 = .ok (.invokevirtual 193, 3) := by decide +kernel
theorem dL_law_1773 : decode cL_law 1773 = .ok (.aload_n 2, 1) := by decide +kernel
theorem dL_law_1774 : decode cL_law 1774 = .ok (.invokevirtual 196, 3) := by decide +kernel
theorem dL_law_1777 : decode cL_law 1777 = .ok (.if_icmp .eq 5, 3) := by decide +kernel
theorem dL_law_1780 : decode cL_law 1780 = .ok (.iconst 0, 1) := by decide +kernel
theorem dL_law_1781 : decode cL_law 1781 = .ok (.ireturn, 1) := by decide +kernel
set_option maxRecDepth 100000 in
set_option maxHeartbeats 4000000 in
theorem case_42 {p : Program} {l : Launch} {e : Env} {s : State} {m : MethodId} {args : Array Value} {below : List Frame} {meth : Method} {c : Code} {D : va_G} {ac : Nat → ClassId} {A : Nat → Prop} {Q : State → Prop} {adX adM : Nat → Nat} {b n nc ns : Nat} {xs : Nat → Int32} {N : Nat} {Rel : Mem → Mem → Prop} (hp : PureOk N Rel) (C : LC p s m args c D ac A adX adM b n xs) (hnc : nc ≤ 600000) (hns : ns ≤ 7302250) {x3 : Int32} (hi1 : vp_in (x3 + 1) n) (hi2 : vp_in (x3 + 2) n) (hi3 : vp_in (x3 + 3) n) (hi4 : vp_in (x3 + 4) n) (hi5 : vp_in (x3 + 5) n) (Mx Mm : Mem) (hrel : Rel Mx Mm) (next : ∀ Mx2 Mm2, Rel Mx2 Mm2 → Ac p l e room_1 s m args below meth c D A 4 Q 1782 [(0, .ref b), (1, .ref (adX 0)), (2, .ref (adM 0)), (3, .int x3)] [] (wXM ac adX adM Mx2 Mm2) nc ns) : Ac p l e room_1 s m args below meth c D A 4 Q 1769 [(0, .ref b), (1, .ref (adX 0)), (2, .ref (adM 0)), (3, .int x3)] [] (wXM ac adX adM Mx Mm) nc ns := by
  obtain ⟨r, Mx2, Mm2, hx, hm, hrel2⟩ := (hp.2.2.2.2.2.2.2.2.2.2.2.2.2.2.2.2.2.2.2.2.2.2.2.2.2.2.2.2.2.2.2.2.2.2.2.2.2.2.2.2.2.2.2) Mx Mm  hrel
  refine c_aload_n (pc := 1769) C.1 dL_law_1769 1 rfl ?_
  refine l_callX_I (pc := 1770) C dL_law_1770 ml_L_193 mc_X7_back mv_X7_back rfl [] rfl (by decide) (by decide) rfl (Nat.le_of_ble_eq_true rfl) ⟨hnc, hns⟩ (c_X7_back N  _ _ _ hx) ?_
  refine c_aload_n (pc := 1773) C.1 dL_law_1773 2 rfl ?_
  refine l_callM_I (pc := 1774) C dL_law_1774 ml_L_196 mc_X8_back mv_X8_back rfl [] rfl (by decide) (by decide) rfl (Nat.le_of_ble_eq_true rfl) ⟨hnc, hns⟩ (c_X8_back N  _ _ _ hm) ?_
  refine c_icmp_eq (pc := 1777) 1782 C.1 dL_law_1777 (by decide) (fun _ => ?_) (fun h => absurd rfl h)
  exact next _ _ hrel2
