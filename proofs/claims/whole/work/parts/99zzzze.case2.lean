theorem LC_19 {n i Ln : Int} {h : vH} {v5 v6 : vv} (J : JN n h) (hn : 0 ≤ n ∧ n ≤ 9000) (w : lwH h Ln) (hi : 0 ≤ i ∧ i + 6 ≤ Ln ∧ Ln ≤ 3072) : lwN n h i (vrun mL_law 1611 [(1, 2), (1, 3), (1, 282), (1, 338), (0, i), v5, v6] [] h) := by
  obtain ⟨o, h2, k, r, z, y, t, f, j2, ks, rz⟩ := Wr_rowAt (x1 := h 2 2 (i + 1)) (x2 := h 2 2 (i + 2)) (x3 := h 2 2 (i + 3)) (x4 := h 2 2 (i + 4)) J w.2.2.1 w.2.2.2.1
  have s2 : o 0 282 0 = 34 := ks.2.2.2.1.trans J.2.1.1.1.1.1.1
  have s3 : shModel h2 := j2.2.1.1.1.1.1
  have kk := kS_rZ ks rz J j2
  refine ⟨h2, (0, k), (0, r), ?_, j2, kk⟩
  refine (rn_aload_n (pc := 1611) (dd bL_law dL_law_1611) rfl).trans ?_
  refine (rn_aload_n (pc := 1612) (dd bL_law dL_law_1612) rfl).trans ?_
  refine (rn_iload (pc := 1613) (dd bL_law dL_law_1613) rfl).trans ?_
  refine (rn_iconst (pc := 1615) (dd bL_law dL_law_1615) (by decide)).trans ?_
  refine (rg_iadd (pc := 1616) (dd bL_law dL_law_1616) (by omega) (by omega)).trans ?_
  refine (rl_iaload (n := Ln) (pc := 1617) (dd bL_law dL_law_1617) w.1 w.2.1 (by omega) (by omega) (v := h 2 2 (i + 1)) rfl).trans ?_
  refine (rn_aload_n (pc := 1618) (dd bL_law dL_law_1618) rfl).trans ?_
  refine (rn_iload (pc := 1619) (dd bL_law dL_law_1619) rfl).trans ?_
  refine (rn_iconst (pc := 1621) (dd bL_law dL_law_1621) (by decide)).trans ?_
  refine (rg_iadd (pc := 1622) (dd bL_law dL_law_1622) (by omega) (by omega)).trans ?_
  refine (rl_iaload (n := Ln) (pc := 1623) (dd bL_law dL_law_1623) w.1 w.2.1 (by omega) (by omega) (v := h 2 2 (i + 2)) rfl).trans ?_
  refine (rn_aload_n (pc := 1624) (dd bL_law dL_law_1624) rfl).trans ?_
  refine (rn_iload (pc := 1625) (dd bL_law dL_law_1625) rfl).trans ?_
  refine (rn_iconst (pc := 1627) (dd bL_law dL_law_1627) (by decide)).trans ?_
  refine (rg_iadd (pc := 1628) (dd bL_law dL_law_1628) (by omega) (by omega)).trans ?_
  refine (rl_iaload (n := Ln) (pc := 1629) (dd bL_law dL_law_1629) w.1 w.2.1 (by omega) (by omega) (v := h 2 2 (i + 3)) rfl).trans ?_
  refine (rn_aload_n (pc := 1630) (dd bL_law dL_law_1630) rfl).trans ?_
  refine (rn_iload (pc := 1631) (dd bL_law dL_law_1631) rfl).trans ?_
  refine (rn_iconst (pc := 1633) (dd bL_law dL_law_1633) (by decide)).trans ?_
  refine (rg_iadd (pc := 1634) (dd bL_law dL_law_1634) (by omega) (by omega)).trans ?_
  refine (rl_iaload (n := Ln) (pc := 1635) (dd bL_law dL_law_1635) w.1 w.2.1 (by omega) (by omega) (v := h 2 2 (i + 4)) rfl).trans ?_
  refine (rn_aload_n (pc := 1636) (dd bL_law dL_law_1636) rfl).trans ?_
  refine (rg_static (pc := 1637) (dd bL_law dL_law_1637) rfl (by decide) (Nat.le_of_ble_eq_true rfl) (as := [(1, 3), (0, h 2 2 (i + 1)), (0, h 2 2 (i + 2)), (0, h 2 2 (i + 3)), (0, h 2 2 (i + 4)), (1, 338)]) rfl rfl ⟨Nat.le_of_ble_eq_true rfl, Nat.le_of_ble_eq_true rfl, Nat.le_of_ble_eq_true rfl, Nat.le_of_ble_eq_true rfl⟩).trans ?_
  refine (vret_v z).trans ?_
  refine (rn_istore (pc := 1640) (dd bL_law dL_law_1640) (Nat.le_of_ble_eq_true rfl) rfl).trans ?_
  refine (rn_aload_n (pc := 1642) (dd bL_law dL_law_1642) rfl).trans ?_
  refine (rn_aload_n (pc := 1643) (dd bL_law dL_law_1643) rfl).trans ?_
  refine (rn_iload (pc := 1644) (dd bL_law dL_law_1644) rfl).trans ?_
  refine (rn_iconst (pc := 1646) (dd bL_law dL_law_1646) (by decide)).trans ?_
  refine (rg_iadd (pc := 1647) (dd bL_law dL_law_1647) (by omega) (by omega)).trans ?_
  refine (rl_iaload (n := Ln) (pc := 1648) (dd bL_law dL_law_1648) ((ks.1 0 0).trans w.1) ((ks.1 1 0).trans w.2.1) (by omega) (by omega) (v := h 2 2 (i + 1)) (ks.1 2 _)).trans ?_
  refine (rn_aload_n (pc := 1649) (dd bL_law dL_law_1649) rfl).trans ?_
  refine (rn_iload (pc := 1650) (dd bL_law dL_law_1650) rfl).trans ?_
  refine (rn_iconst (pc := 1652) (dd bL_law dL_law_1652) (by decide)).trans ?_
  refine (rg_iadd (pc := 1653) (dd bL_law dL_law_1653) (by omega) (by omega)).trans ?_
  refine (rl_iaload (n := Ln) (pc := 1654) (dd bL_law dL_law_1654) ((ks.1 0 0).trans w.1) ((ks.1 1 0).trans w.2.1) (by omega) (by omega) (v := h 2 2 (i + 2)) (ks.1 2 _)).trans ?_
  refine (rn_aload_n (pc := 1655) (dd bL_law dL_law_1655) rfl).trans ?_
  refine (rn_iload (pc := 1656) (dd bL_law dL_law_1656) rfl).trans ?_
  refine (rn_iconst (pc := 1658) (dd bL_law dL_law_1658) (by decide)).trans ?_
  refine (rg_iadd (pc := 1659) (dd bL_law dL_law_1659) (by omega) (by omega)).trans ?_
  refine (rl_iaload (n := Ln) (pc := 1660) (dd bL_law dL_law_1660) ((ks.1 0 0).trans w.1) ((ks.1 1 0).trans w.2.1) (by omega) (by omega) (v := h 2 2 (i + 3)) (ks.1 2 _)).trans ?_
  refine (rn_aload_n (pc := 1661) (dd bL_law dL_law_1661) rfl).trans ?_
  refine (rn_iload (pc := 1662) (dd bL_law dL_law_1662) rfl).trans ?_
  refine (rn_iconst (pc := 1664) (dd bL_law dL_law_1664) (by decide)).trans ?_
  refine (rg_iadd (pc := 1665) (dd bL_law dL_law_1665) (by omega) (by omega)).trans ?_
  refine (rl_iaload (n := Ln) (pc := 1666) (dd bL_law dL_law_1666) ((ks.1 0 0).trans w.1) ((ks.1 1 0).trans w.2.1) (by omega) (by omega) (v := h 2 2 (i + 4)) (ks.1 2 _)).trans ?_
  refine (rg_virtual (pc := 1667) (dd bL_law dL_law_1667) rfl rfl (by decide) (kc := 34) rfl s2 (as := [(1, 282), (0, h 2 2 (i + 1)), (0, h 2 2 (i + 2)), (0, h 2 2 (i + 3)), (0, h 2 2 (i + 4))]) rfl ⟨Nat.le_of_ble_eq_true rfl, Nat.le_of_ble_eq_true rfl, Nat.le_of_ble_eq_true rfl, Nat.le_of_ble_eq_true rfl⟩).trans ?_
  refine (vret_v y).trans ?_
  refine (rn_istore (pc := 1670) (dd bL_law dL_law_1670) (Nat.le_of_ble_eq_true rfl) rfl).trans ?_
  refine (rn_aload_n (pc := 1672) (dd bL_law dL_law_1672) rfl).trans ?_
  refine (rg_virtual (pc := 1673) (dd bL_law dL_law_1673) rfl rfl (by decide) (kc := 34) rfl s3.1 (as := [(1, 282)]) rfl ⟨Nat.le_of_ble_eq_true rfl, Nat.le_of_ble_eq_true rfl, Nat.le_of_ble_eq_true rfl, Nat.le_of_ble_eq_true rfl⟩).trans ?_
  refine (vret_v ((spX13_thrown s3).trans (by rw [t]))).trans ?_
  refine (rn_iload (pc := 1676) (dd bL_law dL_law_1676) rfl).trans ?_
  refine (rn_icmp_eq (t := 1683) (pc := 1678) (dd bL_law dL_law_1678) rfl).trans ((if_pos rfl).trans ?_)
  refine (rn_iload (pc := 1683) (dd bL_law dL_law_1683) rfl).trans ?_
  refine (rg_if_ne (t := 1700) (pc := 1685) (dd bL_law dL_law_1685) rfl).trans ?_
  by_cases kz : k = 0
  · rw [if_pos kz]
    have f := f kz
    refine (rn_aload_n (pc := 1688) (dd bL_law dL_law_1688) rfl).trans ?_
    refine (rn_iconst (pc := 1689) (dd bL_law dL_law_1689) (by decide)).trans ?_
    refine (rg_laload (n := 1) (pc := 1690) (dd bL_law dL_law_1690) (kk.2.1.trans w.2.2.1) (kk.2.2.1.trans w.2.2.2.1) (by decide) (by decide) ((rz 2 338 0 (by decide)).trans f)).trans ?_
    refine (rn_iload (pc := 1691) (dd bL_law dL_law_1691) rfl).trans ?_
    refine (rn_i2l (pc := 1693) (dd bL_law dL_law_1693)).trans ?_
    refine (rl_lcmp (pc := 1694) (dd bL_law dL_law_1694) rfl).trans ?_
    refine (rn_if_eq (t := 1700) (pc := 1695) (dd bL_law dL_law_1695) rfl).trans ((if_pos rfl).trans ?_)
    refine (rn_goto (t := 2982) (pc := 1700) (dd bL_law dL_law_1700) rfl).trans ?_
    refine (rg_iinc (pc := 2982) (dd bL_law dL_law_2982) (x := i) rfl (Nat.le_of_ble_eq_true rfl) (by omega) (by omega) rfl).trans ?_
    exact rn_goto (t := 23) (pc := 2985) (dd bL_law dL_law_2985) rfl
  · rw [if_neg kz]
    refine (rn_goto (t := 2982) (pc := 1700) (dd bL_law dL_law_1700) rfl).trans ?_
    refine (rg_iinc (pc := 2982) (dd bL_law dL_law_2982) (x := i) rfl (Nat.le_of_ble_eq_true rfl) (by omega) (by omega) rfl).trans ?_
    exact rn_goto (t := 23) (pc := 2985) (dd bL_law dL_law_2985) rfl
theorem LC_20 {n i Ln : Int} {h : vH} {v5 v6 : vv} (J : JN n h) (hn : 0 ≤ n ∧ n ≤ 9000) (w : lwH h Ln) (hi : 0 ≤ i ∧ i + 6 ≤ Ln ∧ Ln ≤ 3072) : lwN n h i (vrun mL_law 1703 [(1, 2), (1, 3), (1, 282), (1, 338), (0, i), v5, v6] [] h) := by
  obtain ⟨o, h2, k, r, z, y, t, f, j2, ks, rz⟩ := Wr_columnAt (x1 := h 2 2 (i + 1)) (x2 := h 2 2 (i + 2)) (x3 := h 2 2 (i + 3)) (x4 := h 2 2 (i + 4)) J w.2.2.1 w.2.2.2.1
  have s2 : o 0 282 0 = 34 := ks.2.2.2.1.trans J.2.1.1.1.1.1.1
  have s3 : shModel h2 := j2.2.1.1.1.1.1
  have kk := kS_rZ ks rz J j2
  refine ⟨h2, (0, k), (0, r), ?_, j2, kk⟩
  refine (rn_aload_n (pc := 1703) (dd bL_law dL_law_1703) rfl).trans ?_
  refine (rn_aload_n (pc := 1704) (dd bL_law dL_law_1704) rfl).trans ?_
  refine (rn_iload (pc := 1705) (dd bL_law dL_law_1705) rfl).trans ?_
  refine (rn_iconst (pc := 1707) (dd bL_law dL_law_1707) (by decide)).trans ?_
  refine (rg_iadd (pc := 1708) (dd bL_law dL_law_1708) (by omega) (by omega)).trans ?_
  refine (rl_iaload (n := Ln) (pc := 1709) (dd bL_law dL_law_1709) w.1 w.2.1 (by omega) (by omega) (v := h 2 2 (i + 1)) rfl).trans ?_
  refine (rn_aload_n (pc := 1710) (dd bL_law dL_law_1710) rfl).trans ?_
  refine (rn_iload (pc := 1711) (dd bL_law dL_law_1711) rfl).trans ?_
  refine (rn_iconst (pc := 1713) (dd bL_law dL_law_1713) (by decide)).trans ?_
  refine (rg_iadd (pc := 1714) (dd bL_law dL_law_1714) (by omega) (by omega)).trans ?_
  refine (rl_iaload (n := Ln) (pc := 1715) (dd bL_law dL_law_1715) w.1 w.2.1 (by omega) (by omega) (v := h 2 2 (i + 2)) rfl).trans ?_
  refine (rn_aload_n (pc := 1716) (dd bL_law dL_law_1716) rfl).trans ?_
  refine (rn_iload (pc := 1717) (dd bL_law dL_law_1717) rfl).trans ?_
  refine (rn_iconst (pc := 1719) (dd bL_law dL_law_1719) (by decide)).trans ?_
  refine (rg_iadd (pc := 1720) (dd bL_law dL_law_1720) (by omega) (by omega)).trans ?_
  refine (rl_iaload (n := Ln) (pc := 1721) (dd bL_law dL_law_1721) w.1 w.2.1 (by omega) (by omega) (v := h 2 2 (i + 3)) rfl).trans ?_
  refine (rn_aload_n (pc := 1722) (dd bL_law dL_law_1722) rfl).trans ?_
  refine (rn_iload (pc := 1723) (dd bL_law dL_law_1723) rfl).trans ?_
  refine (rn_iconst (pc := 1725) (dd bL_law dL_law_1725) (by decide)).trans ?_
  refine (rg_iadd (pc := 1726) (dd bL_law dL_law_1726) (by omega) (by omega)).trans ?_
  refine (rl_iaload (n := Ln) (pc := 1727) (dd bL_law dL_law_1727) w.1 w.2.1 (by omega) (by omega) (v := h 2 2 (i + 4)) rfl).trans ?_
  refine (rn_aload_n (pc := 1728) (dd bL_law dL_law_1728) rfl).trans ?_
  refine (rg_static (pc := 1729) (dd bL_law dL_law_1729) rfl (by decide) (Nat.le_of_ble_eq_true rfl) (as := [(1, 3), (0, h 2 2 (i + 1)), (0, h 2 2 (i + 2)), (0, h 2 2 (i + 3)), (0, h 2 2 (i + 4)), (1, 338)]) rfl rfl ⟨Nat.le_of_ble_eq_true rfl, Nat.le_of_ble_eq_true rfl, Nat.le_of_ble_eq_true rfl, Nat.le_of_ble_eq_true rfl⟩).trans ?_
  refine (vret_v z).trans ?_
  refine (rn_istore (pc := 1732) (dd bL_law dL_law_1732) (Nat.le_of_ble_eq_true rfl) rfl).trans ?_
  refine (rn_aload_n (pc := 1734) (dd bL_law dL_law_1734) rfl).trans ?_
  refine (rn_aload_n (pc := 1735) (dd bL_law dL_law_1735) rfl).trans ?_
  refine (rn_iload (pc := 1736) (dd bL_law dL_law_1736) rfl).trans ?_
  refine (rn_iconst (pc := 1738) (dd bL_law dL_law_1738) (by decide)).trans ?_
  refine (rg_iadd (pc := 1739) (dd bL_law dL_law_1739) (by omega) (by omega)).trans ?_
  refine (rl_iaload (n := Ln) (pc := 1740) (dd bL_law dL_law_1740) ((ks.1 0 0).trans w.1) ((ks.1 1 0).trans w.2.1) (by omega) (by omega) (v := h 2 2 (i + 1)) (ks.1 2 _)).trans ?_
  refine (rn_aload_n (pc := 1741) (dd bL_law dL_law_1741) rfl).trans ?_
  refine (rn_iload (pc := 1742) (dd bL_law dL_law_1742) rfl).trans ?_
  refine (rn_iconst (pc := 1744) (dd bL_law dL_law_1744) (by decide)).trans ?_
  refine (rg_iadd (pc := 1745) (dd bL_law dL_law_1745) (by omega) (by omega)).trans ?_
  refine (rl_iaload (n := Ln) (pc := 1746) (dd bL_law dL_law_1746) ((ks.1 0 0).trans w.1) ((ks.1 1 0).trans w.2.1) (by omega) (by omega) (v := h 2 2 (i + 2)) (ks.1 2 _)).trans ?_
  refine (rn_aload_n (pc := 1747) (dd bL_law dL_law_1747) rfl).trans ?_
  refine (rn_iload (pc := 1748) (dd bL_law dL_law_1748) rfl).trans ?_
  refine (rn_iconst (pc := 1750) (dd bL_law dL_law_1750) (by decide)).trans ?_
  refine (rg_iadd (pc := 1751) (dd bL_law dL_law_1751) (by omega) (by omega)).trans ?_
  refine (rl_iaload (n := Ln) (pc := 1752) (dd bL_law dL_law_1752) ((ks.1 0 0).trans w.1) ((ks.1 1 0).trans w.2.1) (by omega) (by omega) (v := h 2 2 (i + 3)) (ks.1 2 _)).trans ?_
  refine (rn_aload_n (pc := 1753) (dd bL_law dL_law_1753) rfl).trans ?_
  refine (rn_iload (pc := 1754) (dd bL_law dL_law_1754) rfl).trans ?_
  refine (rn_iconst (pc := 1756) (dd bL_law dL_law_1756) (by decide)).trans ?_
  refine (rg_iadd (pc := 1757) (dd bL_law dL_law_1757) (by omega) (by omega)).trans ?_
  refine (rl_iaload (n := Ln) (pc := 1758) (dd bL_law dL_law_1758) ((ks.1 0 0).trans w.1) ((ks.1 1 0).trans w.2.1) (by omega) (by omega) (v := h 2 2 (i + 4)) (ks.1 2 _)).trans ?_
  refine (rg_virtual (pc := 1759) (dd bL_law dL_law_1759) rfl rfl (by decide) (kc := 34) rfl s2 (as := [(1, 282), (0, h 2 2 (i + 1)), (0, h 2 2 (i + 2)), (0, h 2 2 (i + 3)), (0, h 2 2 (i + 4))]) rfl ⟨Nat.le_of_ble_eq_true rfl, Nat.le_of_ble_eq_true rfl, Nat.le_of_ble_eq_true rfl, Nat.le_of_ble_eq_true rfl⟩).trans ?_
  refine (vret_v y).trans ?_
  refine (rn_istore (pc := 1762) (dd bL_law dL_law_1762) (Nat.le_of_ble_eq_true rfl) rfl).trans ?_
  refine (rn_aload_n (pc := 1764) (dd bL_law dL_law_1764) rfl).trans ?_
  refine (rg_virtual (pc := 1765) (dd bL_law dL_law_1765) rfl rfl (by decide) (kc := 34) rfl s3.1 (as := [(1, 282)]) rfl ⟨Nat.le_of_ble_eq_true rfl, Nat.le_of_ble_eq_true rfl, Nat.le_of_ble_eq_true rfl, Nat.le_of_ble_eq_true rfl⟩).trans ?_
  refine (vret_v ((spX13_thrown s3).trans (by rw [t]))).trans ?_
  refine (rn_iload (pc := 1768) (dd bL_law dL_law_1768) rfl).trans ?_
  refine (rn_icmp_eq (t := 1775) (pc := 1770) (dd bL_law dL_law_1770) rfl).trans ((if_pos rfl).trans ?_)
  refine (rn_iload (pc := 1775) (dd bL_law dL_law_1775) rfl).trans ?_
  refine (rg_if_ne (t := 1792) (pc := 1777) (dd bL_law dL_law_1777) rfl).trans ?_
  by_cases kz : k = 0
  · rw [if_pos kz]
    have f := f kz
    refine (rn_aload_n (pc := 1780) (dd bL_law dL_law_1780) rfl).trans ?_
    refine (rn_iconst (pc := 1781) (dd bL_law dL_law_1781) (by decide)).trans ?_
    refine (rg_laload (n := 1) (pc := 1782) (dd bL_law dL_law_1782) (kk.2.1.trans w.2.2.1) (kk.2.2.1.trans w.2.2.2.1) (by decide) (by decide) ((rz 2 338 0 (by decide)).trans f)).trans ?_
    refine (rn_iload (pc := 1783) (dd bL_law dL_law_1783) rfl).trans ?_
    refine (rn_i2l (pc := 1785) (dd bL_law dL_law_1785)).trans ?_
    refine (rl_lcmp (pc := 1786) (dd bL_law dL_law_1786) rfl).trans ?_
    refine (rn_if_eq (t := 1792) (pc := 1787) (dd bL_law dL_law_1787) rfl).trans ((if_pos rfl).trans ?_)
    refine (rn_goto (t := 2982) (pc := 1792) (dd bL_law dL_law_1792) rfl).trans ?_
    refine (rg_iinc (pc := 2982) (dd bL_law dL_law_2982) (x := i) rfl (Nat.le_of_ble_eq_true rfl) (by omega) (by omega) rfl).trans ?_
    exact rn_goto (t := 23) (pc := 2985) (dd bL_law dL_law_2985) rfl
  · rw [if_neg kz]
    refine (rn_goto (t := 2982) (pc := 1792) (dd bL_law dL_law_1792) rfl).trans ?_
    refine (rg_iinc (pc := 2982) (dd bL_law dL_law_2982) (x := i) rfl (Nat.le_of_ble_eq_true rfl) (by omega) (by omega) rfl).trans ?_
    exact rn_goto (t := 23) (pc := 2985) (dd bL_law dL_law_2985) rfl
theorem LC_21 {n i Ln : Int} {h : vH} {v5 v6 : vv} (J : JN n h) (hn : 0 ≤ n ∧ n ≤ 9000) (w : lwH h Ln) (hi : 0 ≤ i ∧ i + 6 ≤ Ln ∧ Ln ≤ 3072) : lwN n h i (vrun mL_law 1795 [(1, 2), (1, 3), (1, 282), (1, 338), (0, i), v5, v6] [] h) := by
  obtain ⟨o, h2, k, r, z, y, t, f, j2, ks, rz⟩ := Wr_lineAt (x1 := h 2 2 (i + 1)) (x2 := h 2 2 (i + 2)) J w.2.2.1 w.2.2.2.1
  have s2 : o 0 282 0 = 34 := ks.2.2.2.1.trans J.2.1.1.1.1.1.1
  have s3 : shModel h2 := j2.2.1.1.1.1.1
  have kk := kS_rZ ks rz J j2
  refine ⟨h2, (0, k), (0, r), ?_, j2, kk⟩
  refine (rn_aload_n (pc := 1795) (dd bL_law dL_law_1795) rfl).trans ?_
  refine (rn_aload_n (pc := 1796) (dd bL_law dL_law_1796) rfl).trans ?_
  refine (rn_iload (pc := 1797) (dd bL_law dL_law_1797) rfl).trans ?_
  refine (rn_iconst (pc := 1799) (dd bL_law dL_law_1799) (by decide)).trans ?_
  refine (rg_iadd (pc := 1800) (dd bL_law dL_law_1800) (by omega) (by omega)).trans ?_
  refine (rl_iaload (n := Ln) (pc := 1801) (dd bL_law dL_law_1801) w.1 w.2.1 (by omega) (by omega) (v := h 2 2 (i + 1)) rfl).trans ?_
  refine (rn_aload_n (pc := 1802) (dd bL_law dL_law_1802) rfl).trans ?_
  refine (rn_iload (pc := 1803) (dd bL_law dL_law_1803) rfl).trans ?_
  refine (rn_iconst (pc := 1805) (dd bL_law dL_law_1805) (by decide)).trans ?_
  refine (rg_iadd (pc := 1806) (dd bL_law dL_law_1806) (by omega) (by omega)).trans ?_
  refine (rl_iaload (n := Ln) (pc := 1807) (dd bL_law dL_law_1807) w.1 w.2.1 (by omega) (by omega) (v := h 2 2 (i + 2)) rfl).trans ?_
  refine (rn_aload_n (pc := 1808) (dd bL_law dL_law_1808) rfl).trans ?_
  refine (rg_static (pc := 1809) (dd bL_law dL_law_1809) rfl (by decide) (Nat.le_of_ble_eq_true rfl) (as := [(1, 3), (0, h 2 2 (i + 1)), (0, h 2 2 (i + 2)), (1, 338)]) rfl rfl ⟨Nat.le_of_ble_eq_true rfl, Nat.le_of_ble_eq_true rfl, Nat.le_of_ble_eq_true rfl, Nat.le_of_ble_eq_true rfl⟩).trans ?_
  refine (vret_v z).trans ?_
  refine (rn_istore (pc := 1812) (dd bL_law dL_law_1812) (Nat.le_of_ble_eq_true rfl) rfl).trans ?_
  refine (rn_aload_n (pc := 1814) (dd bL_law dL_law_1814) rfl).trans ?_
  refine (rn_aload_n (pc := 1815) (dd bL_law dL_law_1815) rfl).trans ?_
  refine (rn_iload (pc := 1816) (dd bL_law dL_law_1816) rfl).trans ?_
  refine (rn_iconst (pc := 1818) (dd bL_law dL_law_1818) (by decide)).trans ?_
  refine (rg_iadd (pc := 1819) (dd bL_law dL_law_1819) (by omega) (by omega)).trans ?_
  refine (rl_iaload (n := Ln) (pc := 1820) (dd bL_law dL_law_1820) ((ks.1 0 0).trans w.1) ((ks.1 1 0).trans w.2.1) (by omega) (by omega) (v := h 2 2 (i + 1)) (ks.1 2 _)).trans ?_
  refine (rn_aload_n (pc := 1821) (dd bL_law dL_law_1821) rfl).trans ?_
  refine (rn_iload (pc := 1822) (dd bL_law dL_law_1822) rfl).trans ?_
  refine (rn_iconst (pc := 1824) (dd bL_law dL_law_1824) (by decide)).trans ?_
  refine (rg_iadd (pc := 1825) (dd bL_law dL_law_1825) (by omega) (by omega)).trans ?_
  refine (rl_iaload (n := Ln) (pc := 1826) (dd bL_law dL_law_1826) ((ks.1 0 0).trans w.1) ((ks.1 1 0).trans w.2.1) (by omega) (by omega) (v := h 2 2 (i + 2)) (ks.1 2 _)).trans ?_
  refine (rg_virtual (pc := 1827) (dd bL_law dL_law_1827) rfl rfl (by decide) (kc := 34) rfl s2 (as := [(1, 282), (0, h 2 2 (i + 1)), (0, h 2 2 (i + 2))]) rfl ⟨Nat.le_of_ble_eq_true rfl, Nat.le_of_ble_eq_true rfl, Nat.le_of_ble_eq_true rfl, Nat.le_of_ble_eq_true rfl⟩).trans ?_
  refine (vret_v y).trans ?_
  refine (rn_istore (pc := 1830) (dd bL_law dL_law_1830) (Nat.le_of_ble_eq_true rfl) rfl).trans ?_
  refine (rn_aload_n (pc := 1832) (dd bL_law dL_law_1832) rfl).trans ?_
  refine (rg_virtual (pc := 1833) (dd bL_law dL_law_1833) rfl rfl (by decide) (kc := 34) rfl s3.1 (as := [(1, 282)]) rfl ⟨Nat.le_of_ble_eq_true rfl, Nat.le_of_ble_eq_true rfl, Nat.le_of_ble_eq_true rfl, Nat.le_of_ble_eq_true rfl⟩).trans ?_
  refine (vret_v ((spX13_thrown s3).trans (by rw [t]))).trans ?_
  refine (rn_iload (pc := 1836) (dd bL_law dL_law_1836) rfl).trans ?_
  refine (rn_icmp_eq (t := 1843) (pc := 1838) (dd bL_law dL_law_1838) rfl).trans ((if_pos rfl).trans ?_)
  refine (rn_iload (pc := 1843) (dd bL_law dL_law_1843) rfl).trans ?_
  refine (rg_if_ne (t := 1860) (pc := 1845) (dd bL_law dL_law_1845) rfl).trans ?_
  by_cases kz : k = 0
  · rw [if_pos kz]
    have f := f kz
    refine (rn_aload_n (pc := 1848) (dd bL_law dL_law_1848) rfl).trans ?_
    refine (rn_iconst (pc := 1849) (dd bL_law dL_law_1849) (by decide)).trans ?_
    refine (rg_laload (n := 1) (pc := 1850) (dd bL_law dL_law_1850) (kk.2.1.trans w.2.2.1) (kk.2.2.1.trans w.2.2.2.1) (by decide) (by decide) ((rz 2 338 0 (by decide)).trans f)).trans ?_
    refine (rn_iload (pc := 1851) (dd bL_law dL_law_1851) rfl).trans ?_
    refine (rn_i2l (pc := 1853) (dd bL_law dL_law_1853)).trans ?_
    refine (rl_lcmp (pc := 1854) (dd bL_law dL_law_1854) rfl).trans ?_
    refine (rn_if_eq (t := 1860) (pc := 1855) (dd bL_law dL_law_1855) rfl).trans ((if_pos rfl).trans ?_)
    refine (rn_goto (t := 2982) (pc := 1860) (dd bL_law dL_law_1860) rfl).trans ?_
    refine (rg_iinc (pc := 2982) (dd bL_law dL_law_2982) (x := i) rfl (Nat.le_of_ble_eq_true rfl) (by omega) (by omega) rfl).trans ?_
    exact rn_goto (t := 23) (pc := 2985) (dd bL_law dL_law_2985) rfl
  · rw [if_neg kz]
    refine (rn_goto (t := 2982) (pc := 1860) (dd bL_law dL_law_1860) rfl).trans ?_
    refine (rg_iinc (pc := 2982) (dd bL_law dL_law_2982) (x := i) rfl (Nat.le_of_ble_eq_true rfl) (by omega) (by omega) rfl).trans ?_
    exact rn_goto (t := 23) (pc := 2985) (dd bL_law dL_law_2985) rfl
theorem LC_22 {n i Ln : Int} {h : vH} {v5 v6 : vv} (J : JN n h) (hn : 0 ≤ n ∧ n ≤ 9000) (w : lwH h Ln) (hi : 0 ≤ i ∧ i + 6 ≤ Ln ∧ Ln ≤ 3072) : lwN n h i (vrun mL_law 1863 [(1, 2), (1, 3), (1, 282), (1, 338), (0, i), v5, v6] [] h) := by
  obtain ⟨o, h2, k, r, z, y, t, f, j2, ks, rz⟩ := Wr_placeAt (x1 := h 2 2 (i + 1)) (x2 := h 2 2 (i + 2)) (x3 := h 2 2 (i + 3)) J w.2.2.1 w.2.2.2.1
  have s2 : o 0 282 0 = 34 := ks.2.2.2.1.trans J.2.1.1.1.1.1.1
  have s3 : shModel h2 := j2.2.1.1.1.1.1
  have kk := kS_rZ ks rz J j2
  refine ⟨h2, (0, k), (0, r), ?_, j2, kk⟩
  refine (rn_aload_n (pc := 1863) (dd bL_law dL_law_1863) rfl).trans ?_
  refine (rn_aload_n (pc := 1864) (dd bL_law dL_law_1864) rfl).trans ?_
  refine (rn_iload (pc := 1865) (dd bL_law dL_law_1865) rfl).trans ?_
  refine (rn_iconst (pc := 1867) (dd bL_law dL_law_1867) (by decide)).trans ?_
  refine (rg_iadd (pc := 1868) (dd bL_law dL_law_1868) (by omega) (by omega)).trans ?_
  refine (rl_iaload (n := Ln) (pc := 1869) (dd bL_law dL_law_1869) w.1 w.2.1 (by omega) (by omega) (v := h 2 2 (i + 1)) rfl).trans ?_
  refine (rn_aload_n (pc := 1870) (dd bL_law dL_law_1870) rfl).trans ?_
  refine (rn_iload (pc := 1871) (dd bL_law dL_law_1871) rfl).trans ?_
  refine (rn_iconst (pc := 1873) (dd bL_law dL_law_1873) (by decide)).trans ?_
  refine (rg_iadd (pc := 1874) (dd bL_law dL_law_1874) (by omega) (by omega)).trans ?_
  refine (rl_iaload (n := Ln) (pc := 1875) (dd bL_law dL_law_1875) w.1 w.2.1 (by omega) (by omega) (v := h 2 2 (i + 2)) rfl).trans ?_
  refine (rn_aload_n (pc := 1876) (dd bL_law dL_law_1876) rfl).trans ?_
  refine (rn_iload (pc := 1877) (dd bL_law dL_law_1877) rfl).trans ?_
  refine (rn_iconst (pc := 1879) (dd bL_law dL_law_1879) (by decide)).trans ?_
  refine (rg_iadd (pc := 1880) (dd bL_law dL_law_1880) (by omega) (by omega)).trans ?_
  refine (rl_iaload (n := Ln) (pc := 1881) (dd bL_law dL_law_1881) w.1 w.2.1 (by omega) (by omega) (v := h 2 2 (i + 3)) rfl).trans ?_
  refine (rn_aload_n (pc := 1882) (dd bL_law dL_law_1882) rfl).trans ?_
  refine (rg_static (pc := 1883) (dd bL_law dL_law_1883) rfl (by decide) (Nat.le_of_ble_eq_true rfl) (as := [(1, 3), (0, h 2 2 (i + 1)), (0, h 2 2 (i + 2)), (0, h 2 2 (i + 3)), (1, 338)]) rfl rfl ⟨Nat.le_of_ble_eq_true rfl, Nat.le_of_ble_eq_true rfl, Nat.le_of_ble_eq_true rfl, Nat.le_of_ble_eq_true rfl⟩).trans ?_
  refine (vret_v z).trans ?_
  refine (rn_istore (pc := 1886) (dd bL_law dL_law_1886) (Nat.le_of_ble_eq_true rfl) rfl).trans ?_
  refine (rn_aload_n (pc := 1888) (dd bL_law dL_law_1888) rfl).trans ?_
  refine (rn_aload_n (pc := 1889) (dd bL_law dL_law_1889) rfl).trans ?_
  refine (rn_iload (pc := 1890) (dd bL_law dL_law_1890) rfl).trans ?_
  refine (rn_iconst (pc := 1892) (dd bL_law dL_law_1892) (by decide)).trans ?_
  refine (rg_iadd (pc := 1893) (dd bL_law dL_law_1893) (by omega) (by omega)).trans ?_
  refine (rl_iaload (n := Ln) (pc := 1894) (dd bL_law dL_law_1894) ((ks.1 0 0).trans w.1) ((ks.1 1 0).trans w.2.1) (by omega) (by omega) (v := h 2 2 (i + 1)) (ks.1 2 _)).trans ?_
  refine (rn_aload_n (pc := 1895) (dd bL_law dL_law_1895) rfl).trans ?_
  refine (rn_iload (pc := 1896) (dd bL_law dL_law_1896) rfl).trans ?_
  refine (rn_iconst (pc := 1898) (dd bL_law dL_law_1898) (by decide)).trans ?_
  refine (rg_iadd (pc := 1899) (dd bL_law dL_law_1899) (by omega) (by omega)).trans ?_
  refine (rl_iaload (n := Ln) (pc := 1900) (dd bL_law dL_law_1900) ((ks.1 0 0).trans w.1) ((ks.1 1 0).trans w.2.1) (by omega) (by omega) (v := h 2 2 (i + 2)) (ks.1 2 _)).trans ?_
  refine (rn_aload_n (pc := 1901) (dd bL_law dL_law_1901) rfl).trans ?_
  refine (rn_iload (pc := 1902) (dd bL_law dL_law_1902) rfl).trans ?_
  refine (rn_iconst (pc := 1904) (dd bL_law dL_law_1904) (by decide)).trans ?_
  refine (rg_iadd (pc := 1905) (dd bL_law dL_law_1905) (by omega) (by omega)).trans ?_
  refine (rl_iaload (n := Ln) (pc := 1906) (dd bL_law dL_law_1906) ((ks.1 0 0).trans w.1) ((ks.1 1 0).trans w.2.1) (by omega) (by omega) (v := h 2 2 (i + 3)) (ks.1 2 _)).trans ?_
  refine (rg_virtual (pc := 1907) (dd bL_law dL_law_1907) rfl rfl (by decide) (kc := 34) rfl s2 (as := [(1, 282), (0, h 2 2 (i + 1)), (0, h 2 2 (i + 2)), (0, h 2 2 (i + 3))]) rfl ⟨Nat.le_of_ble_eq_true rfl, Nat.le_of_ble_eq_true rfl, Nat.le_of_ble_eq_true rfl, Nat.le_of_ble_eq_true rfl⟩).trans ?_
  refine (vret_v y).trans ?_
  refine (rn_istore (pc := 1910) (dd bL_law dL_law_1910) (Nat.le_of_ble_eq_true rfl) rfl).trans ?_
  refine (rn_aload_n (pc := 1912) (dd bL_law dL_law_1912) rfl).trans ?_
  refine (rg_virtual (pc := 1913) (dd bL_law dL_law_1913) rfl rfl (by decide) (kc := 34) rfl s3.1 (as := [(1, 282)]) rfl ⟨Nat.le_of_ble_eq_true rfl, Nat.le_of_ble_eq_true rfl, Nat.le_of_ble_eq_true rfl, Nat.le_of_ble_eq_true rfl⟩).trans ?_
  refine (vret_v ((spX13_thrown s3).trans (by rw [t]))).trans ?_
  refine (rn_iload (pc := 1916) (dd bL_law dL_law_1916) rfl).trans ?_
  refine (rn_icmp_eq (t := 1923) (pc := 1918) (dd bL_law dL_law_1918) rfl).trans ((if_pos rfl).trans ?_)
  refine (rn_iload (pc := 1923) (dd bL_law dL_law_1923) rfl).trans ?_
  refine (rg_if_ne (t := 1940) (pc := 1925) (dd bL_law dL_law_1925) rfl).trans ?_
  by_cases kz : k = 0
  · rw [if_pos kz]
    have f := f kz
    refine (rn_aload_n (pc := 1928) (dd bL_law dL_law_1928) rfl).trans ?_
    refine (rn_iconst (pc := 1929) (dd bL_law dL_law_1929) (by decide)).trans ?_
    refine (rg_laload (n := 1) (pc := 1930) (dd bL_law dL_law_1930) (kk.2.1.trans w.2.2.1) (kk.2.2.1.trans w.2.2.2.1) (by decide) (by decide) ((rz 2 338 0 (by decide)).trans f)).trans ?_
    refine (rn_iload (pc := 1931) (dd bL_law dL_law_1931) rfl).trans ?_
    refine (rn_i2l (pc := 1933) (dd bL_law dL_law_1933)).trans ?_
    refine (rl_lcmp (pc := 1934) (dd bL_law dL_law_1934) rfl).trans ?_
    refine (rn_if_eq (t := 1940) (pc := 1935) (dd bL_law dL_law_1935) rfl).trans ((if_pos rfl).trans ?_)
    refine (rn_goto (t := 2982) (pc := 1940) (dd bL_law dL_law_1940) rfl).trans ?_
    refine (rg_iinc (pc := 2982) (dd bL_law dL_law_2982) (x := i) rfl (Nat.le_of_ble_eq_true rfl) (by omega) (by omega) rfl).trans ?_
    exact rn_goto (t := 23) (pc := 2985) (dd bL_law dL_law_2985) rfl
  · rw [if_neg kz]
    refine (rn_goto (t := 2982) (pc := 1940) (dd bL_law dL_law_1940) rfl).trans ?_
    refine (rg_iinc (pc := 2982) (dd bL_law dL_law_2982) (x := i) rfl (Nat.le_of_ble_eq_true rfl) (by omega) (by omega) rfl).trans ?_
    exact rn_goto (t := 23) (pc := 2985) (dd bL_law dL_law_2985) rfl
theorem LC_23 {n i Ln : Int} {h : vH} {v5 v6 : vv} (J : JN n h) (hn : 0 ≤ n ∧ n ≤ 9000) (w : lwH h Ln) (hi : 0 ≤ i ∧ i + 6 ≤ Ln ∧ Ln ≤ 3072) : lwN n h i (vrun mL_law 1943 [(1, 2), (1, 3), (1, 282), (1, 338), (0, i), v5, v6] [] h) := by
  obtain ⟨o, h2, k, r, z, y, t, f, j2, ks, rz⟩ := Wr_marksAt (x1 := h 2 2 (i + 1)) (x2 := h 2 2 (i + 2)) J w.2.2.1 w.2.2.2.1
  have s2 : o 0 282 0 = 34 := ks.2.2.2.1.trans J.2.1.1.1.1.1.1
  have s3 : shModel h2 := j2.2.1.1.1.1.1
  have kk := kS_rZ ks rz J j2
  refine ⟨h2, (0, k), (0, r), ?_, j2, kk⟩
  refine (rn_aload_n (pc := 1943) (dd bL_law dL_law_1943) rfl).trans ?_
  refine (rn_aload_n (pc := 1944) (dd bL_law dL_law_1944) rfl).trans ?_
  refine (rn_iload (pc := 1945) (dd bL_law dL_law_1945) rfl).trans ?_
  refine (rn_iconst (pc := 1947) (dd bL_law dL_law_1947) (by decide)).trans ?_
  refine (rg_iadd (pc := 1948) (dd bL_law dL_law_1948) (by omega) (by omega)).trans ?_
  refine (rl_iaload (n := Ln) (pc := 1949) (dd bL_law dL_law_1949) w.1 w.2.1 (by omega) (by omega) (v := h 2 2 (i + 1)) rfl).trans ?_
  refine (rn_aload_n (pc := 1950) (dd bL_law dL_law_1950) rfl).trans ?_
  refine (rn_iload (pc := 1951) (dd bL_law dL_law_1951) rfl).trans ?_
  refine (rn_iconst (pc := 1953) (dd bL_law dL_law_1953) (by decide)).trans ?_
  refine (rg_iadd (pc := 1954) (dd bL_law dL_law_1954) (by omega) (by omega)).trans ?_
  refine (rl_iaload (n := Ln) (pc := 1955) (dd bL_law dL_law_1955) w.1 w.2.1 (by omega) (by omega) (v := h 2 2 (i + 2)) rfl).trans ?_
  refine (rn_aload_n (pc := 1956) (dd bL_law dL_law_1956) rfl).trans ?_
  refine (rg_static (pc := 1957) (dd bL_law dL_law_1957) rfl (by decide) (Nat.le_of_ble_eq_true rfl) (as := [(1, 3), (0, h 2 2 (i + 1)), (0, h 2 2 (i + 2)), (1, 338)]) rfl rfl ⟨Nat.le_of_ble_eq_true rfl, Nat.le_of_ble_eq_true rfl, Nat.le_of_ble_eq_true rfl, Nat.le_of_ble_eq_true rfl⟩).trans ?_
  refine (vret_v z).trans ?_
  refine (rn_istore (pc := 1960) (dd bL_law dL_law_1960) (Nat.le_of_ble_eq_true rfl) rfl).trans ?_
  refine (rn_aload_n (pc := 1962) (dd bL_law dL_law_1962) rfl).trans ?_
  refine (rn_aload_n (pc := 1963) (dd bL_law dL_law_1963) rfl).trans ?_
  refine (rn_iload (pc := 1964) (dd bL_law dL_law_1964) rfl).trans ?_
  refine (rn_iconst (pc := 1966) (dd bL_law dL_law_1966) (by decide)).trans ?_
  refine (rg_iadd (pc := 1967) (dd bL_law dL_law_1967) (by omega) (by omega)).trans ?_
  refine (rl_iaload (n := Ln) (pc := 1968) (dd bL_law dL_law_1968) ((ks.1 0 0).trans w.1) ((ks.1 1 0).trans w.2.1) (by omega) (by omega) (v := h 2 2 (i + 1)) (ks.1 2 _)).trans ?_
  refine (rn_aload_n (pc := 1969) (dd bL_law dL_law_1969) rfl).trans ?_
  refine (rn_iload (pc := 1970) (dd bL_law dL_law_1970) rfl).trans ?_
  refine (rn_iconst (pc := 1972) (dd bL_law dL_law_1972) (by decide)).trans ?_
  refine (rg_iadd (pc := 1973) (dd bL_law dL_law_1973) (by omega) (by omega)).trans ?_
  refine (rl_iaload (n := Ln) (pc := 1974) (dd bL_law dL_law_1974) ((ks.1 0 0).trans w.1) ((ks.1 1 0).trans w.2.1) (by omega) (by omega) (v := h 2 2 (i + 2)) (ks.1 2 _)).trans ?_
  refine (rg_virtual (pc := 1975) (dd bL_law dL_law_1975) rfl rfl (by decide) (kc := 34) rfl s2 (as := [(1, 282), (0, h 2 2 (i + 1)), (0, h 2 2 (i + 2))]) rfl ⟨Nat.le_of_ble_eq_true rfl, Nat.le_of_ble_eq_true rfl, Nat.le_of_ble_eq_true rfl, Nat.le_of_ble_eq_true rfl⟩).trans ?_
  refine (vret_v y).trans ?_
  refine (rn_istore (pc := 1978) (dd bL_law dL_law_1978) (Nat.le_of_ble_eq_true rfl) rfl).trans ?_
  refine (rn_aload_n (pc := 1980) (dd bL_law dL_law_1980) rfl).trans ?_
  refine (rg_virtual (pc := 1981) (dd bL_law dL_law_1981) rfl rfl (by decide) (kc := 34) rfl s3.1 (as := [(1, 282)]) rfl ⟨Nat.le_of_ble_eq_true rfl, Nat.le_of_ble_eq_true rfl, Nat.le_of_ble_eq_true rfl, Nat.le_of_ble_eq_true rfl⟩).trans ?_
  refine (vret_v ((spX13_thrown s3).trans (by rw [t]))).trans ?_
  refine (rn_iload (pc := 1984) (dd bL_law dL_law_1984) rfl).trans ?_
  refine (rn_icmp_eq (t := 1991) (pc := 1986) (dd bL_law dL_law_1986) rfl).trans ((if_pos rfl).trans ?_)
  refine (rn_iload (pc := 1991) (dd bL_law dL_law_1991) rfl).trans ?_
  refine (rg_if_ne (t := 2008) (pc := 1993) (dd bL_law dL_law_1993) rfl).trans ?_
  by_cases kz : k = 0
  · rw [if_pos kz]
    have f := f kz
    refine (rn_aload_n (pc := 1996) (dd bL_law dL_law_1996) rfl).trans ?_
    refine (rn_iconst (pc := 1997) (dd bL_law dL_law_1997) (by decide)).trans ?_
    refine (rg_laload (n := 1) (pc := 1998) (dd bL_law dL_law_1998) (kk.2.1.trans w.2.2.1) (kk.2.2.1.trans w.2.2.2.1) (by decide) (by decide) ((rz 2 338 0 (by decide)).trans f)).trans ?_
    refine (rn_iload (pc := 1999) (dd bL_law dL_law_1999) rfl).trans ?_
    refine (rn_i2l (pc := 2001) (dd bL_law dL_law_2001)).trans ?_
    refine (rl_lcmp (pc := 2002) (dd bL_law dL_law_2002) rfl).trans ?_
    refine (rn_if_eq (t := 2008) (pc := 2003) (dd bL_law dL_law_2003) rfl).trans ((if_pos rfl).trans ?_)
    refine (rn_goto (t := 2982) (pc := 2008) (dd bL_law dL_law_2008) rfl).trans ?_
    refine (rg_iinc (pc := 2982) (dd bL_law dL_law_2982) (x := i) rfl (Nat.le_of_ble_eq_true rfl) (by omega) (by omega) rfl).trans ?_
    exact rn_goto (t := 23) (pc := 2985) (dd bL_law dL_law_2985) rfl
  · rw [if_neg kz]
    refine (rn_goto (t := 2982) (pc := 2008) (dd bL_law dL_law_2008) rfl).trans ?_
    refine (rg_iinc (pc := 2982) (dd bL_law dL_law_2982) (x := i) rfl (Nat.le_of_ble_eq_true rfl) (by omega) (by omega) rfl).trans ?_
    exact rn_goto (t := 23) (pc := 2985) (dd bL_law dL_law_2985) rfl
theorem LC_24 {n i Ln : Int} {h : vH} {v5 v6 : vv} (J : JN n h) (hn : 0 ≤ n ∧ n ≤ 9000) (w : lwH h Ln) (hi : 0 ≤ i ∧ i + 6 ≤ Ln ∧ Ln ≤ 3072) : lwN n h i (vrun mL_law 2011 [(1, 2), (1, 3), (1, 282), (1, 338), (0, i), v5, v6] [] h) := by
  obtain ⟨o, h2, k, r, z, y, t, f, j2, ks, rz⟩ := Wr_minimap (x1 := h 2 2 (i + 1)) (x2 := h 2 2 (i + 2)) J w.2.2.1 w.2.2.2.1
  have s2 : o 0 282 0 = 34 := ks.2.2.2.1.trans J.2.1.1.1.1.1.1
  have s3 : shModel h2 := j2.2.1.1.1.1.1
  have kk := kS_rZ ks rz J j2
  refine ⟨h2, (0, k), (0, r), ?_, j2, kk⟩
  refine (rn_aload_n (pc := 2011) (dd bL_law dL_law_2011) rfl).trans ?_
  refine (rn_aload_n (pc := 2012) (dd bL_law dL_law_2012) rfl).trans ?_
  refine (rn_iload (pc := 2013) (dd bL_law dL_law_2013) rfl).trans ?_
  refine (rn_iconst (pc := 2015) (dd bL_law dL_law_2015) (by decide)).trans ?_
  refine (rg_iadd (pc := 2016) (dd bL_law dL_law_2016) (by omega) (by omega)).trans ?_
  refine (rl_iaload (n := Ln) (pc := 2017) (dd bL_law dL_law_2017) w.1 w.2.1 (by omega) (by omega) (v := h 2 2 (i + 1)) rfl).trans ?_
  refine (rn_aload_n (pc := 2018) (dd bL_law dL_law_2018) rfl).trans ?_
  refine (rn_iload (pc := 2019) (dd bL_law dL_law_2019) rfl).trans ?_
  refine (rn_iconst (pc := 2021) (dd bL_law dL_law_2021) (by decide)).trans ?_
  refine (rg_iadd (pc := 2022) (dd bL_law dL_law_2022) (by omega) (by omega)).trans ?_
  refine (rl_iaload (n := Ln) (pc := 2023) (dd bL_law dL_law_2023) w.1 w.2.1 (by omega) (by omega) (v := h 2 2 (i + 2)) rfl).trans ?_
  refine (rn_aload_n (pc := 2024) (dd bL_law dL_law_2024) rfl).trans ?_
  refine (rg_static (pc := 2025) (dd bL_law dL_law_2025) rfl (by decide) (Nat.le_of_ble_eq_true rfl) (as := [(1, 3), (0, h 2 2 (i + 1)), (0, h 2 2 (i + 2)), (1, 338)]) rfl rfl ⟨Nat.le_of_ble_eq_true rfl, Nat.le_of_ble_eq_true rfl, Nat.le_of_ble_eq_true rfl, Nat.le_of_ble_eq_true rfl⟩).trans ?_
  refine (vret_v z).trans ?_
  refine (rn_istore (pc := 2028) (dd bL_law dL_law_2028) (Nat.le_of_ble_eq_true rfl) rfl).trans ?_
  refine (rn_aload_n (pc := 2030) (dd bL_law dL_law_2030) rfl).trans ?_
  refine (rn_aload_n (pc := 2031) (dd bL_law dL_law_2031) rfl).trans ?_
  refine (rn_iload (pc := 2032) (dd bL_law dL_law_2032) rfl).trans ?_
  refine (rn_iconst (pc := 2034) (dd bL_law dL_law_2034) (by decide)).trans ?_
  refine (rg_iadd (pc := 2035) (dd bL_law dL_law_2035) (by omega) (by omega)).trans ?_
  refine (rl_iaload (n := Ln) (pc := 2036) (dd bL_law dL_law_2036) ((ks.1 0 0).trans w.1) ((ks.1 1 0).trans w.2.1) (by omega) (by omega) (v := h 2 2 (i + 1)) (ks.1 2 _)).trans ?_
  refine (rn_aload_n (pc := 2037) (dd bL_law dL_law_2037) rfl).trans ?_
  refine (rn_iload (pc := 2038) (dd bL_law dL_law_2038) rfl).trans ?_
  refine (rn_iconst (pc := 2040) (dd bL_law dL_law_2040) (by decide)).trans ?_
  refine (rg_iadd (pc := 2041) (dd bL_law dL_law_2041) (by omega) (by omega)).trans ?_
  refine (rl_iaload (n := Ln) (pc := 2042) (dd bL_law dL_law_2042) ((ks.1 0 0).trans w.1) ((ks.1 1 0).trans w.2.1) (by omega) (by omega) (v := h 2 2 (i + 2)) (ks.1 2 _)).trans ?_
  refine (rg_virtual (pc := 2043) (dd bL_law dL_law_2043) rfl rfl (by decide) (kc := 34) rfl s2 (as := [(1, 282), (0, h 2 2 (i + 1)), (0, h 2 2 (i + 2))]) rfl ⟨Nat.le_of_ble_eq_true rfl, Nat.le_of_ble_eq_true rfl, Nat.le_of_ble_eq_true rfl, Nat.le_of_ble_eq_true rfl⟩).trans ?_
  refine (vret_v y).trans ?_
  refine (rn_istore (pc := 2046) (dd bL_law dL_law_2046) (Nat.le_of_ble_eq_true rfl) rfl).trans ?_
  refine (rn_aload_n (pc := 2048) (dd bL_law dL_law_2048) rfl).trans ?_
  refine (rg_virtual (pc := 2049) (dd bL_law dL_law_2049) rfl rfl (by decide) (kc := 34) rfl s3.1 (as := [(1, 282)]) rfl ⟨Nat.le_of_ble_eq_true rfl, Nat.le_of_ble_eq_true rfl, Nat.le_of_ble_eq_true rfl, Nat.le_of_ble_eq_true rfl⟩).trans ?_
  refine (vret_v ((spX13_thrown s3).trans (by rw [t]))).trans ?_
  refine (rn_iload (pc := 2052) (dd bL_law dL_law_2052) rfl).trans ?_
  refine (rn_icmp_eq (t := 2059) (pc := 2054) (dd bL_law dL_law_2054) rfl).trans ((if_pos rfl).trans ?_)
  refine (rn_iload (pc := 2059) (dd bL_law dL_law_2059) rfl).trans ?_
  refine (rg_if_ne (t := 2076) (pc := 2061) (dd bL_law dL_law_2061) rfl).trans ?_
  by_cases kz : k = 0
  · rw [if_pos kz]
    have f := f kz
    refine (rn_aload_n (pc := 2064) (dd bL_law dL_law_2064) rfl).trans ?_
    refine (rn_iconst (pc := 2065) (dd bL_law dL_law_2065) (by decide)).trans ?_
    refine (rg_laload (n := 1) (pc := 2066) (dd bL_law dL_law_2066) (kk.2.1.trans w.2.2.1) (kk.2.2.1.trans w.2.2.2.1) (by decide) (by decide) ((rz 2 338 0 (by decide)).trans f)).trans ?_
    refine (rn_iload (pc := 2067) (dd bL_law dL_law_2067) rfl).trans ?_
    refine (rn_i2l (pc := 2069) (dd bL_law dL_law_2069)).trans ?_
    refine (rl_lcmp (pc := 2070) (dd bL_law dL_law_2070) rfl).trans ?_
    refine (rn_if_eq (t := 2076) (pc := 2071) (dd bL_law dL_law_2071) rfl).trans ((if_pos rfl).trans ?_)
    refine (rn_goto (t := 2982) (pc := 2076) (dd bL_law dL_law_2076) rfl).trans ?_
    refine (rg_iinc (pc := 2982) (dd bL_law dL_law_2982) (x := i) rfl (Nat.le_of_ble_eq_true rfl) (by omega) (by omega) rfl).trans ?_
    exact rn_goto (t := 23) (pc := 2985) (dd bL_law dL_law_2985) rfl
  · rw [if_neg kz]
    refine (rn_goto (t := 2982) (pc := 2076) (dd bL_law dL_law_2076) rfl).trans ?_
    refine (rg_iinc (pc := 2982) (dd bL_law dL_law_2982) (x := i) rfl (Nat.le_of_ble_eq_true rfl) (by omega) (by omega) rfl).trans ?_
    exact rn_goto (t := 23) (pc := 2985) (dd bL_law dL_law_2985) rfl
theorem LC_25 {n i Ln : Int} {h : vH} {v5 v6 : vv} (J : JN n h) (hn : 0 ≤ n ∧ n ≤ 9000) (w : lwH h Ln) (hi : 0 ≤ i ∧ i + 6 ≤ Ln ∧ Ln ≤ 3072) : lwN n h i (vrun mL_law 2079 [(1, 2), (1, 3), (1, 282), (1, 338), (0, i), v5, v6] [] h) := by
  obtain ⟨o, h2, k, r, z, y, t, f, j2, ks, rz⟩ := Wr_open (x1 := h 2 2 (i + 1)) J w.2.2.1 w.2.2.2.1
  have s2 : o 0 282 0 = 34 := ks.2.2.2.1.trans J.2.1.1.1.1.1.1
  have s3 : shModel h2 := j2.2.1.1.1.1.1
  have kk := kS_rZ ks rz J j2
  refine ⟨h2, (0, k), (0, r), ?_, j2, kk⟩
  refine (rn_aload_n (pc := 2079) (dd bL_law dL_law_2079) rfl).trans ?_
  refine (rn_aload_n (pc := 2080) (dd bL_law dL_law_2080) rfl).trans ?_
  refine (rn_iload (pc := 2081) (dd bL_law dL_law_2081) rfl).trans ?_
  refine (rn_iconst (pc := 2083) (dd bL_law dL_law_2083) (by decide)).trans ?_
  refine (rg_iadd (pc := 2084) (dd bL_law dL_law_2084) (by omega) (by omega)).trans ?_
  refine (rl_iaload (n := Ln) (pc := 2085) (dd bL_law dL_law_2085) w.1 w.2.1 (by omega) (by omega) (v := h 2 2 (i + 1)) rfl).trans ?_
  refine (rn_aload_n (pc := 2086) (dd bL_law dL_law_2086) rfl).trans ?_
  refine (rg_static (pc := 2087) (dd bL_law dL_law_2087) rfl (by decide) (Nat.le_of_ble_eq_true rfl) (as := [(1, 3), (0, h 2 2 (i + 1)), (1, 338)]) rfl rfl ⟨Nat.le_of_ble_eq_true rfl, Nat.le_of_ble_eq_true rfl, Nat.le_of_ble_eq_true rfl, Nat.le_of_ble_eq_true rfl⟩).trans ?_
  refine (vret_v z).trans ?_
  refine (rn_istore (pc := 2090) (dd bL_law dL_law_2090) (Nat.le_of_ble_eq_true rfl) rfl).trans ?_
  refine (rn_aload_n (pc := 2092) (dd bL_law dL_law_2092) rfl).trans ?_
  refine (rn_aload_n (pc := 2093) (dd bL_law dL_law_2093) rfl).trans ?_
  refine (rn_iload (pc := 2094) (dd bL_law dL_law_2094) rfl).trans ?_
  refine (rn_iconst (pc := 2096) (dd bL_law dL_law_2096) (by decide)).trans ?_
  refine (rg_iadd (pc := 2097) (dd bL_law dL_law_2097) (by omega) (by omega)).trans ?_
  refine (rl_iaload (n := Ln) (pc := 2098) (dd bL_law dL_law_2098) ((ks.1 0 0).trans w.1) ((ks.1 1 0).trans w.2.1) (by omega) (by omega) (v := h 2 2 (i + 1)) (ks.1 2 _)).trans ?_
  refine (rg_virtual (pc := 2099) (dd bL_law dL_law_2099) rfl rfl (by decide) (kc := 34) rfl s2 (as := [(1, 282), (0, h 2 2 (i + 1))]) rfl ⟨Nat.le_of_ble_eq_true rfl, Nat.le_of_ble_eq_true rfl, Nat.le_of_ble_eq_true rfl, Nat.le_of_ble_eq_true rfl⟩).trans ?_
  refine (vret_v y).trans ?_
  refine (rn_istore (pc := 2102) (dd bL_law dL_law_2102) (Nat.le_of_ble_eq_true rfl) rfl).trans ?_
  refine (rn_aload_n (pc := 2104) (dd bL_law dL_law_2104) rfl).trans ?_
  refine (rg_virtual (pc := 2105) (dd bL_law dL_law_2105) rfl rfl (by decide) (kc := 34) rfl s3.1 (as := [(1, 282)]) rfl ⟨Nat.le_of_ble_eq_true rfl, Nat.le_of_ble_eq_true rfl, Nat.le_of_ble_eq_true rfl, Nat.le_of_ble_eq_true rfl⟩).trans ?_
  refine (vret_v ((spX13_thrown s3).trans (by rw [t]))).trans ?_
  refine (rn_iload (pc := 2108) (dd bL_law dL_law_2108) rfl).trans ?_
  refine (rn_icmp_eq (t := 2115) (pc := 2110) (dd bL_law dL_law_2110) rfl).trans ((if_pos rfl).trans ?_)
  refine (rn_iload (pc := 2115) (dd bL_law dL_law_2115) rfl).trans ?_
  refine (rg_if_ne (t := 2132) (pc := 2117) (dd bL_law dL_law_2117) rfl).trans ?_
  by_cases kz : k = 0
  · rw [if_pos kz]
    have f := f kz
    refine (rn_aload_n (pc := 2120) (dd bL_law dL_law_2120) rfl).trans ?_
    refine (rn_iconst (pc := 2121) (dd bL_law dL_law_2121) (by decide)).trans ?_
    refine (rg_laload (n := 1) (pc := 2122) (dd bL_law dL_law_2122) (kk.2.1.trans w.2.2.1) (kk.2.2.1.trans w.2.2.2.1) (by decide) (by decide) ((rz 2 338 0 (by decide)).trans f)).trans ?_
    refine (rn_iload (pc := 2123) (dd bL_law dL_law_2123) rfl).trans ?_
    refine (rn_i2l (pc := 2125) (dd bL_law dL_law_2125)).trans ?_
    refine (rl_lcmp (pc := 2126) (dd bL_law dL_law_2126) rfl).trans ?_
    refine (rn_if_eq (t := 2132) (pc := 2127) (dd bL_law dL_law_2127) rfl).trans ((if_pos rfl).trans ?_)
    refine (rn_goto (t := 2982) (pc := 2132) (dd bL_law dL_law_2132) rfl).trans ?_
    refine (rg_iinc (pc := 2982) (dd bL_law dL_law_2982) (x := i) rfl (Nat.le_of_ble_eq_true rfl) (by omega) (by omega) rfl).trans ?_
    exact rn_goto (t := 23) (pc := 2985) (dd bL_law dL_law_2985) rfl
  · rw [if_neg kz]
    refine (rn_goto (t := 2982) (pc := 2132) (dd bL_law dL_law_2132) rfl).trans ?_
    refine (rg_iinc (pc := 2982) (dd bL_law dL_law_2982) (x := i) rfl (Nat.le_of_ble_eq_true rfl) (by omega) (by omega) rfl).trans ?_
    exact rn_goto (t := 23) (pc := 2985) (dd bL_law dL_law_2985) rfl
theorem LC_26 {n i Ln : Int} {h : vH} {v5 v6 : vv} (J : JN n h) (hn : 0 ≤ n ∧ n ≤ 9000) (w : lwH h Ln) (hi : 0 ≤ i ∧ i + 6 ≤ Ln ∧ Ln ≤ 3072) : lwN n h i (vrun mL_law 2135 [(1, 2), (1, 3), (1, 282), (1, 338), (0, i), v5, v6] [] h) := by
  obtain ⟨o, h2, k, r, z, y, t, f, j2, ks, rz⟩ := Wr_close (x1 := h 2 2 (i + 1)) J w.2.2.1 w.2.2.2.1
  have s2 : o 0 282 0 = 34 := ks.2.2.2.1.trans J.2.1.1.1.1.1.1
  have s3 : shModel h2 := j2.2.1.1.1.1.1
  have kk := kS_rZ ks rz J j2
  refine ⟨h2, (0, k), (0, r), ?_, j2, kk⟩
  refine (rn_aload_n (pc := 2135) (dd bL_law dL_law_2135) rfl).trans ?_
  refine (rn_aload_n (pc := 2136) (dd bL_law dL_law_2136) rfl).trans ?_
  refine (rn_iload (pc := 2137) (dd bL_law dL_law_2137) rfl).trans ?_
  refine (rn_iconst (pc := 2139) (dd bL_law dL_law_2139) (by decide)).trans ?_
  refine (rg_iadd (pc := 2140) (dd bL_law dL_law_2140) (by omega) (by omega)).trans ?_
  refine (rl_iaload (n := Ln) (pc := 2141) (dd bL_law dL_law_2141) w.1 w.2.1 (by omega) (by omega) (v := h 2 2 (i + 1)) rfl).trans ?_
  refine (rn_aload_n (pc := 2142) (dd bL_law dL_law_2142) rfl).trans ?_
  refine (rg_static (pc := 2143) (dd bL_law dL_law_2143) rfl (by decide) (Nat.le_of_ble_eq_true rfl) (as := [(1, 3), (0, h 2 2 (i + 1)), (1, 338)]) rfl rfl ⟨Nat.le_of_ble_eq_true rfl, Nat.le_of_ble_eq_true rfl, Nat.le_of_ble_eq_true rfl, Nat.le_of_ble_eq_true rfl⟩).trans ?_
  refine (vret_v z).trans ?_
  refine (rn_istore (pc := 2146) (dd bL_law dL_law_2146) (Nat.le_of_ble_eq_true rfl) rfl).trans ?_
  refine (rn_aload_n (pc := 2148) (dd bL_law dL_law_2148) rfl).trans ?_
  refine (rn_aload_n (pc := 2149) (dd bL_law dL_law_2149) rfl).trans ?_
  refine (rn_iload (pc := 2150) (dd bL_law dL_law_2150) rfl).trans ?_
  refine (rn_iconst (pc := 2152) (dd bL_law dL_law_2152) (by decide)).trans ?_
  refine (rg_iadd (pc := 2153) (dd bL_law dL_law_2153) (by omega) (by omega)).trans ?_
  refine (rl_iaload (n := Ln) (pc := 2154) (dd bL_law dL_law_2154) ((ks.1 0 0).trans w.1) ((ks.1 1 0).trans w.2.1) (by omega) (by omega) (v := h 2 2 (i + 1)) (ks.1 2 _)).trans ?_
  refine (rg_virtual (pc := 2155) (dd bL_law dL_law_2155) rfl rfl (by decide) (kc := 34) rfl s2 (as := [(1, 282), (0, h 2 2 (i + 1))]) rfl ⟨Nat.le_of_ble_eq_true rfl, Nat.le_of_ble_eq_true rfl, Nat.le_of_ble_eq_true rfl, Nat.le_of_ble_eq_true rfl⟩).trans ?_
  refine (vret_v y).trans ?_
  refine (rn_istore (pc := 2158) (dd bL_law dL_law_2158) (Nat.le_of_ble_eq_true rfl) rfl).trans ?_
  refine (rn_aload_n (pc := 2160) (dd bL_law dL_law_2160) rfl).trans ?_
  refine (rg_virtual (pc := 2161) (dd bL_law dL_law_2161) rfl rfl (by decide) (kc := 34) rfl s3.1 (as := [(1, 282)]) rfl ⟨Nat.le_of_ble_eq_true rfl, Nat.le_of_ble_eq_true rfl, Nat.le_of_ble_eq_true rfl, Nat.le_of_ble_eq_true rfl⟩).trans ?_
  refine (vret_v ((spX13_thrown s3).trans (by rw [t]))).trans ?_
  refine (rn_iload (pc := 2164) (dd bL_law dL_law_2164) rfl).trans ?_
  refine (rn_icmp_eq (t := 2171) (pc := 2166) (dd bL_law dL_law_2166) rfl).trans ((if_pos rfl).trans ?_)
  refine (rn_iload (pc := 2171) (dd bL_law dL_law_2171) rfl).trans ?_
  refine (rg_if_ne (t := 2188) (pc := 2173) (dd bL_law dL_law_2173) rfl).trans ?_
  by_cases kz : k = 0
  · rw [if_pos kz]
    have f := f kz
    refine (rn_aload_n (pc := 2176) (dd bL_law dL_law_2176) rfl).trans ?_
    refine (rn_iconst (pc := 2177) (dd bL_law dL_law_2177) (by decide)).trans ?_
    refine (rg_laload (n := 1) (pc := 2178) (dd bL_law dL_law_2178) (kk.2.1.trans w.2.2.1) (kk.2.2.1.trans w.2.2.2.1) (by decide) (by decide) ((rz 2 338 0 (by decide)).trans f)).trans ?_
    refine (rn_iload (pc := 2179) (dd bL_law dL_law_2179) rfl).trans ?_
    refine (rn_i2l (pc := 2181) (dd bL_law dL_law_2181)).trans ?_
    refine (rl_lcmp (pc := 2182) (dd bL_law dL_law_2182) rfl).trans ?_
    refine (rn_if_eq (t := 2188) (pc := 2183) (dd bL_law dL_law_2183) rfl).trans ((if_pos rfl).trans ?_)
    refine (rn_goto (t := 2982) (pc := 2188) (dd bL_law dL_law_2188) rfl).trans ?_
    refine (rg_iinc (pc := 2982) (dd bL_law dL_law_2982) (x := i) rfl (Nat.le_of_ble_eq_true rfl) (by omega) (by omega) rfl).trans ?_
    exact rn_goto (t := 23) (pc := 2985) (dd bL_law dL_law_2985) rfl
  · rw [if_neg kz]
    refine (rn_goto (t := 2982) (pc := 2188) (dd bL_law dL_law_2188) rfl).trans ?_
    refine (rg_iinc (pc := 2982) (dd bL_law dL_law_2982) (x := i) rfl (Nat.le_of_ble_eq_true rfl) (by omega) (by omega) rfl).trans ?_
    exact rn_goto (t := 23) (pc := 2985) (dd bL_law dL_law_2985) rfl
theorem LC_27 {n i Ln : Int} {h : vH} {v5 v6 : vv} (J : JN n h) (hn : 0 ≤ n ∧ n ≤ 9000) (w : lwH h Ln) (hi : 0 ≤ i ∧ i + 6 ≤ Ln ∧ Ln ≤ 3072) : lwN n h i (vrun mL_law 2191 [(1, 2), (1, 3), (1, 282), (1, 338), (0, i), v5, v6] [] h) := by
  obtain ⟨o, h2, k, r, z, y, t, f, j2, ks, rz⟩ := Wr_share (x1 := h 2 2 (i + 1)) (x2 := h 2 2 (i + 2)) (x3 := h 2 2 (i + 3)) (x4 := h 2 2 (i + 4)) J w.2.2.1 w.2.2.2.1
  have s2 : o 0 282 0 = 34 := ks.2.2.2.1.trans J.2.1.1.1.1.1.1
  have s3 : shModel h2 := j2.2.1.1.1.1.1
  have kk := kS_rZ ks rz J j2
  refine ⟨h2, (0, k), (0, r), ?_, j2, kk⟩
  refine (rn_aload_n (pc := 2191) (dd bL_law dL_law_2191) rfl).trans ?_
  refine (rn_aload_n (pc := 2192) (dd bL_law dL_law_2192) rfl).trans ?_
  refine (rn_iload (pc := 2193) (dd bL_law dL_law_2193) rfl).trans ?_
  refine (rn_iconst (pc := 2195) (dd bL_law dL_law_2195) (by decide)).trans ?_
  refine (rg_iadd (pc := 2196) (dd bL_law dL_law_2196) (by omega) (by omega)).trans ?_
  refine (rl_iaload (n := Ln) (pc := 2197) (dd bL_law dL_law_2197) w.1 w.2.1 (by omega) (by omega) (v := h 2 2 (i + 1)) rfl).trans ?_
  refine (rn_aload_n (pc := 2198) (dd bL_law dL_law_2198) rfl).trans ?_
  refine (rn_iload (pc := 2199) (dd bL_law dL_law_2199) rfl).trans ?_
  refine (rn_iconst (pc := 2201) (dd bL_law dL_law_2201) (by decide)).trans ?_
  refine (rg_iadd (pc := 2202) (dd bL_law dL_law_2202) (by omega) (by omega)).trans ?_
  refine (rl_iaload (n := Ln) (pc := 2203) (dd bL_law dL_law_2203) w.1 w.2.1 (by omega) (by omega) (v := h 2 2 (i + 2)) rfl).trans ?_
  refine (rn_aload_n (pc := 2204) (dd bL_law dL_law_2204) rfl).trans ?_
  refine (rn_iload (pc := 2205) (dd bL_law dL_law_2205) rfl).trans ?_
  refine (rn_iconst (pc := 2207) (dd bL_law dL_law_2207) (by decide)).trans ?_
  refine (rg_iadd (pc := 2208) (dd bL_law dL_law_2208) (by omega) (by omega)).trans ?_
  refine (rl_iaload (n := Ln) (pc := 2209) (dd bL_law dL_law_2209) w.1 w.2.1 (by omega) (by omega) (v := h 2 2 (i + 3)) rfl).trans ?_
  refine (rn_aload_n (pc := 2210) (dd bL_law dL_law_2210) rfl).trans ?_
  refine (rn_iload (pc := 2211) (dd bL_law dL_law_2211) rfl).trans ?_
  refine (rn_iconst (pc := 2213) (dd bL_law dL_law_2213) (by decide)).trans ?_
  refine (rg_iadd (pc := 2214) (dd bL_law dL_law_2214) (by omega) (by omega)).trans ?_
  refine (rl_iaload (n := Ln) (pc := 2215) (dd bL_law dL_law_2215) w.1 w.2.1 (by omega) (by omega) (v := h 2 2 (i + 4)) rfl).trans ?_
  refine (rn_aload_n (pc := 2216) (dd bL_law dL_law_2216) rfl).trans ?_
  refine (rg_static (pc := 2217) (dd bL_law dL_law_2217) rfl (by decide) (Nat.le_of_ble_eq_true rfl) (as := [(1, 3), (0, h 2 2 (i + 1)), (0, h 2 2 (i + 2)), (0, h 2 2 (i + 3)), (0, h 2 2 (i + 4)), (1, 338)]) rfl rfl ⟨Nat.le_of_ble_eq_true rfl, Nat.le_of_ble_eq_true rfl, Nat.le_of_ble_eq_true rfl, Nat.le_of_ble_eq_true rfl⟩).trans ?_
  refine (vret_v z).trans ?_
  refine (rn_istore (pc := 2220) (dd bL_law dL_law_2220) (Nat.le_of_ble_eq_true rfl) rfl).trans ?_
  refine (rn_aload_n (pc := 2222) (dd bL_law dL_law_2222) rfl).trans ?_
  refine (rn_aload_n (pc := 2223) (dd bL_law dL_law_2223) rfl).trans ?_
  refine (rn_iload (pc := 2224) (dd bL_law dL_law_2224) rfl).trans ?_
  refine (rn_iconst (pc := 2226) (dd bL_law dL_law_2226) (by decide)).trans ?_
  refine (rg_iadd (pc := 2227) (dd bL_law dL_law_2227) (by omega) (by omega)).trans ?_
  refine (rl_iaload (n := Ln) (pc := 2228) (dd bL_law dL_law_2228) ((ks.1 0 0).trans w.1) ((ks.1 1 0).trans w.2.1) (by omega) (by omega) (v := h 2 2 (i + 1)) (ks.1 2 _)).trans ?_
  refine (rn_aload_n (pc := 2229) (dd bL_law dL_law_2229) rfl).trans ?_
  refine (rn_iload (pc := 2230) (dd bL_law dL_law_2230) rfl).trans ?_
  refine (rn_iconst (pc := 2232) (dd bL_law dL_law_2232) (by decide)).trans ?_
  refine (rg_iadd (pc := 2233) (dd bL_law dL_law_2233) (by omega) (by omega)).trans ?_
  refine (rl_iaload (n := Ln) (pc := 2234) (dd bL_law dL_law_2234) ((ks.1 0 0).trans w.1) ((ks.1 1 0).trans w.2.1) (by omega) (by omega) (v := h 2 2 (i + 2)) (ks.1 2 _)).trans ?_
  refine (rn_aload_n (pc := 2235) (dd bL_law dL_law_2235) rfl).trans ?_
  refine (rn_iload (pc := 2236) (dd bL_law dL_law_2236) rfl).trans ?_
  refine (rn_iconst (pc := 2238) (dd bL_law dL_law_2238) (by decide)).trans ?_
  refine (rg_iadd (pc := 2239) (dd bL_law dL_law_2239) (by omega) (by omega)).trans ?_
  refine (rl_iaload (n := Ln) (pc := 2240) (dd bL_law dL_law_2240) ((ks.1 0 0).trans w.1) ((ks.1 1 0).trans w.2.1) (by omega) (by omega) (v := h 2 2 (i + 3)) (ks.1 2 _)).trans ?_
  refine (rn_aload_n (pc := 2241) (dd bL_law dL_law_2241) rfl).trans ?_
  refine (rn_iload (pc := 2242) (dd bL_law dL_law_2242) rfl).trans ?_
  refine (rn_iconst (pc := 2244) (dd bL_law dL_law_2244) (by decide)).trans ?_
  refine (rg_iadd (pc := 2245) (dd bL_law dL_law_2245) (by omega) (by omega)).trans ?_
  refine (rl_iaload (n := Ln) (pc := 2246) (dd bL_law dL_law_2246) ((ks.1 0 0).trans w.1) ((ks.1 1 0).trans w.2.1) (by omega) (by omega) (v := h 2 2 (i + 4)) (ks.1 2 _)).trans ?_
  refine (rg_virtual (pc := 2247) (dd bL_law dL_law_2247) rfl rfl (by decide) (kc := 34) rfl s2 (as := [(1, 282), (0, h 2 2 (i + 1)), (0, h 2 2 (i + 2)), (0, h 2 2 (i + 3)), (0, h 2 2 (i + 4))]) rfl ⟨Nat.le_of_ble_eq_true rfl, Nat.le_of_ble_eq_true rfl, Nat.le_of_ble_eq_true rfl, Nat.le_of_ble_eq_true rfl⟩).trans ?_
  refine (vret_v y).trans ?_
  refine (rn_istore (pc := 2250) (dd bL_law dL_law_2250) (Nat.le_of_ble_eq_true rfl) rfl).trans ?_
  refine (rn_aload_n (pc := 2252) (dd bL_law dL_law_2252) rfl).trans ?_
  refine (rg_virtual (pc := 2253) (dd bL_law dL_law_2253) rfl rfl (by decide) (kc := 34) rfl s3.1 (as := [(1, 282)]) rfl ⟨Nat.le_of_ble_eq_true rfl, Nat.le_of_ble_eq_true rfl, Nat.le_of_ble_eq_true rfl, Nat.le_of_ble_eq_true rfl⟩).trans ?_
  refine (vret_v ((spX13_thrown s3).trans (by rw [t]))).trans ?_
  refine (rn_iload (pc := 2256) (dd bL_law dL_law_2256) rfl).trans ?_
  refine (rn_icmp_eq (t := 2263) (pc := 2258) (dd bL_law dL_law_2258) rfl).trans ((if_pos rfl).trans ?_)
  refine (rn_iload (pc := 2263) (dd bL_law dL_law_2263) rfl).trans ?_
  refine (rg_if_ne (t := 2280) (pc := 2265) (dd bL_law dL_law_2265) rfl).trans ?_
  by_cases kz : k = 0
  · rw [if_pos kz]
    have f := f kz
    refine (rn_aload_n (pc := 2268) (dd bL_law dL_law_2268) rfl).trans ?_
    refine (rn_iconst (pc := 2269) (dd bL_law dL_law_2269) (by decide)).trans ?_
    refine (rg_laload (n := 1) (pc := 2270) (dd bL_law dL_law_2270) (kk.2.1.trans w.2.2.1) (kk.2.2.1.trans w.2.2.2.1) (by decide) (by decide) ((rz 2 338 0 (by decide)).trans f)).trans ?_
    refine (rn_iload (pc := 2271) (dd bL_law dL_law_2271) rfl).trans ?_
    refine (rn_i2l (pc := 2273) (dd bL_law dL_law_2273)).trans ?_
    refine (rl_lcmp (pc := 2274) (dd bL_law dL_law_2274) rfl).trans ?_
    refine (rn_if_eq (t := 2280) (pc := 2275) (dd bL_law dL_law_2275) rfl).trans ((if_pos rfl).trans ?_)
    refine (rn_goto (t := 2982) (pc := 2280) (dd bL_law dL_law_2280) rfl).trans ?_
    refine (rg_iinc (pc := 2982) (dd bL_law dL_law_2982) (x := i) rfl (Nat.le_of_ble_eq_true rfl) (by omega) (by omega) rfl).trans ?_
    exact rn_goto (t := 23) (pc := 2985) (dd bL_law dL_law_2985) rfl
  · rw [if_neg kz]
    refine (rn_goto (t := 2982) (pc := 2280) (dd bL_law dL_law_2280) rfl).trans ?_
    refine (rg_iinc (pc := 2982) (dd bL_law dL_law_2982) (x := i) rfl (Nat.le_of_ble_eq_true rfl) (by omega) (by omega) rfl).trans ?_
    exact rn_goto (t := 23) (pc := 2985) (dd bL_law dL_law_2985) rfl
theorem LC_28 {n i Ln : Int} {h : vH} {v5 v6 : vv} (J : JN n h) (hn : 0 ≤ n ∧ n ≤ 9000) (w : lwH h Ln) (hi : 0 ≤ i ∧ i + 6 ≤ Ln ∧ Ln ≤ 3072) : lwN n h i (vrun mL_law 2283 [(1, 2), (1, 3), (1, 282), (1, 338), (0, i), v5, v6] [] h) := by
  obtain ⟨o, h2, k, r, z, y, t, f, j2, ks, rz⟩ := Wr_height (x1 := h 2 2 (i + 1)) J w.2.2.1 w.2.2.2.1
  have s2 : o 0 282 0 = 34 := ks.2.2.2.1.trans J.2.1.1.1.1.1.1
  have s3 : shModel h2 := j2.2.1.1.1.1.1
  have kk := kS_rZ ks rz J j2
  refine ⟨h2, (0, k), (0, r), ?_, j2, kk⟩
  refine (rn_aload_n (pc := 2283) (dd bL_law dL_law_2283) rfl).trans ?_
  refine (rn_aload_n (pc := 2284) (dd bL_law dL_law_2284) rfl).trans ?_
  refine (rn_iload (pc := 2285) (dd bL_law dL_law_2285) rfl).trans ?_
  refine (rn_iconst (pc := 2287) (dd bL_law dL_law_2287) (by decide)).trans ?_
  refine (rg_iadd (pc := 2288) (dd bL_law dL_law_2288) (by omega) (by omega)).trans ?_
  refine (rl_iaload (n := Ln) (pc := 2289) (dd bL_law dL_law_2289) w.1 w.2.1 (by omega) (by omega) (v := h 2 2 (i + 1)) rfl).trans ?_
  refine (rn_aload_n (pc := 2290) (dd bL_law dL_law_2290) rfl).trans ?_
  refine (rg_static (pc := 2291) (dd bL_law dL_law_2291) rfl (by decide) (Nat.le_of_ble_eq_true rfl) (as := [(1, 3), (0, h 2 2 (i + 1)), (1, 338)]) rfl rfl ⟨Nat.le_of_ble_eq_true rfl, Nat.le_of_ble_eq_true rfl, Nat.le_of_ble_eq_true rfl, Nat.le_of_ble_eq_true rfl⟩).trans ?_
  refine (vret_v z).trans ?_
  refine (rn_istore (pc := 2294) (dd bL_law dL_law_2294) (Nat.le_of_ble_eq_true rfl) rfl).trans ?_
  refine (rn_aload_n (pc := 2296) (dd bL_law dL_law_2296) rfl).trans ?_
  refine (rn_aload_n (pc := 2297) (dd bL_law dL_law_2297) rfl).trans ?_
  refine (rn_iload (pc := 2298) (dd bL_law dL_law_2298) rfl).trans ?_
  refine (rn_iconst (pc := 2300) (dd bL_law dL_law_2300) (by decide)).trans ?_
  refine (rg_iadd (pc := 2301) (dd bL_law dL_law_2301) (by omega) (by omega)).trans ?_
  refine (rl_iaload (n := Ln) (pc := 2302) (dd bL_law dL_law_2302) ((ks.1 0 0).trans w.1) ((ks.1 1 0).trans w.2.1) (by omega) (by omega) (v := h 2 2 (i + 1)) (ks.1 2 _)).trans ?_
  refine (rg_virtual (pc := 2303) (dd bL_law dL_law_2303) rfl rfl (by decide) (kc := 34) rfl s2 (as := [(1, 282), (0, h 2 2 (i + 1))]) rfl ⟨Nat.le_of_ble_eq_true rfl, Nat.le_of_ble_eq_true rfl, Nat.le_of_ble_eq_true rfl, Nat.le_of_ble_eq_true rfl⟩).trans ?_
  refine (vret_v y).trans ?_
  refine (rn_istore (pc := 2306) (dd bL_law dL_law_2306) (Nat.le_of_ble_eq_true rfl) rfl).trans ?_
  refine (rn_aload_n (pc := 2308) (dd bL_law dL_law_2308) rfl).trans ?_
  refine (rg_virtual (pc := 2309) (dd bL_law dL_law_2309) rfl rfl (by decide) (kc := 34) rfl s3.1 (as := [(1, 282)]) rfl ⟨Nat.le_of_ble_eq_true rfl, Nat.le_of_ble_eq_true rfl, Nat.le_of_ble_eq_true rfl, Nat.le_of_ble_eq_true rfl⟩).trans ?_
  refine (vret_v ((spX13_thrown s3).trans (by rw [t]))).trans ?_
  refine (rn_iload (pc := 2312) (dd bL_law dL_law_2312) rfl).trans ?_
  refine (rn_icmp_eq (t := 2319) (pc := 2314) (dd bL_law dL_law_2314) rfl).trans ((if_pos rfl).trans ?_)
  refine (rn_iload (pc := 2319) (dd bL_law dL_law_2319) rfl).trans ?_
  refine (rg_if_ne (t := 2336) (pc := 2321) (dd bL_law dL_law_2321) rfl).trans ?_
  by_cases kz : k = 0
  · rw [if_pos kz]
    have f := f kz
    refine (rn_aload_n (pc := 2324) (dd bL_law dL_law_2324) rfl).trans ?_
    refine (rn_iconst (pc := 2325) (dd bL_law dL_law_2325) (by decide)).trans ?_
    refine (rg_laload (n := 1) (pc := 2326) (dd bL_law dL_law_2326) (kk.2.1.trans w.2.2.1) (kk.2.2.1.trans w.2.2.2.1) (by decide) (by decide) ((rz 2 338 0 (by decide)).trans f)).trans ?_
    refine (rn_iload (pc := 2327) (dd bL_law dL_law_2327) rfl).trans ?_
    refine (rn_i2l (pc := 2329) (dd bL_law dL_law_2329)).trans ?_
    refine (rl_lcmp (pc := 2330) (dd bL_law dL_law_2330) rfl).trans ?_
    refine (rn_if_eq (t := 2336) (pc := 2331) (dd bL_law dL_law_2331) rfl).trans ((if_pos rfl).trans ?_)
    refine (rn_goto (t := 2982) (pc := 2336) (dd bL_law dL_law_2336) rfl).trans ?_
    refine (rg_iinc (pc := 2982) (dd bL_law dL_law_2982) (x := i) rfl (Nat.le_of_ble_eq_true rfl) (by omega) (by omega) rfl).trans ?_
    exact rn_goto (t := 23) (pc := 2985) (dd bL_law dL_law_2985) rfl
  · rw [if_neg kz]
    refine (rn_goto (t := 2982) (pc := 2336) (dd bL_law dL_law_2336) rfl).trans ?_
    refine (rg_iinc (pc := 2982) (dd bL_law dL_law_2982) (x := i) rfl (Nat.le_of_ble_eq_true rfl) (by omega) (by omega) rfl).trans ?_
    exact rn_goto (t := 23) (pc := 2985) (dd bL_law dL_law_2985) rfl
theorem LC_29 {n i Ln : Int} {h : vH} {v5 v6 : vv} (J : JN n h) (hn : 0 ≤ n ∧ n ≤ 9000) (w : lwH h Ln) (hi : 0 ≤ i ∧ i + 6 ≤ Ln ∧ Ln ≤ 3072) : lwN n h i (vrun mL_law 2339 [(1, 2), (1, 3), (1, 282), (1, 338), (0, i), v5, v6] [] h) := by
  obtain ⟨o, h2, k, r, z, y, t, f, j2, ks, rz⟩ := Wr_put (x1 := h 2 2 (i + 1)) (x2 := h 2 2 (i + 2)) (x3 := h 2 2 (i + 3)) J w.2.2.1 w.2.2.2.1
  have s2 : o 0 282 0 = 34 := ks.2.2.2.1.trans J.2.1.1.1.1.1.1
  have s3 : shModel h2 := j2.2.1.1.1.1.1
  have kk := kS_rZ ks rz J j2
  refine ⟨h2, (0, k), (0, r), ?_, j2, kk⟩
  refine (rn_aload_n (pc := 2339) (dd bL_law dL_law_2339) rfl).trans ?_
  refine (rn_aload_n (pc := 2340) (dd bL_law dL_law_2340) rfl).trans ?_
  refine (rn_iload (pc := 2341) (dd bL_law dL_law_2341) rfl).trans ?_
  refine (rn_iconst (pc := 2343) (dd bL_law dL_law_2343) (by decide)).trans ?_
  refine (rg_iadd (pc := 2344) (dd bL_law dL_law_2344) (by omega) (by omega)).trans ?_
  refine (rl_iaload (n := Ln) (pc := 2345) (dd bL_law dL_law_2345) w.1 w.2.1 (by omega) (by omega) (v := h 2 2 (i + 1)) rfl).trans ?_
  refine (rn_aload_n (pc := 2346) (dd bL_law dL_law_2346) rfl).trans ?_
  refine (rn_iload (pc := 2347) (dd bL_law dL_law_2347) rfl).trans ?_
  refine (rn_iconst (pc := 2349) (dd bL_law dL_law_2349) (by decide)).trans ?_
  refine (rg_iadd (pc := 2350) (dd bL_law dL_law_2350) (by omega) (by omega)).trans ?_
  refine (rl_iaload (n := Ln) (pc := 2351) (dd bL_law dL_law_2351) w.1 w.2.1 (by omega) (by omega) (v := h 2 2 (i + 2)) rfl).trans ?_
  refine (rn_aload_n (pc := 2352) (dd bL_law dL_law_2352) rfl).trans ?_
  refine (rn_iload (pc := 2353) (dd bL_law dL_law_2353) rfl).trans ?_
  refine (rn_iconst (pc := 2355) (dd bL_law dL_law_2355) (by decide)).trans ?_
  refine (rg_iadd (pc := 2356) (dd bL_law dL_law_2356) (by omega) (by omega)).trans ?_
  refine (rl_iaload (n := Ln) (pc := 2357) (dd bL_law dL_law_2357) w.1 w.2.1 (by omega) (by omega) (v := h 2 2 (i + 3)) rfl).trans ?_
  refine (rn_aload_n (pc := 2358) (dd bL_law dL_law_2358) rfl).trans ?_
  refine (rg_static (pc := 2359) (dd bL_law dL_law_2359) rfl (by decide) (Nat.le_of_ble_eq_true rfl) (as := [(1, 3), (0, h 2 2 (i + 1)), (0, h 2 2 (i + 2)), (0, h 2 2 (i + 3)), (1, 338)]) rfl rfl ⟨Nat.le_of_ble_eq_true rfl, Nat.le_of_ble_eq_true rfl, Nat.le_of_ble_eq_true rfl, Nat.le_of_ble_eq_true rfl⟩).trans ?_
  refine (vret_v z).trans ?_
  refine (rn_istore (pc := 2362) (dd bL_law dL_law_2362) (Nat.le_of_ble_eq_true rfl) rfl).trans ?_
  refine (rn_aload_n (pc := 2364) (dd bL_law dL_law_2364) rfl).trans ?_
  refine (rn_aload_n (pc := 2365) (dd bL_law dL_law_2365) rfl).trans ?_
  refine (rn_iload (pc := 2366) (dd bL_law dL_law_2366) rfl).trans ?_
  refine (rn_iconst (pc := 2368) (dd bL_law dL_law_2368) (by decide)).trans ?_
  refine (rg_iadd (pc := 2369) (dd bL_law dL_law_2369) (by omega) (by omega)).trans ?_
  refine (rl_iaload (n := Ln) (pc := 2370) (dd bL_law dL_law_2370) ((ks.1 0 0).trans w.1) ((ks.1 1 0).trans w.2.1) (by omega) (by omega) (v := h 2 2 (i + 1)) (ks.1 2 _)).trans ?_
  refine (rn_aload_n (pc := 2371) (dd bL_law dL_law_2371) rfl).trans ?_
  refine (rn_iload (pc := 2372) (dd bL_law dL_law_2372) rfl).trans ?_
  refine (rn_iconst (pc := 2374) (dd bL_law dL_law_2374) (by decide)).trans ?_
  refine (rg_iadd (pc := 2375) (dd bL_law dL_law_2375) (by omega) (by omega)).trans ?_
  refine (rl_iaload (n := Ln) (pc := 2376) (dd bL_law dL_law_2376) ((ks.1 0 0).trans w.1) ((ks.1 1 0).trans w.2.1) (by omega) (by omega) (v := h 2 2 (i + 2)) (ks.1 2 _)).trans ?_
  refine (rn_aload_n (pc := 2377) (dd bL_law dL_law_2377) rfl).trans ?_
  refine (rn_iload (pc := 2378) (dd bL_law dL_law_2378) rfl).trans ?_
  refine (rn_iconst (pc := 2380) (dd bL_law dL_law_2380) (by decide)).trans ?_
  refine (rg_iadd (pc := 2381) (dd bL_law dL_law_2381) (by omega) (by omega)).trans ?_
  refine (rl_iaload (n := Ln) (pc := 2382) (dd bL_law dL_law_2382) ((ks.1 0 0).trans w.1) ((ks.1 1 0).trans w.2.1) (by omega) (by omega) (v := h 2 2 (i + 3)) (ks.1 2 _)).trans ?_
  refine (rg_virtual (pc := 2383) (dd bL_law dL_law_2383) rfl rfl (by decide) (kc := 34) rfl s2 (as := [(1, 282), (0, h 2 2 (i + 1)), (0, h 2 2 (i + 2)), (0, h 2 2 (i + 3))]) rfl ⟨Nat.le_of_ble_eq_true rfl, Nat.le_of_ble_eq_true rfl, Nat.le_of_ble_eq_true rfl, Nat.le_of_ble_eq_true rfl⟩).trans ?_
  refine (vret_v y).trans ?_
  refine (rn_istore (pc := 2386) (dd bL_law dL_law_2386) (Nat.le_of_ble_eq_true rfl) rfl).trans ?_
  refine (rn_aload_n (pc := 2388) (dd bL_law dL_law_2388) rfl).trans ?_
  refine (rg_virtual (pc := 2389) (dd bL_law dL_law_2389) rfl rfl (by decide) (kc := 34) rfl s3.1 (as := [(1, 282)]) rfl ⟨Nat.le_of_ble_eq_true rfl, Nat.le_of_ble_eq_true rfl, Nat.le_of_ble_eq_true rfl, Nat.le_of_ble_eq_true rfl⟩).trans ?_
  refine (vret_v ((spX13_thrown s3).trans (by rw [t]))).trans ?_
  refine (rn_iload (pc := 2392) (dd bL_law dL_law_2392) rfl).trans ?_
  refine (rn_icmp_eq (t := 2399) (pc := 2394) (dd bL_law dL_law_2394) rfl).trans ((if_pos rfl).trans ?_)
  refine (rn_iload (pc := 2399) (dd bL_law dL_law_2399) rfl).trans ?_
  refine (rg_if_ne (t := 2416) (pc := 2401) (dd bL_law dL_law_2401) rfl).trans ?_
  by_cases kz : k = 0
  · rw [if_pos kz]
    have f := f kz
    refine (rn_aload_n (pc := 2404) (dd bL_law dL_law_2404) rfl).trans ?_
    refine (rn_iconst (pc := 2405) (dd bL_law dL_law_2405) (by decide)).trans ?_
    refine (rg_laload (n := 1) (pc := 2406) (dd bL_law dL_law_2406) (kk.2.1.trans w.2.2.1) (kk.2.2.1.trans w.2.2.2.1) (by decide) (by decide) ((rz 2 338 0 (by decide)).trans f)).trans ?_
    refine (rn_iload (pc := 2407) (dd bL_law dL_law_2407) rfl).trans ?_
    refine (rn_i2l (pc := 2409) (dd bL_law dL_law_2409)).trans ?_
    refine (rl_lcmp (pc := 2410) (dd bL_law dL_law_2410) rfl).trans ?_
    refine (rn_if_eq (t := 2416) (pc := 2411) (dd bL_law dL_law_2411) rfl).trans ((if_pos rfl).trans ?_)
    refine (rn_goto (t := 2982) (pc := 2416) (dd bL_law dL_law_2416) rfl).trans ?_
    refine (rg_iinc (pc := 2982) (dd bL_law dL_law_2982) (x := i) rfl (Nat.le_of_ble_eq_true rfl) (by omega) (by omega) rfl).trans ?_
    exact rn_goto (t := 23) (pc := 2985) (dd bL_law dL_law_2985) rfl
  · rw [if_neg kz]
    refine (rn_goto (t := 2982) (pc := 2416) (dd bL_law dL_law_2416) rfl).trans ?_
    refine (rg_iinc (pc := 2982) (dd bL_law dL_law_2982) (x := i) rfl (Nat.le_of_ble_eq_true rfl) (by omega) (by omega) rfl).trans ?_
    exact rn_goto (t := 23) (pc := 2985) (dd bL_law dL_law_2985) rfl
theorem LC_30 {n i Ln : Int} {h : vH} {v5 v6 : vv} (J : JN n h) (hn : 0 ≤ n ∧ n ≤ 9000) (w : lwH h Ln) (hi : 0 ≤ i ∧ i + 6 ≤ Ln ∧ Ln ≤ 3072) : lwN n h i (vrun mL_law 2419 [(1, 2), (1, 3), (1, 282), (1, 338), (0, i), v5, v6] [] h) := by
  obtain ⟨o, h2, k, r, z, y, t, f, j2, ks, rz⟩ := Wr_move (x1 := h 2 2 (i + 1)) (x2 := h 2 2 (i + 2)) J w.2.2.1 w.2.2.2.1
  have s2 : o 0 282 0 = 34 := ks.2.2.2.1.trans J.2.1.1.1.1.1.1
  have s3 : shModel h2 := j2.2.1.1.1.1.1
  have kk := kS_rZ ks rz J j2
  refine ⟨h2, (0, k), (0, r), ?_, j2, kk⟩
  refine (rn_aload_n (pc := 2419) (dd bL_law dL_law_2419) rfl).trans ?_
  refine (rn_aload_n (pc := 2420) (dd bL_law dL_law_2420) rfl).trans ?_
  refine (rn_iload (pc := 2421) (dd bL_law dL_law_2421) rfl).trans ?_
  refine (rn_iconst (pc := 2423) (dd bL_law dL_law_2423) (by decide)).trans ?_
  refine (rg_iadd (pc := 2424) (dd bL_law dL_law_2424) (by omega) (by omega)).trans ?_
  refine (rl_iaload (n := Ln) (pc := 2425) (dd bL_law dL_law_2425) w.1 w.2.1 (by omega) (by omega) (v := h 2 2 (i + 1)) rfl).trans ?_
  refine (rn_aload_n (pc := 2426) (dd bL_law dL_law_2426) rfl).trans ?_
  refine (rn_iload (pc := 2427) (dd bL_law dL_law_2427) rfl).trans ?_
  refine (rn_iconst (pc := 2429) (dd bL_law dL_law_2429) (by decide)).trans ?_
  refine (rg_iadd (pc := 2430) (dd bL_law dL_law_2430) (by omega) (by omega)).trans ?_
  refine (rl_iaload (n := Ln) (pc := 2431) (dd bL_law dL_law_2431) w.1 w.2.1 (by omega) (by omega) (v := h 2 2 (i + 2)) rfl).trans ?_
  refine (rn_aload_n (pc := 2432) (dd bL_law dL_law_2432) rfl).trans ?_
  refine (rg_static (pc := 2433) (dd bL_law dL_law_2433) rfl (by decide) (Nat.le_of_ble_eq_true rfl) (as := [(1, 3), (0, h 2 2 (i + 1)), (0, h 2 2 (i + 2)), (1, 338)]) rfl rfl ⟨Nat.le_of_ble_eq_true rfl, Nat.le_of_ble_eq_true rfl, Nat.le_of_ble_eq_true rfl, Nat.le_of_ble_eq_true rfl⟩).trans ?_
  refine (vret_v z).trans ?_
  refine (rn_istore (pc := 2436) (dd bL_law dL_law_2436) (Nat.le_of_ble_eq_true rfl) rfl).trans ?_
  refine (rn_aload_n (pc := 2438) (dd bL_law dL_law_2438) rfl).trans ?_
  refine (rn_aload_n (pc := 2439) (dd bL_law dL_law_2439) rfl).trans ?_
  refine (rn_iload (pc := 2440) (dd bL_law dL_law_2440) rfl).trans ?_
  refine (rn_iconst (pc := 2442) (dd bL_law dL_law_2442) (by decide)).trans ?_
  refine (rg_iadd (pc := 2443) (dd bL_law dL_law_2443) (by omega) (by omega)).trans ?_
  refine (rl_iaload (n := Ln) (pc := 2444) (dd bL_law dL_law_2444) ((ks.1 0 0).trans w.1) ((ks.1 1 0).trans w.2.1) (by omega) (by omega) (v := h 2 2 (i + 1)) (ks.1 2 _)).trans ?_
  refine (rn_aload_n (pc := 2445) (dd bL_law dL_law_2445) rfl).trans ?_
  refine (rn_iload (pc := 2446) (dd bL_law dL_law_2446) rfl).trans ?_
  refine (rn_iconst (pc := 2448) (dd bL_law dL_law_2448) (by decide)).trans ?_
  refine (rg_iadd (pc := 2449) (dd bL_law dL_law_2449) (by omega) (by omega)).trans ?_
  refine (rl_iaload (n := Ln) (pc := 2450) (dd bL_law dL_law_2450) ((ks.1 0 0).trans w.1) ((ks.1 1 0).trans w.2.1) (by omega) (by omega) (v := h 2 2 (i + 2)) (ks.1 2 _)).trans ?_
  refine (rg_virtual (pc := 2451) (dd bL_law dL_law_2451) rfl rfl (by decide) (kc := 34) rfl s2 (as := [(1, 282), (0, h 2 2 (i + 1)), (0, h 2 2 (i + 2))]) rfl ⟨Nat.le_of_ble_eq_true rfl, Nat.le_of_ble_eq_true rfl, Nat.le_of_ble_eq_true rfl, Nat.le_of_ble_eq_true rfl⟩).trans ?_
  refine (vret_v y).trans ?_
  refine (rn_istore (pc := 2454) (dd bL_law dL_law_2454) (Nat.le_of_ble_eq_true rfl) rfl).trans ?_
  refine (rn_aload_n (pc := 2456) (dd bL_law dL_law_2456) rfl).trans ?_
  refine (rg_virtual (pc := 2457) (dd bL_law dL_law_2457) rfl rfl (by decide) (kc := 34) rfl s3.1 (as := [(1, 282)]) rfl ⟨Nat.le_of_ble_eq_true rfl, Nat.le_of_ble_eq_true rfl, Nat.le_of_ble_eq_true rfl, Nat.le_of_ble_eq_true rfl⟩).trans ?_
  refine (vret_v ((spX13_thrown s3).trans (by rw [t]))).trans ?_
  refine (rn_iload (pc := 2460) (dd bL_law dL_law_2460) rfl).trans ?_
  refine (rn_icmp_eq (t := 2467) (pc := 2462) (dd bL_law dL_law_2462) rfl).trans ((if_pos rfl).trans ?_)
  refine (rn_iload (pc := 2467) (dd bL_law dL_law_2467) rfl).trans ?_
  refine (rg_if_ne (t := 2491) (pc := 2469) (dd bL_law dL_law_2469) rfl).trans ?_
  by_cases kz : k = 0
  · rw [if_pos kz]
    have f := f kz
    refine (rn_aload_n (pc := 2472) (dd bL_law dL_law_2472) rfl).trans ?_
    refine (rn_iconst (pc := 2473) (dd bL_law dL_law_2473) (by decide)).trans ?_
    refine (rg_laload (n := 1) (pc := 2474) (dd bL_law dL_law_2474) (kk.2.1.trans w.2.2.1) (kk.2.2.1.trans w.2.2.2.1) (by decide) (by decide) ((rz 2 338 0 (by decide)).trans f)).trans ?_
    refine (rn_iload (pc := 2475) (dd bL_law dL_law_2475) rfl).trans ?_
    refine (rn_if_eq (t := 2484) (pc := 2477) (dd bL_law dL_law_2477) rfl).trans ?_
    by_cases c : r = 0
    · rw [if_pos c]
      refine (rn_lconst (pc := 2484) (dd bL_law dL_law_2484)).trans ?_
      refine (rl_lcmp (pc := 2485) (dd bL_law dL_law_2485) (by first | exact if_pos c | exact if_neg c)).trans ?_
      refine (rn_if_eq (t := 2491) (pc := 2486) (dd bL_law dL_law_2486) rfl).trans ((if_pos rfl).trans ?_)
      refine (rn_goto (t := 2982) (pc := 2491) (dd bL_law dL_law_2491) rfl).trans ?_
      refine (rg_iinc (pc := 2982) (dd bL_law dL_law_2982) (x := i) rfl (Nat.le_of_ble_eq_true rfl) (by omega) (by omega) rfl).trans ?_
      exact rn_goto (t := 23) (pc := 2985) (dd bL_law dL_law_2985) rfl
    · rw [if_neg c]
      refine (rn_lconst (pc := 2480) (dd bL_law dL_law_2480)).trans ?_
      refine (rn_goto (t := 2485) (pc := 2481) (dd bL_law dL_law_2481) rfl).trans ?_
      refine (rl_lcmp (pc := 2485) (dd bL_law dL_law_2485) (by first | exact if_pos c | exact if_neg c)).trans ?_
      refine (rn_if_eq (t := 2491) (pc := 2486) (dd bL_law dL_law_2486) rfl).trans ((if_pos rfl).trans ?_)
      refine (rn_goto (t := 2982) (pc := 2491) (dd bL_law dL_law_2491) rfl).trans ?_
      refine (rg_iinc (pc := 2982) (dd bL_law dL_law_2982) (x := i) rfl (Nat.le_of_ble_eq_true rfl) (by omega) (by omega) rfl).trans ?_
      exact rn_goto (t := 23) (pc := 2985) (dd bL_law dL_law_2985) rfl
  · rw [if_neg kz]
    refine (rn_goto (t := 2982) (pc := 2491) (dd bL_law dL_law_2491) rfl).trans ?_
    refine (rg_iinc (pc := 2982) (dd bL_law dL_law_2982) (x := i) rfl (Nat.le_of_ble_eq_true rfl) (by omega) (by omega) rfl).trans ?_
    exact rn_goto (t := 23) (pc := 2985) (dd bL_law dL_law_2985) rfl
theorem LC_31 {n i Ln : Int} {h : vH} {v5 v6 : vv} (J : JN n h) (hn : 0 ≤ n ∧ n ≤ 9000) (w : lwH h Ln) (hi : 0 ≤ i ∧ i + 6 ≤ Ln ∧ Ln ≤ 3072) : lwN n h i (vrun mL_law 2494 [(1, 2), (1, 3), (1, 282), (1, 338), (0, i), v5, v6] [] h) := by
  obtain ⟨o, h2, k, r, z, y, t, f, j2, ks, rz⟩ := Wr_play (x1 := h 2 2 (i + 1)) (x2 := h 2 2 (i + 2)) J w.2.2.1 w.2.2.2.1
  have s2 : o 0 282 0 = 34 := ks.2.2.2.1.trans J.2.1.1.1.1.1.1
  have s3 : shModel h2 := j2.2.1.1.1.1.1
  have kk := kS_rZ ks rz J j2
  refine ⟨h2, (0, k), (0, r), ?_, j2, kk⟩
  refine (rn_aload_n (pc := 2494) (dd bL_law dL_law_2494) rfl).trans ?_
  refine (rn_aload_n (pc := 2495) (dd bL_law dL_law_2495) rfl).trans ?_
  refine (rn_iload (pc := 2496) (dd bL_law dL_law_2496) rfl).trans ?_
  refine (rn_iconst (pc := 2498) (dd bL_law dL_law_2498) (by decide)).trans ?_
  refine (rg_iadd (pc := 2499) (dd bL_law dL_law_2499) (by omega) (by omega)).trans ?_
  refine (rl_iaload (n := Ln) (pc := 2500) (dd bL_law dL_law_2500) w.1 w.2.1 (by omega) (by omega) (v := h 2 2 (i + 1)) rfl).trans ?_
  refine (rn_aload_n (pc := 2501) (dd bL_law dL_law_2501) rfl).trans ?_
  refine (rn_iload (pc := 2502) (dd bL_law dL_law_2502) rfl).trans ?_
  refine (rn_iconst (pc := 2504) (dd bL_law dL_law_2504) (by decide)).trans ?_
  refine (rg_iadd (pc := 2505) (dd bL_law dL_law_2505) (by omega) (by omega)).trans ?_
  refine (rl_iaload (n := Ln) (pc := 2506) (dd bL_law dL_law_2506) w.1 w.2.1 (by omega) (by omega) (v := h 2 2 (i + 2)) rfl).trans ?_
  refine (rn_aload_n (pc := 2507) (dd bL_law dL_law_2507) rfl).trans ?_
  refine (rg_static (pc := 2508) (dd bL_law dL_law_2508) rfl (by decide) (Nat.le_of_ble_eq_true rfl) (as := [(1, 3), (0, h 2 2 (i + 1)), (0, h 2 2 (i + 2)), (1, 338)]) rfl rfl ⟨Nat.le_of_ble_eq_true rfl, Nat.le_of_ble_eq_true rfl, Nat.le_of_ble_eq_true rfl, Nat.le_of_ble_eq_true rfl⟩).trans ?_
  refine (vret_v z).trans ?_
  refine (rn_istore (pc := 2511) (dd bL_law dL_law_2511) (Nat.le_of_ble_eq_true rfl) rfl).trans ?_
  refine (rn_aload_n (pc := 2513) (dd bL_law dL_law_2513) rfl).trans ?_
  refine (rn_aload_n (pc := 2514) (dd bL_law dL_law_2514) rfl).trans ?_
  refine (rn_iload (pc := 2515) (dd bL_law dL_law_2515) rfl).trans ?_
  refine (rn_iconst (pc := 2517) (dd bL_law dL_law_2517) (by decide)).trans ?_
  refine (rg_iadd (pc := 2518) (dd bL_law dL_law_2518) (by omega) (by omega)).trans ?_
  refine (rl_iaload (n := Ln) (pc := 2519) (dd bL_law dL_law_2519) ((ks.1 0 0).trans w.1) ((ks.1 1 0).trans w.2.1) (by omega) (by omega) (v := h 2 2 (i + 1)) (ks.1 2 _)).trans ?_
  refine (rn_aload_n (pc := 2520) (dd bL_law dL_law_2520) rfl).trans ?_
  refine (rn_iload (pc := 2521) (dd bL_law dL_law_2521) rfl).trans ?_
  refine (rn_iconst (pc := 2523) (dd bL_law dL_law_2523) (by decide)).trans ?_
  refine (rg_iadd (pc := 2524) (dd bL_law dL_law_2524) (by omega) (by omega)).trans ?_
  refine (rl_iaload (n := Ln) (pc := 2525) (dd bL_law dL_law_2525) ((ks.1 0 0).trans w.1) ((ks.1 1 0).trans w.2.1) (by omega) (by omega) (v := h 2 2 (i + 2)) (ks.1 2 _)).trans ?_
  refine (rg_virtual (pc := 2526) (dd bL_law dL_law_2526) rfl rfl (by decide) (kc := 34) rfl s2 (as := [(1, 282), (0, h 2 2 (i + 1)), (0, h 2 2 (i + 2))]) rfl ⟨Nat.le_of_ble_eq_true rfl, Nat.le_of_ble_eq_true rfl, Nat.le_of_ble_eq_true rfl, Nat.le_of_ble_eq_true rfl⟩).trans ?_
  refine (vret_v y).trans ?_
  refine (rn_istore (pc := 2529) (dd bL_law dL_law_2529) (Nat.le_of_ble_eq_true rfl) rfl).trans ?_
  refine (rn_aload_n (pc := 2531) (dd bL_law dL_law_2531) rfl).trans ?_
  refine (rg_virtual (pc := 2532) (dd bL_law dL_law_2532) rfl rfl (by decide) (kc := 34) rfl s3.1 (as := [(1, 282)]) rfl ⟨Nat.le_of_ble_eq_true rfl, Nat.le_of_ble_eq_true rfl, Nat.le_of_ble_eq_true rfl, Nat.le_of_ble_eq_true rfl⟩).trans ?_
  refine (vret_v ((spX13_thrown s3).trans (by rw [t]))).trans ?_
  refine (rn_iload (pc := 2535) (dd bL_law dL_law_2535) rfl).trans ?_
  refine (rn_icmp_eq (t := 2542) (pc := 2537) (dd bL_law dL_law_2537) rfl).trans ((if_pos rfl).trans ?_)
  refine (rn_iload (pc := 2542) (dd bL_law dL_law_2542) rfl).trans ?_
  refine (rg_if_ne (t := 2559) (pc := 2544) (dd bL_law dL_law_2544) rfl).trans ?_
  by_cases kz : k = 0
  · rw [if_pos kz]
    have f := f kz
    refine (rn_aload_n (pc := 2547) (dd bL_law dL_law_2547) rfl).trans ?_
    refine (rn_iconst (pc := 2548) (dd bL_law dL_law_2548) (by decide)).trans ?_
    refine (rg_laload (n := 1) (pc := 2549) (dd bL_law dL_law_2549) (kk.2.1.trans w.2.2.1) (kk.2.2.1.trans w.2.2.2.1) (by decide) (by decide) ((rz 2 338 0 (by decide)).trans f)).trans ?_
    refine (rn_iload (pc := 2550) (dd bL_law dL_law_2550) rfl).trans ?_
    refine (rn_i2l (pc := 2552) (dd bL_law dL_law_2552)).trans ?_
    refine (rl_lcmp (pc := 2553) (dd bL_law dL_law_2553) rfl).trans ?_
    refine (rn_if_eq (t := 2559) (pc := 2554) (dd bL_law dL_law_2554) rfl).trans ((if_pos rfl).trans ?_)
    refine (rn_goto (t := 2982) (pc := 2559) (dd bL_law dL_law_2559) rfl).trans ?_
    refine (rg_iinc (pc := 2982) (dd bL_law dL_law_2982) (x := i) rfl (Nat.le_of_ble_eq_true rfl) (by omega) (by omega) rfl).trans ?_
    exact rn_goto (t := 23) (pc := 2985) (dd bL_law dL_law_2985) rfl
  · rw [if_neg kz]
    refine (rn_goto (t := 2982) (pc := 2559) (dd bL_law dL_law_2559) rfl).trans ?_
    refine (rg_iinc (pc := 2982) (dd bL_law dL_law_2982) (x := i) rfl (Nat.le_of_ble_eq_true rfl) (by omega) (by omega) rfl).trans ?_
    exact rn_goto (t := 23) (pc := 2985) (dd bL_law dL_law_2985) rfl
theorem LC_32 {n i Ln : Int} {h : vH} {v5 v6 : vv} (J : JN n h) (hn : 0 ≤ n ∧ n ≤ 9000) (w : lwH h Ln) (hi : 0 ≤ i ∧ i + 6 ≤ Ln ∧ Ln ≤ 3072) : lwN n h i (vrun mL_law 2562 [(1, 2), (1, 3), (1, 282), (1, 338), (0, i), v5, v6] [] h) := by
  obtain ⟨o, h2, k, r, z, y, t, f, j2, ks, rz⟩ := Wr_cursor (x1 := h 2 2 (i + 1)) (x2 := h 2 2 (i + 2)) J w.2.2.1 w.2.2.2.1
  have s2 : o 0 282 0 = 34 := ks.2.2.2.1.trans J.2.1.1.1.1.1.1
  have s3 : shModel h2 := j2.2.1.1.1.1.1
  have kk := kS_rZ ks rz J j2
  refine ⟨h2, (0, k), (0, r), ?_, j2, kk⟩
  refine (rn_aload_n (pc := 2562) (dd bL_law dL_law_2562) rfl).trans ?_
  refine (rn_aload_n (pc := 2563) (dd bL_law dL_law_2563) rfl).trans ?_
  refine (rn_iload (pc := 2564) (dd bL_law dL_law_2564) rfl).trans ?_
  refine (rn_iconst (pc := 2566) (dd bL_law dL_law_2566) (by decide)).trans ?_
  refine (rg_iadd (pc := 2567) (dd bL_law dL_law_2567) (by omega) (by omega)).trans ?_
  refine (rl_iaload (n := Ln) (pc := 2568) (dd bL_law dL_law_2568) w.1 w.2.1 (by omega) (by omega) (v := h 2 2 (i + 1)) rfl).trans ?_
  refine (rn_aload_n (pc := 2569) (dd bL_law dL_law_2569) rfl).trans ?_
  refine (rn_iload (pc := 2570) (dd bL_law dL_law_2570) rfl).trans ?_
  refine (rn_iconst (pc := 2572) (dd bL_law dL_law_2572) (by decide)).trans ?_
  refine (rg_iadd (pc := 2573) (dd bL_law dL_law_2573) (by omega) (by omega)).trans ?_
  refine (rl_iaload (n := Ln) (pc := 2574) (dd bL_law dL_law_2574) w.1 w.2.1 (by omega) (by omega) (v := h 2 2 (i + 2)) rfl).trans ?_
  refine (rn_aload_n (pc := 2575) (dd bL_law dL_law_2575) rfl).trans ?_
  refine (rg_static (pc := 2576) (dd bL_law dL_law_2576) rfl (by decide) (Nat.le_of_ble_eq_true rfl) (as := [(1, 3), (0, h 2 2 (i + 1)), (0, h 2 2 (i + 2)), (1, 338)]) rfl rfl ⟨Nat.le_of_ble_eq_true rfl, Nat.le_of_ble_eq_true rfl, Nat.le_of_ble_eq_true rfl, Nat.le_of_ble_eq_true rfl⟩).trans ?_
  refine (vret_v z).trans ?_
  refine (rn_istore (pc := 2579) (dd bL_law dL_law_2579) (Nat.le_of_ble_eq_true rfl) rfl).trans ?_
  refine (rn_aload_n (pc := 2581) (dd bL_law dL_law_2581) rfl).trans ?_
  refine (rn_aload_n (pc := 2582) (dd bL_law dL_law_2582) rfl).trans ?_
  refine (rn_iload (pc := 2583) (dd bL_law dL_law_2583) rfl).trans ?_
  refine (rn_iconst (pc := 2585) (dd bL_law dL_law_2585) (by decide)).trans ?_
  refine (rg_iadd (pc := 2586) (dd bL_law dL_law_2586) (by omega) (by omega)).trans ?_
  refine (rl_iaload (n := Ln) (pc := 2587) (dd bL_law dL_law_2587) ((ks.1 0 0).trans w.1) ((ks.1 1 0).trans w.2.1) (by omega) (by omega) (v := h 2 2 (i + 1)) (ks.1 2 _)).trans ?_
  refine (rn_aload_n (pc := 2588) (dd bL_law dL_law_2588) rfl).trans ?_
  refine (rn_iload (pc := 2589) (dd bL_law dL_law_2589) rfl).trans ?_
  refine (rn_iconst (pc := 2591) (dd bL_law dL_law_2591) (by decide)).trans ?_
  refine (rg_iadd (pc := 2592) (dd bL_law dL_law_2592) (by omega) (by omega)).trans ?_
  refine (rl_iaload (n := Ln) (pc := 2593) (dd bL_law dL_law_2593) ((ks.1 0 0).trans w.1) ((ks.1 1 0).trans w.2.1) (by omega) (by omega) (v := h 2 2 (i + 2)) (ks.1 2 _)).trans ?_
  refine (rg_virtual (pc := 2594) (dd bL_law dL_law_2594) rfl rfl (by decide) (kc := 34) rfl s2 (as := [(1, 282), (0, h 2 2 (i + 1)), (0, h 2 2 (i + 2))]) rfl ⟨Nat.le_of_ble_eq_true rfl, Nat.le_of_ble_eq_true rfl, Nat.le_of_ble_eq_true rfl, Nat.le_of_ble_eq_true rfl⟩).trans ?_
  refine (vret_v y).trans ?_
  refine (rn_istore (pc := 2597) (dd bL_law dL_law_2597) (Nat.le_of_ble_eq_true rfl) rfl).trans ?_
  refine (rn_aload_n (pc := 2599) (dd bL_law dL_law_2599) rfl).trans ?_
  refine (rg_virtual (pc := 2600) (dd bL_law dL_law_2600) rfl rfl (by decide) (kc := 34) rfl s3.1 (as := [(1, 282)]) rfl ⟨Nat.le_of_ble_eq_true rfl, Nat.le_of_ble_eq_true rfl, Nat.le_of_ble_eq_true rfl, Nat.le_of_ble_eq_true rfl⟩).trans ?_
  refine (vret_v ((spX13_thrown s3).trans (by rw [t]))).trans ?_
  refine (rn_iload (pc := 2603) (dd bL_law dL_law_2603) rfl).trans ?_
  refine (rn_icmp_eq (t := 2610) (pc := 2605) (dd bL_law dL_law_2605) rfl).trans ((if_pos rfl).trans ?_)
  refine (rn_iload (pc := 2610) (dd bL_law dL_law_2610) rfl).trans ?_
  refine (rg_if_ne (t := 2627) (pc := 2612) (dd bL_law dL_law_2612) rfl).trans ?_
  by_cases kz : k = 0
  · rw [if_pos kz]
    have f := f kz
    refine (rn_aload_n (pc := 2615) (dd bL_law dL_law_2615) rfl).trans ?_
    refine (rn_iconst (pc := 2616) (dd bL_law dL_law_2616) (by decide)).trans ?_
    refine (rg_laload (n := 1) (pc := 2617) (dd bL_law dL_law_2617) (kk.2.1.trans w.2.2.1) (kk.2.2.1.trans w.2.2.2.1) (by decide) (by decide) ((rz 2 338 0 (by decide)).trans f)).trans ?_
    refine (rn_iload (pc := 2618) (dd bL_law dL_law_2618) rfl).trans ?_
    refine (rn_i2l (pc := 2620) (dd bL_law dL_law_2620)).trans ?_
    refine (rl_lcmp (pc := 2621) (dd bL_law dL_law_2621) rfl).trans ?_
    refine (rn_if_eq (t := 2627) (pc := 2622) (dd bL_law dL_law_2622) rfl).trans ((if_pos rfl).trans ?_)
    refine (rn_goto (t := 2982) (pc := 2627) (dd bL_law dL_law_2627) rfl).trans ?_
    refine (rg_iinc (pc := 2982) (dd bL_law dL_law_2982) (x := i) rfl (Nat.le_of_ble_eq_true rfl) (by omega) (by omega) rfl).trans ?_
    exact rn_goto (t := 23) (pc := 2985) (dd bL_law dL_law_2985) rfl
  · rw [if_neg kz]
    refine (rn_goto (t := 2982) (pc := 2627) (dd bL_law dL_law_2627) rfl).trans ?_
    refine (rg_iinc (pc := 2982) (dd bL_law dL_law_2982) (x := i) rfl (Nat.le_of_ble_eq_true rfl) (by omega) (by omega) rfl).trans ?_
    exact rn_goto (t := 23) (pc := 2985) (dd bL_law dL_law_2985) rfl
theorem LC_33 {n i Ln : Int} {h : vH} {v5 v6 : vv} (J : JN n h) (hn : 0 ≤ n ∧ n ≤ 9000) (w : lwH h Ln) (hi : 0 ≤ i ∧ i + 6 ≤ Ln ∧ Ln ≤ 3072) : lwN n h i (vrun mL_law 2630 [(1, 2), (1, 3), (1, 282), (1, 338), (0, i), v5, v6] [] h) := by
  obtain ⟨o, h2, k, r, z, y, t, f, j2, ks, rz⟩ := Wr_scroll (x1 := h 2 2 (i + 1)) (x2 := h 2 2 (i + 2)) J w.2.2.1 w.2.2.2.1
  have s2 : o 0 282 0 = 34 := ks.2.2.2.1.trans J.2.1.1.1.1.1.1
  have s3 : shModel h2 := j2.2.1.1.1.1.1
  have kk := kS_rZ ks rz J j2
  refine ⟨h2, (0, k), (0, r), ?_, j2, kk⟩
  refine (rn_aload_n (pc := 2630) (dd bL_law dL_law_2630) rfl).trans ?_
  refine (rn_aload_n (pc := 2631) (dd bL_law dL_law_2631) rfl).trans ?_
  refine (rn_iload (pc := 2632) (dd bL_law dL_law_2632) rfl).trans ?_
  refine (rn_iconst (pc := 2634) (dd bL_law dL_law_2634) (by decide)).trans ?_
  refine (rg_iadd (pc := 2635) (dd bL_law dL_law_2635) (by omega) (by omega)).trans ?_
  refine (rl_iaload (n := Ln) (pc := 2636) (dd bL_law dL_law_2636) w.1 w.2.1 (by omega) (by omega) (v := h 2 2 (i + 1)) rfl).trans ?_
  refine (rn_aload_n (pc := 2637) (dd bL_law dL_law_2637) rfl).trans ?_
  refine (rn_iload (pc := 2638) (dd bL_law dL_law_2638) rfl).trans ?_
  refine (rn_iconst (pc := 2640) (dd bL_law dL_law_2640) (by decide)).trans ?_
  refine (rg_iadd (pc := 2641) (dd bL_law dL_law_2641) (by omega) (by omega)).trans ?_
  refine (rl_iaload (n := Ln) (pc := 2642) (dd bL_law dL_law_2642) w.1 w.2.1 (by omega) (by omega) (v := h 2 2 (i + 2)) rfl).trans ?_
  refine (rn_aload_n (pc := 2643) (dd bL_law dL_law_2643) rfl).trans ?_
  refine (rg_static (pc := 2644) (dd bL_law dL_law_2644) rfl (by decide) (Nat.le_of_ble_eq_true rfl) (as := [(1, 3), (0, h 2 2 (i + 1)), (0, h 2 2 (i + 2)), (1, 338)]) rfl rfl ⟨Nat.le_of_ble_eq_true rfl, Nat.le_of_ble_eq_true rfl, Nat.le_of_ble_eq_true rfl, Nat.le_of_ble_eq_true rfl⟩).trans ?_
  refine (vret_v z).trans ?_
  refine (rn_istore (pc := 2647) (dd bL_law dL_law_2647) (Nat.le_of_ble_eq_true rfl) rfl).trans ?_
  refine (rn_aload_n (pc := 2649) (dd bL_law dL_law_2649) rfl).trans ?_
  refine (rn_aload_n (pc := 2650) (dd bL_law dL_law_2650) rfl).trans ?_
  refine (rn_iload (pc := 2651) (dd bL_law dL_law_2651) rfl).trans ?_
  refine (rn_iconst (pc := 2653) (dd bL_law dL_law_2653) (by decide)).trans ?_
  refine (rg_iadd (pc := 2654) (dd bL_law dL_law_2654) (by omega) (by omega)).trans ?_
  refine (rl_iaload (n := Ln) (pc := 2655) (dd bL_law dL_law_2655) ((ks.1 0 0).trans w.1) ((ks.1 1 0).trans w.2.1) (by omega) (by omega) (v := h 2 2 (i + 1)) (ks.1 2 _)).trans ?_
  refine (rn_aload_n (pc := 2656) (dd bL_law dL_law_2656) rfl).trans ?_
  refine (rn_iload (pc := 2657) (dd bL_law dL_law_2657) rfl).trans ?_
  refine (rn_iconst (pc := 2659) (dd bL_law dL_law_2659) (by decide)).trans ?_
  refine (rg_iadd (pc := 2660) (dd bL_law dL_law_2660) (by omega) (by omega)).trans ?_
  refine (rl_iaload (n := Ln) (pc := 2661) (dd bL_law dL_law_2661) ((ks.1 0 0).trans w.1) ((ks.1 1 0).trans w.2.1) (by omega) (by omega) (v := h 2 2 (i + 2)) (ks.1 2 _)).trans ?_
  refine (rg_virtual (pc := 2662) (dd bL_law dL_law_2662) rfl rfl (by decide) (kc := 34) rfl s2 (as := [(1, 282), (0, h 2 2 (i + 1)), (0, h 2 2 (i + 2))]) rfl ⟨Nat.le_of_ble_eq_true rfl, Nat.le_of_ble_eq_true rfl, Nat.le_of_ble_eq_true rfl, Nat.le_of_ble_eq_true rfl⟩).trans ?_
  refine (vret_v y).trans ?_
  refine (rn_istore (pc := 2665) (dd bL_law dL_law_2665) (Nat.le_of_ble_eq_true rfl) rfl).trans ?_
  refine (rn_aload_n (pc := 2667) (dd bL_law dL_law_2667) rfl).trans ?_
  refine (rg_virtual (pc := 2668) (dd bL_law dL_law_2668) rfl rfl (by decide) (kc := 34) rfl s3.1 (as := [(1, 282)]) rfl ⟨Nat.le_of_ble_eq_true rfl, Nat.le_of_ble_eq_true rfl, Nat.le_of_ble_eq_true rfl, Nat.le_of_ble_eq_true rfl⟩).trans ?_
  refine (vret_v ((spX13_thrown s3).trans (by rw [t]))).trans ?_
  refine (rn_iload (pc := 2671) (dd bL_law dL_law_2671) rfl).trans ?_
  refine (rn_icmp_eq (t := 2678) (pc := 2673) (dd bL_law dL_law_2673) rfl).trans ((if_pos rfl).trans ?_)
  refine (rn_iload (pc := 2678) (dd bL_law dL_law_2678) rfl).trans ?_
  refine (rg_if_ne (t := 2695) (pc := 2680) (dd bL_law dL_law_2680) rfl).trans ?_
  by_cases kz : k = 0
  · rw [if_pos kz]
    have f := f kz
    refine (rn_aload_n (pc := 2683) (dd bL_law dL_law_2683) rfl).trans ?_
    refine (rn_iconst (pc := 2684) (dd bL_law dL_law_2684) (by decide)).trans ?_
    refine (rg_laload (n := 1) (pc := 2685) (dd bL_law dL_law_2685) (kk.2.1.trans w.2.2.1) (kk.2.2.1.trans w.2.2.2.1) (by decide) (by decide) ((rz 2 338 0 (by decide)).trans f)).trans ?_
    refine (rn_iload (pc := 2686) (dd bL_law dL_law_2686) rfl).trans ?_
    refine (rn_i2l (pc := 2688) (dd bL_law dL_law_2688)).trans ?_
    refine (rl_lcmp (pc := 2689) (dd bL_law dL_law_2689) rfl).trans ?_
    refine (rn_if_eq (t := 2695) (pc := 2690) (dd bL_law dL_law_2690) rfl).trans ((if_pos rfl).trans ?_)
    refine (rn_goto (t := 2982) (pc := 2695) (dd bL_law dL_law_2695) rfl).trans ?_
    refine (rg_iinc (pc := 2982) (dd bL_law dL_law_2982) (x := i) rfl (Nat.le_of_ble_eq_true rfl) (by omega) (by omega) rfl).trans ?_
    exact rn_goto (t := 23) (pc := 2985) (dd bL_law dL_law_2985) rfl
  · rw [if_neg kz]
    refine (rn_goto (t := 2982) (pc := 2695) (dd bL_law dL_law_2695) rfl).trans ?_
    refine (rg_iinc (pc := 2982) (dd bL_law dL_law_2982) (x := i) rfl (Nat.le_of_ble_eq_true rfl) (by omega) (by omega) rfl).trans ?_
    exact rn_goto (t := 23) (pc := 2985) (dd bL_law dL_law_2985) rfl
theorem LC_34 {n i Ln : Int} {h : vH} {v5 v6 : vv} (J : JN n h) (hn : 0 ≤ n ∧ n ≤ 9000) (w : lwH h Ln) (hi : 0 ≤ i ∧ i + 6 ≤ Ln ∧ Ln ≤ 3072) : lwN n h i (vrun mL_law 2698 [(1, 2), (1, 3), (1, 282), (1, 338), (0, i), v5, v6] [] h) := by
  obtain ⟨o, h2, k, r, z, y, t, f, j2, ks, rz⟩ := Wr_type (x1 := h 2 2 (i + 1)) (x2 := h 2 2 (i + 2)) J hn w.2.2.1 w.2.2.2.1
  have s2 : o 0 282 0 = 34 := ks.2.2.2.1.trans J.2.1.1.1.1.1.1
  have s3 : shModel h2 := j2.2.1.1.1.1.1
  have kk := kS_rZ ks rz J j2
  refine ⟨h2, (0, k), (0, r), ?_, j2, kk⟩
  refine (rn_aload_n (pc := 2698) (dd bL_law dL_law_2698) rfl).trans ?_
  refine (rn_aload_n (pc := 2699) (dd bL_law dL_law_2699) rfl).trans ?_
  refine (rn_iload (pc := 2700) (dd bL_law dL_law_2700) rfl).trans ?_
  refine (rn_iconst (pc := 2702) (dd bL_law dL_law_2702) (by decide)).trans ?_
  refine (rg_iadd (pc := 2703) (dd bL_law dL_law_2703) (by omega) (by omega)).trans ?_
  refine (rl_iaload (n := Ln) (pc := 2704) (dd bL_law dL_law_2704) w.1 w.2.1 (by omega) (by omega) (v := h 2 2 (i + 1)) rfl).trans ?_
  refine (rn_aload_n (pc := 2705) (dd bL_law dL_law_2705) rfl).trans ?_
  refine (rn_iload (pc := 2706) (dd bL_law dL_law_2706) rfl).trans ?_
  refine (rn_iconst (pc := 2708) (dd bL_law dL_law_2708) (by decide)).trans ?_
  refine (rg_iadd (pc := 2709) (dd bL_law dL_law_2709) (by omega) (by omega)).trans ?_
  refine (rl_iaload (n := Ln) (pc := 2710) (dd bL_law dL_law_2710) w.1 w.2.1 (by omega) (by omega) (v := h 2 2 (i + 2)) rfl).trans ?_
  refine (rn_aload_n (pc := 2711) (dd bL_law dL_law_2711) rfl).trans ?_
  refine (rg_static (pc := 2712) (dd bL_law dL_law_2712) rfl (by decide) (Nat.le_of_ble_eq_true rfl) (as := [(1, 3), (0, h 2 2 (i + 1)), (0, h 2 2 (i + 2)), (1, 338)]) rfl rfl ⟨Nat.le_of_ble_eq_true rfl, Nat.le_of_ble_eq_true rfl, Nat.le_of_ble_eq_true rfl, Nat.le_of_ble_eq_true rfl⟩).trans ?_
  refine (vret_v z).trans ?_
  refine (rn_istore (pc := 2715) (dd bL_law dL_law_2715) (Nat.le_of_ble_eq_true rfl) rfl).trans ?_
  refine (rn_aload_n (pc := 2717) (dd bL_law dL_law_2717) rfl).trans ?_
  refine (rn_aload_n (pc := 2718) (dd bL_law dL_law_2718) rfl).trans ?_
  refine (rn_iload (pc := 2719) (dd bL_law dL_law_2719) rfl).trans ?_
  refine (rn_iconst (pc := 2721) (dd bL_law dL_law_2721) (by decide)).trans ?_
  refine (rg_iadd (pc := 2722) (dd bL_law dL_law_2722) (by omega) (by omega)).trans ?_
  refine (rl_iaload (n := Ln) (pc := 2723) (dd bL_law dL_law_2723) ((ks.1 0 0).trans w.1) ((ks.1 1 0).trans w.2.1) (by omega) (by omega) (v := h 2 2 (i + 1)) (ks.1 2 _)).trans ?_
  refine (rn_aload_n (pc := 2724) (dd bL_law dL_law_2724) rfl).trans ?_
  refine (rn_iload (pc := 2725) (dd bL_law dL_law_2725) rfl).trans ?_
  refine (rn_iconst (pc := 2727) (dd bL_law dL_law_2727) (by decide)).trans ?_
  refine (rg_iadd (pc := 2728) (dd bL_law dL_law_2728) (by omega) (by omega)).trans ?_
  refine (rl_iaload (n := Ln) (pc := 2729) (dd bL_law dL_law_2729) ((ks.1 0 0).trans w.1) ((ks.1 1 0).trans w.2.1) (by omega) (by omega) (v := h 2 2 (i + 2)) (ks.1 2 _)).trans ?_
  refine (rg_virtual (pc := 2730) (dd bL_law dL_law_2730) rfl rfl (by decide) (kc := 34) rfl s2 (as := [(1, 282), (0, h 2 2 (i + 1)), (0, h 2 2 (i + 2))]) rfl ⟨Nat.le_of_ble_eq_true rfl, Nat.le_of_ble_eq_true rfl, Nat.le_of_ble_eq_true rfl, Nat.le_of_ble_eq_true rfl⟩).trans ?_
  refine (vret_v y).trans ?_
  refine (rn_istore (pc := 2733) (dd bL_law dL_law_2733) (Nat.le_of_ble_eq_true rfl) rfl).trans ?_
  refine (rn_aload_n (pc := 2735) (dd bL_law dL_law_2735) rfl).trans ?_
  refine (rg_virtual (pc := 2736) (dd bL_law dL_law_2736) rfl rfl (by decide) (kc := 34) rfl s3.1 (as := [(1, 282)]) rfl ⟨Nat.le_of_ble_eq_true rfl, Nat.le_of_ble_eq_true rfl, Nat.le_of_ble_eq_true rfl, Nat.le_of_ble_eq_true rfl⟩).trans ?_
  refine (vret_v ((spX13_thrown s3).trans (by rw [t]))).trans ?_
  refine (rn_iload (pc := 2739) (dd bL_law dL_law_2739) rfl).trans ?_
  refine (rn_icmp_eq (t := 2746) (pc := 2741) (dd bL_law dL_law_2741) rfl).trans ((if_pos rfl).trans ?_)
  refine (rn_iload (pc := 2746) (dd bL_law dL_law_2746) rfl).trans ?_
  refine (rg_if_ne (t := 2763) (pc := 2748) (dd bL_law dL_law_2748) rfl).trans ?_
  by_cases kz : k = 0
  · rw [if_pos kz]
    have f := f kz
    refine (rn_aload_n (pc := 2751) (dd bL_law dL_law_2751) rfl).trans ?_
    refine (rn_iconst (pc := 2752) (dd bL_law dL_law_2752) (by decide)).trans ?_
    refine (rg_laload (n := 1) (pc := 2753) (dd bL_law dL_law_2753) (kk.2.1.trans w.2.2.1) (kk.2.2.1.trans w.2.2.2.1) (by decide) (by decide) ((rz 2 338 0 (by decide)).trans f)).trans ?_
    refine (rn_iload (pc := 2754) (dd bL_law dL_law_2754) rfl).trans ?_
    refine (rn_i2l (pc := 2756) (dd bL_law dL_law_2756)).trans ?_
    refine (rl_lcmp (pc := 2757) (dd bL_law dL_law_2757) rfl).trans ?_
    refine (rn_if_eq (t := 2763) (pc := 2758) (dd bL_law dL_law_2758) rfl).trans ((if_pos rfl).trans ?_)
    refine (rn_goto (t := 2982) (pc := 2763) (dd bL_law dL_law_2763) rfl).trans ?_
    refine (rg_iinc (pc := 2982) (dd bL_law dL_law_2982) (x := i) rfl (Nat.le_of_ble_eq_true rfl) (by omega) (by omega) rfl).trans ?_
    exact rn_goto (t := 23) (pc := 2985) (dd bL_law dL_law_2985) rfl
  · rw [if_neg kz]
    refine (rn_goto (t := 2982) (pc := 2763) (dd bL_law dL_law_2763) rfl).trans ?_
    refine (rg_iinc (pc := 2982) (dd bL_law dL_law_2982) (x := i) rfl (Nat.le_of_ble_eq_true rfl) (by omega) (by omega) rfl).trans ?_
    exact rn_goto (t := 23) (pc := 2985) (dd bL_law dL_law_2985) rfl
theorem LC_35 {n i Ln : Int} {h : vH} {v5 v6 : vv} (J : JN n h) (hn : 0 ≤ n ∧ n ≤ 9000) (w : lwH h Ln) (hi : 0 ≤ i ∧ i + 6 ≤ Ln ∧ Ln ≤ 3072) : lwN n h i (vrun mL_law 2766 [(1, 2), (1, 3), (1, 282), (1, 338), (0, i), v5, v6] [] h) := by
  obtain ⟨o, h2, k, r, z, y, t, f, j2, ks, rz⟩ := Wr_typeBox (x1 := h 2 2 (i + 1)) (x2 := h 2 2 (i + 2)) (x3 := h 2 2 (i + 3)) (x4 := h 2 2 (i + 4)) (x5 := h 2 2 (i + 5)) J hn w.2.2.1 w.2.2.2.1
  have s2 : o 0 282 0 = 34 := ks.2.2.2.1.trans J.2.1.1.1.1.1.1
  have s3 : shModel h2 := j2.2.1.1.1.1.1
  have kk := kS_rZ ks rz J j2
  refine ⟨h2, (0, k), (0, r), ?_, j2, kk⟩
  refine (rn_aload_n (pc := 2766) (dd bL_law dL_law_2766) rfl).trans ?_
  refine (rn_aload_n (pc := 2767) (dd bL_law dL_law_2767) rfl).trans ?_
  refine (rn_iload (pc := 2768) (dd bL_law dL_law_2768) rfl).trans ?_
  refine (rn_iconst (pc := 2770) (dd bL_law dL_law_2770) (by decide)).trans ?_
  refine (rg_iadd (pc := 2771) (dd bL_law dL_law_2771) (by omega) (by omega)).trans ?_
  refine (rl_iaload (n := Ln) (pc := 2772) (dd bL_law dL_law_2772) w.1 w.2.1 (by omega) (by omega) (v := h 2 2 (i + 1)) rfl).trans ?_
  refine (rn_aload_n (pc := 2773) (dd bL_law dL_law_2773) rfl).trans ?_
  refine (rn_iload (pc := 2774) (dd bL_law dL_law_2774) rfl).trans ?_
  refine (rn_iconst (pc := 2776) (dd bL_law dL_law_2776) (by decide)).trans ?_
  refine (rg_iadd (pc := 2777) (dd bL_law dL_law_2777) (by omega) (by omega)).trans ?_
  refine (rl_iaload (n := Ln) (pc := 2778) (dd bL_law dL_law_2778) w.1 w.2.1 (by omega) (by omega) (v := h 2 2 (i + 2)) rfl).trans ?_
  refine (rn_aload_n (pc := 2779) (dd bL_law dL_law_2779) rfl).trans ?_
  refine (rn_iload (pc := 2780) (dd bL_law dL_law_2780) rfl).trans ?_
  refine (rn_iconst (pc := 2782) (dd bL_law dL_law_2782) (by decide)).trans ?_
  refine (rg_iadd (pc := 2783) (dd bL_law dL_law_2783) (by omega) (by omega)).trans ?_
  refine (rl_iaload (n := Ln) (pc := 2784) (dd bL_law dL_law_2784) w.1 w.2.1 (by omega) (by omega) (v := h 2 2 (i + 3)) rfl).trans ?_
  refine (rn_aload_n (pc := 2785) (dd bL_law dL_law_2785) rfl).trans ?_
  refine (rn_iload (pc := 2786) (dd bL_law dL_law_2786) rfl).trans ?_
  refine (rn_iconst (pc := 2788) (dd bL_law dL_law_2788) (by decide)).trans ?_
  refine (rg_iadd (pc := 2789) (dd bL_law dL_law_2789) (by omega) (by omega)).trans ?_
  refine (rl_iaload (n := Ln) (pc := 2790) (dd bL_law dL_law_2790) w.1 w.2.1 (by omega) (by omega) (v := h 2 2 (i + 4)) rfl).trans ?_
  refine (rn_aload_n (pc := 2791) (dd bL_law dL_law_2791) rfl).trans ?_
  refine (rn_iload (pc := 2792) (dd bL_law dL_law_2792) rfl).trans ?_
  refine (rn_iconst (pc := 2794) (dd bL_law dL_law_2794) (by decide)).trans ?_
  refine (rg_iadd (pc := 2795) (dd bL_law dL_law_2795) (by omega) (by omega)).trans ?_
  refine (rl_iaload (n := Ln) (pc := 2796) (dd bL_law dL_law_2796) w.1 w.2.1 (by omega) (by omega) (v := h 2 2 (i + 5)) rfl).trans ?_
  refine (rn_aload_n (pc := 2797) (dd bL_law dL_law_2797) rfl).trans ?_
  refine (rg_static (pc := 2798) (dd bL_law dL_law_2798) rfl (by decide) (Nat.le_of_ble_eq_true rfl) (as := [(1, 3), (0, h 2 2 (i + 1)), (0, h 2 2 (i + 2)), (0, h 2 2 (i + 3)), (0, h 2 2 (i + 4)), (0, h 2 2 (i + 5)), (1, 338)]) rfl rfl ⟨Nat.le_of_ble_eq_true rfl, Nat.le_of_ble_eq_true rfl, Nat.le_of_ble_eq_true rfl, Nat.le_of_ble_eq_true rfl⟩).trans ?_
  refine (vret_v z).trans ?_
  refine (rn_istore (pc := 2801) (dd bL_law dL_law_2801) (Nat.le_of_ble_eq_true rfl) rfl).trans ?_
  refine (rn_aload_n (pc := 2803) (dd bL_law dL_law_2803) rfl).trans ?_
  refine (rn_aload_n (pc := 2804) (dd bL_law dL_law_2804) rfl).trans ?_
  refine (rn_iload (pc := 2805) (dd bL_law dL_law_2805) rfl).trans ?_
  refine (rn_iconst (pc := 2807) (dd bL_law dL_law_2807) (by decide)).trans ?_
  refine (rg_iadd (pc := 2808) (dd bL_law dL_law_2808) (by omega) (by omega)).trans ?_
  refine (rl_iaload (n := Ln) (pc := 2809) (dd bL_law dL_law_2809) ((ks.1 0 0).trans w.1) ((ks.1 1 0).trans w.2.1) (by omega) (by omega) (v := h 2 2 (i + 1)) (ks.1 2 _)).trans ?_
  refine (rn_aload_n (pc := 2810) (dd bL_law dL_law_2810) rfl).trans ?_
  refine (rn_iload (pc := 2811) (dd bL_law dL_law_2811) rfl).trans ?_
  refine (rn_iconst (pc := 2813) (dd bL_law dL_law_2813) (by decide)).trans ?_
  refine (rg_iadd (pc := 2814) (dd bL_law dL_law_2814) (by omega) (by omega)).trans ?_
  refine (rl_iaload (n := Ln) (pc := 2815) (dd bL_law dL_law_2815) ((ks.1 0 0).trans w.1) ((ks.1 1 0).trans w.2.1) (by omega) (by omega) (v := h 2 2 (i + 2)) (ks.1 2 _)).trans ?_
  refine (rn_aload_n (pc := 2816) (dd bL_law dL_law_2816) rfl).trans ?_
  refine (rn_iload (pc := 2817) (dd bL_law dL_law_2817) rfl).trans ?_
  refine (rn_iconst (pc := 2819) (dd bL_law dL_law_2819) (by decide)).trans ?_
  refine (rg_iadd (pc := 2820) (dd bL_law dL_law_2820) (by omega) (by omega)).trans ?_
  refine (rl_iaload (n := Ln) (pc := 2821) (dd bL_law dL_law_2821) ((ks.1 0 0).trans w.1) ((ks.1 1 0).trans w.2.1) (by omega) (by omega) (v := h 2 2 (i + 3)) (ks.1 2 _)).trans ?_
  refine (rn_aload_n (pc := 2822) (dd bL_law dL_law_2822) rfl).trans ?_
  refine (rn_iload (pc := 2823) (dd bL_law dL_law_2823) rfl).trans ?_
  refine (rn_iconst (pc := 2825) (dd bL_law dL_law_2825) (by decide)).trans ?_
  refine (rg_iadd (pc := 2826) (dd bL_law dL_law_2826) (by omega) (by omega)).trans ?_
  refine (rl_iaload (n := Ln) (pc := 2827) (dd bL_law dL_law_2827) ((ks.1 0 0).trans w.1) ((ks.1 1 0).trans w.2.1) (by omega) (by omega) (v := h 2 2 (i + 4)) (ks.1 2 _)).trans ?_
  refine (rn_aload_n (pc := 2828) (dd bL_law dL_law_2828) rfl).trans ?_
  refine (rn_iload (pc := 2829) (dd bL_law dL_law_2829) rfl).trans ?_
  refine (rn_iconst (pc := 2831) (dd bL_law dL_law_2831) (by decide)).trans ?_
  refine (rg_iadd (pc := 2832) (dd bL_law dL_law_2832) (by omega) (by omega)).trans ?_
  refine (rl_iaload (n := Ln) (pc := 2833) (dd bL_law dL_law_2833) ((ks.1 0 0).trans w.1) ((ks.1 1 0).trans w.2.1) (by omega) (by omega) (v := h 2 2 (i + 5)) (ks.1 2 _)).trans ?_
  refine (rg_virtual (pc := 2834) (dd bL_law dL_law_2834) rfl rfl (by decide) (kc := 34) rfl s2 (as := [(1, 282), (0, h 2 2 (i + 1)), (0, h 2 2 (i + 2)), (0, h 2 2 (i + 3)), (0, h 2 2 (i + 4)), (0, h 2 2 (i + 5))]) rfl ⟨Nat.le_of_ble_eq_true rfl, Nat.le_of_ble_eq_true rfl, Nat.le_of_ble_eq_true rfl, Nat.le_of_ble_eq_true rfl⟩).trans ?_
  refine (vret_v y).trans ?_
  refine (rn_istore (pc := 2837) (dd bL_law dL_law_2837) (Nat.le_of_ble_eq_true rfl) rfl).trans ?_
  refine (rn_aload_n (pc := 2839) (dd bL_law dL_law_2839) rfl).trans ?_
  refine (rg_virtual (pc := 2840) (dd bL_law dL_law_2840) rfl rfl (by decide) (kc := 34) rfl s3.1 (as := [(1, 282)]) rfl ⟨Nat.le_of_ble_eq_true rfl, Nat.le_of_ble_eq_true rfl, Nat.le_of_ble_eq_true rfl, Nat.le_of_ble_eq_true rfl⟩).trans ?_
  refine (vret_v ((spX13_thrown s3).trans (by rw [t]))).trans ?_
  refine (rn_iload (pc := 2843) (dd bL_law dL_law_2843) rfl).trans ?_
  refine (rn_icmp_eq (t := 2850) (pc := 2845) (dd bL_law dL_law_2845) rfl).trans ((if_pos rfl).trans ?_)
  refine (rn_iload (pc := 2850) (dd bL_law dL_law_2850) rfl).trans ?_
  refine (rg_if_ne (t := 2867) (pc := 2852) (dd bL_law dL_law_2852) rfl).trans ?_
  by_cases kz : k = 0
  · rw [if_pos kz]
    have f := f kz
    refine (rn_aload_n (pc := 2855) (dd bL_law dL_law_2855) rfl).trans ?_
    refine (rn_iconst (pc := 2856) (dd bL_law dL_law_2856) (by decide)).trans ?_
    refine (rg_laload (n := 1) (pc := 2857) (dd bL_law dL_law_2857) (kk.2.1.trans w.2.2.1) (kk.2.2.1.trans w.2.2.2.1) (by decide) (by decide) ((rz 2 338 0 (by decide)).trans f)).trans ?_
    refine (rn_iload (pc := 2858) (dd bL_law dL_law_2858) rfl).trans ?_
    refine (rn_i2l (pc := 2860) (dd bL_law dL_law_2860)).trans ?_
    refine (rl_lcmp (pc := 2861) (dd bL_law dL_law_2861) rfl).trans ?_
    refine (rn_if_eq (t := 2867) (pc := 2862) (dd bL_law dL_law_2862) rfl).trans ((if_pos rfl).trans ?_)
    refine (rn_goto (t := 2982) (pc := 2867) (dd bL_law dL_law_2867) rfl).trans ?_
    refine (rg_iinc (pc := 2982) (dd bL_law dL_law_2982) (x := i) rfl (Nat.le_of_ble_eq_true rfl) (by omega) (by omega) rfl).trans ?_
    exact rn_goto (t := 23) (pc := 2985) (dd bL_law dL_law_2985) rfl
  · rw [if_neg kz]
    refine (rn_goto (t := 2982) (pc := 2867) (dd bL_law dL_law_2867) rfl).trans ?_
    refine (rg_iinc (pc := 2982) (dd bL_law dL_law_2982) (x := i) rfl (Nat.le_of_ble_eq_true rfl) (by omega) (by omega) rfl).trans ?_
    exact rn_goto (t := 23) (pc := 2985) (dd bL_law dL_law_2985) rfl
theorem LC_36 {n i Ln : Int} {h : vH} {v5 v6 : vv} (J : JN n h) (hn : 0 ≤ n ∧ n ≤ 9000) (w : lwH h Ln) (hi : 0 ≤ i ∧ i + 6 ≤ Ln ∧ Ln ≤ 3072) : lwN n h i (vrun mL_law 2870 [(1, 2), (1, 3), (1, 282), (1, 338), (0, i), v5, v6] [] h) := by
  obtain ⟨o, h2, k, r, z, y, t, f, j2, ks, rz⟩ := Wr_draw (x1 := h 2 2 (i + 1)) J w.2.2.1 w.2.2.2.1
  have s2 : o 0 282 0 = 34 := ks.2.2.2.1.trans J.2.1.1.1.1.1.1
  have s3 : shModel h2 := j2.2.1.1.1.1.1
  have kk := kS_rZ ks rz J j2
  refine ⟨h2, (0, k), (0, r), ?_, j2, kk⟩
  refine (rn_aload_n (pc := 2870) (dd bL_law dL_law_2870) rfl).trans ?_
  refine (rn_aload_n (pc := 2871) (dd bL_law dL_law_2871) rfl).trans ?_
  refine (rn_iload (pc := 2872) (dd bL_law dL_law_2872) rfl).trans ?_
  refine (rn_iconst (pc := 2874) (dd bL_law dL_law_2874) (by decide)).trans ?_
  refine (rg_iadd (pc := 2875) (dd bL_law dL_law_2875) (by omega) (by omega)).trans ?_
  refine (rl_iaload (n := Ln) (pc := 2876) (dd bL_law dL_law_2876) w.1 w.2.1 (by omega) (by omega) (v := h 2 2 (i + 1)) rfl).trans ?_
  refine (rn_aload_n (pc := 2877) (dd bL_law dL_law_2877) rfl).trans ?_
  refine (rg_static (pc := 2878) (dd bL_law dL_law_2878) rfl (by decide) (Nat.le_of_ble_eq_true rfl) (as := [(1, 3), (0, h 2 2 (i + 1)), (1, 338)]) rfl rfl ⟨Nat.le_of_ble_eq_true rfl, Nat.le_of_ble_eq_true rfl, Nat.le_of_ble_eq_true rfl, Nat.le_of_ble_eq_true rfl⟩).trans ?_
  refine (vret_v z).trans ?_
  refine (rn_istore (pc := 2881) (dd bL_law dL_law_2881) (Nat.le_of_ble_eq_true rfl) rfl).trans ?_
  refine (rn_aload_n (pc := 2883) (dd bL_law dL_law_2883) rfl).trans ?_
  refine (rn_aload_n (pc := 2884) (dd bL_law dL_law_2884) rfl).trans ?_
  refine (rn_iload (pc := 2885) (dd bL_law dL_law_2885) rfl).trans ?_
  refine (rn_iconst (pc := 2887) (dd bL_law dL_law_2887) (by decide)).trans ?_
  refine (rg_iadd (pc := 2888) (dd bL_law dL_law_2888) (by omega) (by omega)).trans ?_
  refine (rl_iaload (n := Ln) (pc := 2889) (dd bL_law dL_law_2889) ((ks.1 0 0).trans w.1) ((ks.1 1 0).trans w.2.1) (by omega) (by omega) (v := h 2 2 (i + 1)) (ks.1 2 _)).trans ?_
  refine (rg_virtual (pc := 2890) (dd bL_law dL_law_2890) rfl rfl (by decide) (kc := 34) rfl s2 (as := [(1, 282), (0, h 2 2 (i + 1))]) rfl ⟨Nat.le_of_ble_eq_true rfl, Nat.le_of_ble_eq_true rfl, Nat.le_of_ble_eq_true rfl, Nat.le_of_ble_eq_true rfl⟩).trans ?_
  refine (vret_v y).trans ?_
  refine (rn_istore (pc := 2893) (dd bL_law dL_law_2893) (Nat.le_of_ble_eq_true rfl) rfl).trans ?_
  refine (rn_aload_n (pc := 2895) (dd bL_law dL_law_2895) rfl).trans ?_
  refine (rg_virtual (pc := 2896) (dd bL_law dL_law_2896) rfl rfl (by decide) (kc := 34) rfl s3.1 (as := [(1, 282)]) rfl ⟨Nat.le_of_ble_eq_true rfl, Nat.le_of_ble_eq_true rfl, Nat.le_of_ble_eq_true rfl, Nat.le_of_ble_eq_true rfl⟩).trans ?_
  refine (vret_v ((spX13_thrown s3).trans (by rw [t]))).trans ?_
  refine (rn_iload (pc := 2899) (dd bL_law dL_law_2899) rfl).trans ?_
  refine (rn_icmp_eq (t := 2906) (pc := 2901) (dd bL_law dL_law_2901) rfl).trans ((if_pos rfl).trans ?_)
  refine (rn_iload (pc := 2906) (dd bL_law dL_law_2906) rfl).trans ?_
  refine (rg_if_ne (t := 2923) (pc := 2908) (dd bL_law dL_law_2908) rfl).trans ?_
  by_cases kz : k = 0
  · rw [if_pos kz]
    have f := f kz
    refine (rn_aload_n (pc := 2911) (dd bL_law dL_law_2911) rfl).trans ?_
    refine (rn_iconst (pc := 2912) (dd bL_law dL_law_2912) (by decide)).trans ?_
    refine (rg_laload (n := 1) (pc := 2913) (dd bL_law dL_law_2913) (kk.2.1.trans w.2.2.1) (kk.2.2.1.trans w.2.2.2.1) (by decide) (by decide) ((rz 2 338 0 (by decide)).trans f)).trans ?_
    refine (rn_iload (pc := 2914) (dd bL_law dL_law_2914) rfl).trans ?_
    refine (rn_i2l (pc := 2916) (dd bL_law dL_law_2916)).trans ?_
    refine (rl_lcmp (pc := 2917) (dd bL_law dL_law_2917) rfl).trans ?_
    refine (rn_if_eq (t := 2923) (pc := 2918) (dd bL_law dL_law_2918) rfl).trans ((if_pos rfl).trans ?_)
    refine (rn_goto (t := 2982) (pc := 2923) (dd bL_law dL_law_2923) rfl).trans ?_
    refine (rg_iinc (pc := 2982) (dd bL_law dL_law_2982) (x := i) rfl (Nat.le_of_ble_eq_true rfl) (by omega) (by omega) rfl).trans ?_
    exact rn_goto (t := 23) (pc := 2985) (dd bL_law dL_law_2985) rfl
  · rw [if_neg kz]
    refine (rn_goto (t := 2982) (pc := 2923) (dd bL_law dL_law_2923) rfl).trans ?_
    refine (rg_iinc (pc := 2982) (dd bL_law dL_law_2982) (x := i) rfl (Nat.le_of_ble_eq_true rfl) (by omega) (by omega) rfl).trans ?_
    exact rn_goto (t := 23) (pc := 2985) (dd bL_law dL_law_2985) rfl
theorem LC_37 {n i Ln : Int} {h : vH} {v5 v6 : vv} (J : JN n h) (hn : 0 ≤ n ∧ n ≤ 9000) (w : lwH h Ln) (hi : 0 ≤ i ∧ i + 6 ≤ Ln ∧ Ln ≤ 3072) : lwN n h i (vrun mL_law 2926 [(1, 2), (1, 3), (1, 282), (1, 338), (0, i), v5, v6] [] h) := by
  obtain ⟨o, h2, k, r, z, y, t, f, j2, ks, rz⟩ := Wr_shift (x1 := h 2 2 (i + 1)) J w.2.2.1 w.2.2.2.1
  have s2 : o 0 282 0 = 34 := ks.2.2.2.1.trans J.2.1.1.1.1.1.1
  have s3 : shModel h2 := j2.2.1.1.1.1.1
  have kk := kS_rZ ks rz J j2
  refine ⟨h2, (0, k), (0, r), ?_, j2, kk⟩
  refine (rn_aload_n (pc := 2926) (dd bL_law dL_law_2926) rfl).trans ?_
  refine (rn_aload_n (pc := 2927) (dd bL_law dL_law_2927) rfl).trans ?_
  refine (rn_iload (pc := 2928) (dd bL_law dL_law_2928) rfl).trans ?_
  refine (rn_iconst (pc := 2930) (dd bL_law dL_law_2930) (by decide)).trans ?_
  refine (rg_iadd (pc := 2931) (dd bL_law dL_law_2931) (by omega) (by omega)).trans ?_
  refine (rl_iaload (n := Ln) (pc := 2932) (dd bL_law dL_law_2932) w.1 w.2.1 (by omega) (by omega) (v := h 2 2 (i + 1)) rfl).trans ?_
  refine (rn_aload_n (pc := 2933) (dd bL_law dL_law_2933) rfl).trans ?_
  refine (rg_static (pc := 2934) (dd bL_law dL_law_2934) rfl (by decide) (Nat.le_of_ble_eq_true rfl) (as := [(1, 3), (0, h 2 2 (i + 1)), (1, 338)]) rfl rfl ⟨Nat.le_of_ble_eq_true rfl, Nat.le_of_ble_eq_true rfl, Nat.le_of_ble_eq_true rfl, Nat.le_of_ble_eq_true rfl⟩).trans ?_
  refine (vret_v z).trans ?_
  refine (rn_istore (pc := 2937) (dd bL_law dL_law_2937) (Nat.le_of_ble_eq_true rfl) rfl).trans ?_
  refine (rn_aload_n (pc := 2939) (dd bL_law dL_law_2939) rfl).trans ?_
  refine (rn_aload_n (pc := 2940) (dd bL_law dL_law_2940) rfl).trans ?_
  refine (rn_iload (pc := 2941) (dd bL_law dL_law_2941) rfl).trans ?_
  refine (rn_iconst (pc := 2943) (dd bL_law dL_law_2943) (by decide)).trans ?_
  refine (rg_iadd (pc := 2944) (dd bL_law dL_law_2944) (by omega) (by omega)).trans ?_
  refine (rl_iaload (n := Ln) (pc := 2945) (dd bL_law dL_law_2945) ((ks.1 0 0).trans w.1) ((ks.1 1 0).trans w.2.1) (by omega) (by omega) (v := h 2 2 (i + 1)) (ks.1 2 _)).trans ?_
  refine (rg_virtual (pc := 2946) (dd bL_law dL_law_2946) rfl rfl (by decide) (kc := 34) rfl s2 (as := [(1, 282), (0, h 2 2 (i + 1))]) rfl ⟨Nat.le_of_ble_eq_true rfl, Nat.le_of_ble_eq_true rfl, Nat.le_of_ble_eq_true rfl, Nat.le_of_ble_eq_true rfl⟩).trans ?_
  refine (vret_v y).trans ?_
  refine (rn_istore (pc := 2949) (dd bL_law dL_law_2949) (Nat.le_of_ble_eq_true rfl) rfl).trans ?_
  refine (rn_aload_n (pc := 2951) (dd bL_law dL_law_2951) rfl).trans ?_
  refine (rg_virtual (pc := 2952) (dd bL_law dL_law_2952) rfl rfl (by decide) (kc := 34) rfl s3.1 (as := [(1, 282)]) rfl ⟨Nat.le_of_ble_eq_true rfl, Nat.le_of_ble_eq_true rfl, Nat.le_of_ble_eq_true rfl, Nat.le_of_ble_eq_true rfl⟩).trans ?_
  refine (vret_v ((spX13_thrown s3).trans (by rw [t]))).trans ?_
  refine (rn_iload (pc := 2955) (dd bL_law dL_law_2955) rfl).trans ?_
  refine (rn_icmp_eq (t := 2962) (pc := 2957) (dd bL_law dL_law_2957) rfl).trans ((if_pos rfl).trans ?_)
  refine (rn_iload (pc := 2962) (dd bL_law dL_law_2962) rfl).trans ?_
  refine (rg_if_ne (t := 2979) (pc := 2964) (dd bL_law dL_law_2964) rfl).trans ?_
  by_cases kz : k = 0
  · rw [if_pos kz]
    have f := f kz
    refine (rn_aload_n (pc := 2967) (dd bL_law dL_law_2967) rfl).trans ?_
    refine (rn_iconst (pc := 2968) (dd bL_law dL_law_2968) (by decide)).trans ?_
    refine (rg_laload (n := 1) (pc := 2969) (dd bL_law dL_law_2969) (kk.2.1.trans w.2.2.1) (kk.2.2.1.trans w.2.2.2.1) (by decide) (by decide) ((rz 2 338 0 (by decide)).trans f)).trans ?_
    refine (rn_iload (pc := 2970) (dd bL_law dL_law_2970) rfl).trans ?_
    refine (rn_i2l (pc := 2972) (dd bL_law dL_law_2972)).trans ?_
    refine (rl_lcmp (pc := 2973) (dd bL_law dL_law_2973) rfl).trans ?_
    refine (rn_if_eq (t := 2979) (pc := 2974) (dd bL_law dL_law_2974) rfl).trans ((if_pos rfl).trans ?_)
    refine (rn_goto (t := 2982) (pc := 2979) (dd bL_law dL_law_2979) rfl).trans ?_
    refine (rg_iinc (pc := 2982) (dd bL_law dL_law_2982) (x := i) rfl (Nat.le_of_ble_eq_true rfl) (by omega) (by omega) rfl).trans ?_
    exact rn_goto (t := 23) (pc := 2985) (dd bL_law dL_law_2985) rfl
  · rw [if_neg kz]
    refine (rn_goto (t := 2982) (pc := 2979) (dd bL_law dL_law_2979) rfl).trans ?_
    refine (rg_iinc (pc := 2982) (dd bL_law dL_law_2982) (x := i) rfl (Nat.le_of_ble_eq_true rfl) (by omega) (by omega) rfl).trans ?_
    exact rn_goto (t := 23) (pc := 2985) (dd bL_law dL_law_2985) rfl
