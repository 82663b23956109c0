/-! the law's cases 29 to 42 -/
section LAWK
variable {p : Program} {l : Launch} {e : Env} {s : State} {m : MethodId} {args : Array Value} {below : List Frame} {meth : Method} {c : Code} {H : Heap} {locs : List Loc} {cells slots : Nat} {Q : State → Prop}
variable {D : va_G} {g : Nat → ClassId} {x : Xd} {A : Nat → Prop} {ret0 : Option FieldType} {b L k : Nat} {xs : Nat → Int32} {α : Adr9} {z z1 : SL} {ls : Array Slot}
theorem ll_c29 (X : Cx p s m args meth c RL cL_law 9 ret0 D g x A) (hs : Scr9 b L xs s A) (hl0 : l.stackTraces = false) (hW : LLP D g α A s z H locs) (hl : lv_has ls 9 (lvB b α k)) (hk : k + 6 ≤ L) (hcs : cells + 8 ≤ 601024 ∧ slots + 48 ≤ 7293034) (hq : q_29 (fun j => xs (k + j)) z = some z1)
    (kk : ∀ (H1 : Heap) (locs1 : List Loc) (ls1 : Array Slot), LLP D g α A s z1 H1 locs1 → lv_has ls1 9 (lvB b α k) → W p l e room_1 s m args below meth c H1 locs1 (cells + 8) (slots + 48) Q (F0 m 2372 ls1 [])) : W p l e room_1 s m args below meth c H locs cells slots Q (F0 m 1625 ls []) := by
  obtain ⟨hx, hb, -⟩ := id X
  obtain ⟨a, ha, hq⟩ := o_b hq
  obtain ⟨b9, hb9, hq⟩ := o_b hq
  refine lv_aload_n hx hb dL_law_1625 rfl (lv_at hl 1 rfl) ?_
  refine ll_ld X hs hW.2.2 (lv_at hl 0 rfl) (lv_at hl 5 rfl) 1 (by decide) (Nat.lt_of_lt_of_le (Nat.add_lt_add_left (by decide) k) hk) dL_law_1626 dL_law_1627 dL_law_1629 dL_law_1630 dL_law_1631 ?_
  refine ll_ld X hs hW.2.2 (lv_at hl 0 rfl) (lv_at hl 5 rfl) 2 (by decide) (Nat.lt_of_lt_of_le (Nat.add_lt_add_left (by decide) k) hk) dL_law_1632 dL_law_1633 dL_law_1635 dL_law_1636 dL_law_1637 ?_
  refine ll_ld X hs hW.2.2 (lv_at hl 0 rfl) (lv_at hl 5 rfl) 3 (by decide) (Nat.lt_of_lt_of_le (Nat.add_lt_add_left (by decide) k) hk) dL_law_1638 dL_law_1639 dL_law_1641 dL_law_1642 dL_law_1643 ?_
  refine lv_aload_n hx hb dL_law_1644 rfl (lv_at hl 3 rfl) ?_
  refine ll_h X (z := z) (As := [.ref (α.1 0), .int (xs (k + 1)), .int (xs (k + 2)), .int (xs (k + 3)), .ref α.2.2.2.1]) (H_valueWithout D g x l hl0 α.1 α.2.1 α.2.2.2.1 z.1 (xs (k + 1)) (xs (k + 2)) (xs (k + 3)) z.2.2.1 a ha) mh_valueWithout ml_L_230 ⟨(Nat.le_of_ble_eq_true rfl), (Nat.le_of_ble_eq_true rfl)⟩ (Nat.le_of_ble_eq_true rfl) hW rfl hl.1 rfl dL_law_1645 hcs (fun H locs hW => ?_)
  refine lv_istore (lv' := (6, .int a.1) :: lvB b α k) hx hb dL_law_1648 hl (by decide) rfl (fun ls hl => ?_)
  refine lv_aload_n hx hb dL_law_1650 rfl (lv_at hl 3 rfl) ?_
  refine ll_ld X hs hW.2.2 (lv_at hl 1 rfl) (lv_at hl 6 rfl) 1 (by decide) (Nat.lt_of_lt_of_le (Nat.add_lt_add_left (by decide) k) hk) dL_law_1651 dL_law_1652 dL_law_1654 dL_law_1655 dL_law_1656 ?_
  refine ll_ld X hs hW.2.2 (lv_at hl 1 rfl) (lv_at hl 6 rfl) 2 (by decide) (Nat.lt_of_lt_of_le (Nat.add_lt_add_left (by decide) k) hk) dL_law_1657 dL_law_1658 dL_law_1660 dL_law_1661 dL_law_1662 ?_
  refine ll_ld X hs hW.2.2 (lv_at hl 1 rfl) (lv_at hl 6 rfl) 3 (by decide) (Nat.lt_of_lt_of_le (Nat.add_lt_add_left (by decide) k) hk) dL_law_1663 dL_law_1664 dL_law_1666 dL_law_1667 dL_law_1668 ?_
  refine ll_m X (z := (a.2.1, z.2.1, a.2.2, z.2.2.2)) (As := [.int (xs (k + 1)), .int (xs (k + 2)), .int (xs (k + 3))]) (rest := []) (st1 := [.long b9.1]) (K7_valueWithout D g x l α.2.2.1 z.2.1 (xs (k + 1)) (xs (k + 2)) (xs (k + 3)) b9 hb9) mw_X7_valueWithout ml_L_232 rfl ⟨(Nat.le_of_ble_eq_true rfl), (Nat.le_of_ble_eq_true rfl)⟩ hW rfl hl.1 rfl (Nat.le_of_ble_eq_true rfl) dL_law_1669 hcs rfl (fun H locs hW => ?_)
  refine lv_lstore (lv' := (7, .long b9.1) :: (6, .int a.1) :: lvB b α k) hx hb dL_law_1672 hl (by decide) rfl (fun ls hl => ?_)
  exact ll_tJ X (z := (a.2.1, b9.2, a.2.2, z.2.2.2)) hW hl hcs hq (by decide) dL_law_1674 dL_law_1675 dL_law_1678 dL_law_1680 dL_law_1685 dL_law_1687 dL_law_1690 dL_law_1691 dL_law_1692 dL_law_1693 dL_law_1695 dL_law_1696 dL_law_1701 (fun H locs hW => kk _ _ _ hW (lv_sub hl [2, 3, 4, 5, 6, 7] rfl))
theorem ll_c30 (X : Cx p s m args meth c RL cL_law 9 ret0 D g x A) (hs : Scr9 b L xs s A) (hl0 : l.stackTraces = false) (hW : LLP D g α A s z H locs) (hl : lv_has ls 9 (lvB b α k)) (hk : k + 6 ≤ L) (hcs : cells + 8 ≤ 601024 ∧ slots + 48 ≤ 7293034) (hq : q_30 (fun j => xs (k + j)) z = some z1)
    (kk : ∀ (H1 : Heap) (locs1 : List Loc) (ls1 : Array Slot), LLP D g α A s z1 H1 locs1 → lv_has ls1 9 (lvB b α k) → W p l e room_1 s m args below meth c H1 locs1 (cells + 8) (slots + 48) Q (F0 m 2372 ls1 [])) : W p l e room_1 s m args below meth c H locs cells slots Q (F0 m 1704 ls []) := by
  obtain ⟨hx, hb, -⟩ := id X
  obtain ⟨a, ha, hq⟩ := o_b hq
  obtain ⟨b9, hb9, hq⟩ := o_b hq
  refine lv_aload_n hx hb dL_law_1704 rfl (lv_at hl 1 rfl) ?_
  refine ll_ld X hs hW.2.2 (lv_at hl 0 rfl) (lv_at hl 5 rfl) 1 (by decide) (Nat.lt_of_lt_of_le (Nat.add_lt_add_left (by decide) k) hk) dL_law_1705 dL_law_1706 dL_law_1708 dL_law_1709 dL_law_1710 ?_
  refine ll_ld X hs hW.2.2 (lv_at hl 0 rfl) (lv_at hl 5 rfl) 2 (by decide) (Nat.lt_of_lt_of_le (Nat.add_lt_add_left (by decide) k) hk) dL_law_1711 dL_law_1712 dL_law_1714 dL_law_1715 dL_law_1716 ?_
  refine lv_aload_n hx hb dL_law_1717 rfl (lv_at hl 3 rfl) ?_
  refine ll_h X (z := z) (As := [.ref (α.1 0), .int (xs (k + 1)), .int (xs (k + 2)), .ref α.2.2.2.1]) (H_bestPlace D g x l hl0 α.1 α.2.1 α.2.2.2.1 z.1 (xs (k + 1)) (xs (k + 2)) z.2.2.1 a ha) mh_bestPlace ml_L_233 ⟨(Nat.le_of_ble_eq_true rfl), (Nat.le_of_ble_eq_true rfl)⟩ (Nat.le_of_ble_eq_true rfl) hW rfl hl.1 rfl dL_law_1718 hcs (fun H locs hW => ?_)
  refine lv_istore (lv' := (6, .int a.1) :: lvB b α k) hx hb dL_law_1721 hl (by decide) rfl (fun ls hl => ?_)
  refine lv_aload_n hx hb dL_law_1723 rfl (lv_at hl 3 rfl) ?_
  refine ll_ld X hs hW.2.2 (lv_at hl 1 rfl) (lv_at hl 6 rfl) 1 (by decide) (Nat.lt_of_lt_of_le (Nat.add_lt_add_left (by decide) k) hk) dL_law_1724 dL_law_1725 dL_law_1727 dL_law_1728 dL_law_1729 ?_
  refine ll_ld X hs hW.2.2 (lv_at hl 1 rfl) (lv_at hl 6 rfl) 2 (by decide) (Nat.lt_of_lt_of_le (Nat.add_lt_add_left (by decide) k) hk) dL_law_1730 dL_law_1731 dL_law_1733 dL_law_1734 dL_law_1735 ?_
  refine ll_m X (z := (a.2.1, z.2.1, a.2.2, z.2.2.2)) (As := [.int (xs (k + 1)), .int (xs (k + 2))]) (rest := []) (st1 := [.int b9.1]) (K7_bestPlace D g x l α.2.2.1 z.2.1 (xs (k + 1)) (xs (k + 2)) b9 hb9) mw_X7_bestPlace ml_L_235 rfl ⟨(Nat.le_of_ble_eq_true rfl), (Nat.le_of_ble_eq_true rfl)⟩ hW rfl hl.1 rfl (Nat.le_of_ble_eq_true rfl) dL_law_1736 hcs rfl (fun H locs hW => ?_)
  refine lv_istore (lv' := (7, .int b9.1) :: (6, .int a.1) :: lvB b α k) hx hb dL_law_1739 hl (by decide) rfl (fun ls hl => ?_)
  exact ll_tI X (z := (a.2.1, b9.2, a.2.2, z.2.2.2)) hW hl hcs hq (by decide) dL_law_1741 dL_law_1742 dL_law_1745 dL_law_1747 dL_law_1752 dL_law_1754 dL_law_1757 dL_law_1758 dL_law_1759 dL_law_1760 dL_law_1762 dL_law_1763 dL_law_1764 dL_law_1769 (fun H locs hW => kk _ _ _ hW (lv_sub hl [2, 3, 4, 5, 6, 7] rfl))
theorem ll_c31 (X : Cx p s m args meth c RL cL_law 9 ret0 D g x A) (hs : Scr9 b L xs s A) (hl0 : l.stackTraces = false) (hW : LLP D g α A s z H locs) (hl : lv_has ls 9 (lvB b α k)) (hk : k + 6 ≤ L) (hcs : cells + 8 ≤ 601024 ∧ slots + 48 ≤ 7293034) (hq : q_31 (fun j => xs (k + j)) z = some z1)
    (kk : ∀ (H1 : Heap) (locs1 : List Loc) (ls1 : Array Slot), LLP D g α A s z1 H1 locs1 → lv_has ls1 9 (lvB b α k) → W p l e room_1 s m args below meth c H1 locs1 (cells + 8) (slots + 48) Q (F0 m 2372 ls1 [])) : W p l e room_1 s m args below meth c H locs cells slots Q (F0 m 1772 ls []) := by
  obtain ⟨hx, hb, -⟩ := id X
  obtain ⟨a, ha, hq⟩ := o_b hq
  obtain ⟨b9, hb9, hq⟩ := o_b hq
  refine lv_aload_n hx hb dL_law_1772 rfl (lv_at hl 1 rfl) ?_
  refine ll_ld X hs hW.2.2 (lv_at hl 0 rfl) (lv_at hl 5 rfl) 1 (by decide) (Nat.lt_of_lt_of_le (Nat.add_lt_add_left (by decide) k) hk) dL_law_1773 dL_law_1774 dL_law_1776 dL_law_1777 dL_law_1778 ?_
  refine ll_ld X hs hW.2.2 (lv_at hl 0 rfl) (lv_at hl 5 rfl) 2 (by decide) (Nat.lt_of_lt_of_le (Nat.add_lt_add_left (by decide) k) hk) dL_law_1779 dL_law_1780 dL_law_1782 dL_law_1783 dL_law_1784 ?_
  refine lv_aload_n hx hb dL_law_1785 rfl (lv_at hl 3 rfl) ?_
  refine ll_h X (z := z) (As := [.ref (α.1 0), .int (xs (k + 1)), .int (xs (k + 2)), .ref α.2.2.2.1]) (H_move D g x l hl0 α.1 α.2.1 α.2.2.2.1 z.1 (xs (k + 1)) (xs (k + 2)) z.2.2.1 a ha) mh_move ml_L_236 ⟨(Nat.le_of_ble_eq_true rfl), (Nat.le_of_ble_eq_true rfl)⟩ (Nat.le_of_ble_eq_true rfl) hW rfl hl.1 rfl dL_law_1786 hcs (fun H locs hW => ?_)
  refine lv_istore (lv' := (6, .int a.1) :: lvB b α k) hx hb dL_law_1789 hl (by decide) rfl (fun ls hl => ?_)
  refine lv_aload_n hx hb dL_law_1791 rfl (lv_at hl 3 rfl) ?_
  refine ll_ld X hs hW.2.2 (lv_at hl 1 rfl) (lv_at hl 6 rfl) 1 (by decide) (Nat.lt_of_lt_of_le (Nat.add_lt_add_left (by decide) k) hk) dL_law_1792 dL_law_1793 dL_law_1795 dL_law_1796 dL_law_1797 ?_
  refine ll_ld X hs hW.2.2 (lv_at hl 1 rfl) (lv_at hl 6 rfl) 2 (by decide) (Nat.lt_of_lt_of_le (Nat.add_lt_add_left (by decide) k) hk) dL_law_1798 dL_law_1799 dL_law_1801 dL_law_1802 dL_law_1803 ?_
  refine ll_m X (z := (a.2.1, z.2.1, a.2.2, z.2.2.2)) (As := [.int (xs (k + 1)), .int (xs (k + 2))]) (rest := []) (st1 := [.int b9.1]) (K7_move D g x l α.2.2.1 z.2.1 (xs (k + 1)) (xs (k + 2)) b9 hb9) mw_X7_move ml_L_238 rfl ⟨(Nat.le_of_ble_eq_true rfl), (Nat.le_of_ble_eq_true rfl)⟩ hW rfl hl.1 rfl (Nat.le_of_ble_eq_true rfl) dL_law_1804 hcs rfl (fun H locs hW => ?_)
  refine lv_istore (lv' := (7, .int b9.1) :: (6, .int a.1) :: lvB b α k) hx hb dL_law_1807 hl (by decide) rfl (fun ls hl => ?_)
  exact ll_tI X (z := (a.2.1, b9.2, a.2.2, z.2.2.2)) hW hl hcs hq (by decide) dL_law_1809 dL_law_1810 dL_law_1813 dL_law_1815 dL_law_1820 dL_law_1822 dL_law_1825 dL_law_1826 dL_law_1827 dL_law_1828 dL_law_1830 dL_law_1831 dL_law_1832 dL_law_1837 (fun H locs hW => kk _ _ _ hW (lv_sub hl [2, 3, 4, 5, 6, 7] rfl))
theorem ll_c32 (X : Cx p s m args meth c RL cL_law 9 ret0 D g x A) (hs : Scr9 b L xs s A) (hl0 : l.stackTraces = false) (hW : LLP D g α A s z H locs) (hl : lv_has ls 9 (lvB b α k)) (hk : k + 6 ≤ L) (hcs : cells + 8 ≤ 601024 ∧ slots + 48 ≤ 7293034) (hq : q_32 (fun j => xs (k + j)) z = some z1)
    (kk : ∀ (H1 : Heap) (locs1 : List Loc) (ls1 : Array Slot), LLP D g α A s z1 H1 locs1 → lv_has ls1 9 (lvB b α k) → W p l e room_1 s m args below meth c H1 locs1 (cells + 8) (slots + 48) Q (F0 m 2372 ls1 [])) : W p l e room_1 s m args below meth c H locs cells slots Q (F0 m 1840 ls []) := by
  obtain ⟨hx, hb, -⟩ := id X
  obtain ⟨a, ha, hq⟩ := o_b hq
  obtain ⟨b9, hb9, hq⟩ := o_b hq
  refine lv_aload_n hx hb dL_law_1840 rfl (lv_at hl 1 rfl) ?_
  refine ll_ld X hs hW.2.2 (lv_at hl 0 rfl) (lv_at hl 5 rfl) 1 (by decide) (Nat.lt_of_lt_of_le (Nat.add_lt_add_left (by decide) k) hk) dL_law_1841 dL_law_1842 dL_law_1844 dL_law_1845 dL_law_1846 ?_
  refine ll_ld X hs hW.2.2 (lv_at hl 0 rfl) (lv_at hl 5 rfl) 2 (by decide) (Nat.lt_of_lt_of_le (Nat.add_lt_add_left (by decide) k) hk) dL_law_1847 dL_law_1848 dL_law_1850 dL_law_1851 dL_law_1852 ?_
  refine lv_aload_n hx hb dL_law_1853 rfl (lv_at hl 3 rfl) ?_
  refine ll_h X (z := z) (As := [.ref (α.1 0), .int (xs (k + 1)), .int (xs (k + 2)), .ref α.2.2.2.1]) (H_setValue D g x l hl0 α.1 α.2.1 α.2.2.2.1 z.1 (xs (k + 1)) (xs (k + 2)) z.2.2.1 a ha) mh_setValue ml_L_239 ⟨(Nat.le_of_ble_eq_true rfl), (Nat.le_of_ble_eq_true rfl)⟩ (Nat.le_of_ble_eq_true rfl) hW rfl hl.1 rfl dL_law_1854 hcs (fun H locs hW => ?_)
  refine lv_istore (lv' := (6, .int a.1) :: lvB b α k) hx hb dL_law_1857 hl (by decide) rfl (fun ls hl => ?_)
  refine lv_aload_n hx hb dL_law_1859 rfl (lv_at hl 3 rfl) ?_
  refine ll_ld X hs hW.2.2 (lv_at hl 1 rfl) (lv_at hl 6 rfl) 1 (by decide) (Nat.lt_of_lt_of_le (Nat.add_lt_add_left (by decide) k) hk) dL_law_1860 dL_law_1861 dL_law_1863 dL_law_1864 dL_law_1865 ?_
  refine ll_ld X hs hW.2.2 (lv_at hl 1 rfl) (lv_at hl 6 rfl) 2 (by decide) (Nat.lt_of_lt_of_le (Nat.add_lt_add_left (by decide) k) hk) dL_law_1866 dL_law_1867 dL_law_1869 dL_law_1870 dL_law_1871 ?_
  refine ll_m X (z := (a.2.1, z.2.1, a.2.2, z.2.2.2)) (As := [.int (xs (k + 1)), .int (xs (k + 2))]) (rest := []) (st1 := [.int b9.1]) (K7_setValue D g x l α.2.2.1 z.2.1 (xs (k + 1)) (xs (k + 2)) b9 hb9) mw_X7_setValue ml_L_241 rfl ⟨(Nat.le_of_ble_eq_true rfl), (Nat.le_of_ble_eq_true rfl)⟩ hW rfl hl.1 rfl (Nat.le_of_ble_eq_true rfl) dL_law_1872 hcs rfl (fun H locs hW => ?_)
  refine lv_istore (lv' := (7, .int b9.1) :: (6, .int a.1) :: lvB b α k) hx hb dL_law_1875 hl (by decide) rfl (fun ls hl => ?_)
  exact ll_tI X (z := (a.2.1, b9.2, a.2.2, z.2.2.2)) hW hl hcs hq (by decide) dL_law_1877 dL_law_1878 dL_law_1881 dL_law_1883 dL_law_1888 dL_law_1890 dL_law_1893 dL_law_1894 dL_law_1895 dL_law_1896 dL_law_1898 dL_law_1899 dL_law_1900 dL_law_1905 (fun H locs hW => kk _ _ _ hW (lv_sub hl [2, 3, 4, 5, 6, 7] rfl))
theorem ll_c33 (X : Cx p s m args meth c RL cL_law 9 ret0 D g x A) (hs : Scr9 b L xs s A) (hl0 : l.stackTraces = false) (hW : LLP D g α A s z H locs) (hl : lv_has ls 9 (lvB b α k)) (hk : k + 6 ≤ L) (hcs : cells + 8 ≤ 601024 ∧ slots + 48 ≤ 7293034) (hq : q_33 (fun j => xs (k + j)) z = some z1)
    (kk : ∀ (H1 : Heap) (locs1 : List Loc) (ls1 : Array Slot), LLP D g α A s z1 H1 locs1 → lv_has ls1 9 (lvB b α k) → W p l e room_1 s m args below meth c H1 locs1 (cells + 8) (slots + 48) Q (F0 m 2372 ls1 [])) : W p l e room_1 s m args below meth c H locs cells slots Q (F0 m 1908 ls []) := by
  obtain ⟨hx, hb, -⟩ := id X
  obtain ⟨a, ha, hq⟩ := o_b hq
  obtain ⟨b9, hb9, hq⟩ := o_b hq
  refine lv_aload_n hx hb dL_law_1908 rfl (lv_at hl 1 rfl) ?_
  refine ll_ld X hs hW.2.2 (lv_at hl 0 rfl) (lv_at hl 5 rfl) 1 (by decide) (Nat.lt_of_lt_of_le (Nat.add_lt_add_left (by decide) k) hk) dL_law_1909 dL_law_1910 dL_law_1912 dL_law_1913 dL_law_1914 ?_
  refine ll_ld X hs hW.2.2 (lv_at hl 0 rfl) (lv_at hl 5 rfl) 2 (by decide) (Nat.lt_of_lt_of_le (Nat.add_lt_add_left (by decide) k) hk) dL_law_1915 dL_law_1916 dL_law_1918 dL_law_1919 dL_law_1920 ?_
  refine lv_aload_n hx hb dL_law_1921 rfl (lv_at hl 3 rfl) ?_
  refine ll_h X (z := z) (As := [.ref (α.1 0), .int (xs (k + 1)), .int (xs (k + 2)), .ref α.2.2.2.1]) (H_setWeight D g x l hl0 α.1 α.2.1 α.2.2.2.1 z.1 (xs (k + 1)) (xs (k + 2)) z.2.2.1 a ha) mh_setWeight ml_L_242 ⟨(Nat.le_of_ble_eq_true rfl), (Nat.le_of_ble_eq_true rfl)⟩ (Nat.le_of_ble_eq_true rfl) hW rfl hl.1 rfl dL_law_1922 hcs (fun H locs hW => ?_)
  refine lv_istore (lv' := (6, .int a.1) :: lvB b α k) hx hb dL_law_1925 hl (by decide) rfl (fun ls hl => ?_)
  refine lv_aload_n hx hb dL_law_1927 rfl (lv_at hl 3 rfl) ?_
  refine ll_ld X hs hW.2.2 (lv_at hl 1 rfl) (lv_at hl 6 rfl) 1 (by decide) (Nat.lt_of_lt_of_le (Nat.add_lt_add_left (by decide) k) hk) dL_law_1928 dL_law_1929 dL_law_1931 dL_law_1932 dL_law_1933 ?_
  refine ll_ld X hs hW.2.2 (lv_at hl 1 rfl) (lv_at hl 6 rfl) 2 (by decide) (Nat.lt_of_lt_of_le (Nat.add_lt_add_left (by decide) k) hk) dL_law_1934 dL_law_1935 dL_law_1937 dL_law_1938 dL_law_1939 ?_
  refine ll_m X (z := (a.2.1, z.2.1, a.2.2, z.2.2.2)) (As := [.int (xs (k + 1)), .int (xs (k + 2))]) (rest := []) (st1 := [.int b9.1]) (K7_setWeight D g x l α.2.2.1 z.2.1 (xs (k + 1)) (xs (k + 2)) b9 hb9) mw_X7_setWeight ml_L_244 rfl ⟨(Nat.le_of_ble_eq_true rfl), (Nat.le_of_ble_eq_true rfl)⟩ hW rfl hl.1 rfl (Nat.le_of_ble_eq_true rfl) dL_law_1940 hcs rfl (fun H locs hW => ?_)
  refine lv_istore (lv' := (7, .int b9.1) :: (6, .int a.1) :: lvB b α k) hx hb dL_law_1943 hl (by decide) rfl (fun ls hl => ?_)
  exact ll_tI X (z := (a.2.1, b9.2, a.2.2, z.2.2.2)) hW hl hcs hq (by decide) dL_law_1945 dL_law_1946 dL_law_1949 dL_law_1951 dL_law_1956 dL_law_1958 dL_law_1961 dL_law_1962 dL_law_1963 dL_law_1964 dL_law_1966 dL_law_1967 dL_law_1968 dL_law_1973 (fun H locs hW => kk _ _ _ hW (lv_sub hl [2, 3, 4, 5, 6, 7] rfl))
theorem ll_c34 (X : Cx p s m args meth c RL cL_law 9 ret0 D g x A) (hs : Scr9 b L xs s A) (hl0 : l.stackTraces = false) (hW : LLP D g α A s z H locs) (hl : lv_has ls 9 (lvB b α k)) (hk : k + 6 ≤ L) (hcs : cells + 8 ≤ 601024 ∧ slots + 48 ≤ 7293034) (hq : q_34 (fun j => xs (k + j)) z = some z1)
    (kk : ∀ (H1 : Heap) (locs1 : List Loc) (ls1 : Array Slot), LLP D g α A s z1 H1 locs1 → lv_has ls1 9 (lvB b α k) → W p l e room_1 s m args below meth c H1 locs1 (cells + 8) (slots + 48) Q (F0 m 2372 ls1 [])) : W p l e room_1 s m args below meth c H locs cells slots Q (F0 m 1976 ls []) := by
  obtain ⟨hx, hb, -⟩ := id X
  obtain ⟨a, ha, hq⟩ := o_b hq
  obtain ⟨b9, hb9, hq⟩ := o_b hq
  refine lv_aload_n hx hb dL_law_1976 rfl (lv_at hl 1 rfl) ?_
  refine ll_ld X hs hW.2.2 (lv_at hl 0 rfl) (lv_at hl 5 rfl) 1 (by decide) (Nat.lt_of_lt_of_le (Nat.add_lt_add_left (by decide) k) hk) dL_law_1977 dL_law_1978 dL_law_1980 dL_law_1981 dL_law_1982 ?_
  refine ll_ld X hs hW.2.2 (lv_at hl 0 rfl) (lv_at hl 5 rfl) 2 (by decide) (Nat.lt_of_lt_of_le (Nat.add_lt_add_left (by decide) k) hk) dL_law_1983 dL_law_1984 dL_law_1986 dL_law_1987 dL_law_1988 ?_
  refine ll_ld X hs hW.2.2 (lv_at hl 0 rfl) (lv_at hl 5 rfl) 3 (by decide) (Nat.lt_of_lt_of_le (Nat.add_lt_add_left (by decide) k) hk) dL_law_1989 dL_law_1990 dL_law_1992 dL_law_1993 dL_law_1994 ?_
  refine lv_aload_n hx hb dL_law_1995 rfl (lv_at hl 3 rfl) ?_
  refine ll_h X (z := z) (As := [.ref (α.1 0), .int (xs (k + 1)), .int (xs (k + 2)), .int (xs (k + 3)), .ref α.2.2.2.1]) (H_addPoint D g x l hl0 α.1 α.2.1 α.2.2.2.1 z.1 (xs (k + 1)) (xs (k + 2)) (xs (k + 3)) z.2.2.1 a ha) mh_addPoint ml_L_245 ⟨(Nat.le_of_ble_eq_true rfl), (Nat.le_of_ble_eq_true rfl)⟩ (Nat.le_of_ble_eq_true rfl) hW rfl hl.1 rfl dL_law_1996 hcs (fun H locs hW => ?_)
  refine lv_istore (lv' := (6, .int a.1) :: lvB b α k) hx hb dL_law_1999 hl (by decide) rfl (fun ls hl => ?_)
  refine lv_aload_n hx hb dL_law_2001 rfl (lv_at hl 3 rfl) ?_
  refine ll_ld X hs hW.2.2 (lv_at hl 1 rfl) (lv_at hl 6 rfl) 1 (by decide) (Nat.lt_of_lt_of_le (Nat.add_lt_add_left (by decide) k) hk) dL_law_2002 dL_law_2003 dL_law_2005 dL_law_2006 dL_law_2007 ?_
  refine ll_ld X hs hW.2.2 (lv_at hl 1 rfl) (lv_at hl 6 rfl) 2 (by decide) (Nat.lt_of_lt_of_le (Nat.add_lt_add_left (by decide) k) hk) dL_law_2008 dL_law_2009 dL_law_2011 dL_law_2012 dL_law_2013 ?_
  refine ll_ld X hs hW.2.2 (lv_at hl 1 rfl) (lv_at hl 6 rfl) 3 (by decide) (Nat.lt_of_lt_of_le (Nat.add_lt_add_left (by decide) k) hk) dL_law_2014 dL_law_2015 dL_law_2017 dL_law_2018 dL_law_2019 ?_
  refine ll_m X (z := (a.2.1, z.2.1, a.2.2, z.2.2.2)) (As := [.int (xs (k + 1)), .int (xs (k + 2)), .int (xs (k + 3))]) (rest := []) (st1 := [.int b9.1]) (K7_addPoint D g x l α.2.2.1 z.2.1 (xs (k + 1)) (xs (k + 2)) (xs (k + 3)) b9 hb9) mw_X7_addPoint ml_L_247 rfl ⟨(Nat.le_of_ble_eq_true rfl), (Nat.le_of_ble_eq_true rfl)⟩ hW rfl hl.1 rfl (Nat.le_of_ble_eq_true rfl) dL_law_2020 hcs rfl (fun H locs hW => ?_)
  refine lv_istore (lv' := (7, .int b9.1) :: (6, .int a.1) :: lvB b α k) hx hb dL_law_2023 hl (by decide) rfl (fun ls hl => ?_)
  exact ll_tI X (z := (a.2.1, b9.2, a.2.2, z.2.2.2)) hW hl hcs hq (by decide) dL_law_2025 dL_law_2026 dL_law_2029 dL_law_2031 dL_law_2036 dL_law_2038 dL_law_2041 dL_law_2042 dL_law_2043 dL_law_2044 dL_law_2046 dL_law_2047 dL_law_2048 dL_law_2053 (fun H locs hW => kk _ _ _ hW (lv_sub hl [2, 3, 4, 5, 6, 7] rfl))
theorem ll_c35 (X : Cx p s m args meth c RL cL_law 9 ret0 D g x A) (hs : Scr9 b L xs s A) (hl0 : l.stackTraces = false) (hW : LLP D g α A s z H locs) (hl : lv_has ls 9 (lvB b α k)) (hk : k + 6 ≤ L) (hcs : cells + 8 ≤ 601024 ∧ slots + 48 ≤ 7293034) (hq : q_35 (fun j => xs (k + j)) z = some z1)
    (kk : ∀ (H1 : Heap) (locs1 : List Loc) (ls1 : Array Slot), LLP D g α A s z1 H1 locs1 → lv_has ls1 9 (lvB b α k) → W p l e room_1 s m args below meth c H1 locs1 (cells + 8) (slots + 48) Q (F0 m 2372 ls1 [])) : W p l e room_1 s m args below meth c H locs cells slots Q (F0 m 2056 ls []) := by
  obtain ⟨hx, hb, -⟩ := id X
  obtain ⟨a, ha, hq⟩ := o_b hq
  obtain ⟨b9, hb9, hq⟩ := o_b hq
  refine lv_aload_n hx hb dL_law_2056 rfl (lv_at hl 1 rfl) ?_
  refine ll_ld X hs hW.2.2 (lv_at hl 0 rfl) (lv_at hl 5 rfl) 1 (by decide) (Nat.lt_of_lt_of_le (Nat.add_lt_add_left (by decide) k) hk) dL_law_2057 dL_law_2058 dL_law_2060 dL_law_2061 dL_law_2062 ?_
  refine lv_aload_n hx hb dL_law_2063 rfl (lv_at hl 3 rfl) ?_
  refine ll_h X (z := z) (As := [.ref (α.1 0), .int (xs (k + 1)), .ref α.2.2.2.1]) (H_removePoint D g x l hl0 α.1 α.2.1 α.2.2.2.1 z.1 (xs (k + 1)) z.2.2.1 a ha) mh_removePoint ml_L_248 ⟨(Nat.le_of_ble_eq_true rfl), (Nat.le_of_ble_eq_true rfl)⟩ (Nat.le_of_ble_eq_true rfl) hW rfl hl.1 rfl dL_law_2064 hcs (fun H locs hW => ?_)
  refine lv_istore (lv' := (6, .int a.1) :: lvB b α k) hx hb dL_law_2067 hl (by decide) rfl (fun ls hl => ?_)
  refine lv_aload_n hx hb dL_law_2069 rfl (lv_at hl 3 rfl) ?_
  refine ll_ld X hs hW.2.2 (lv_at hl 1 rfl) (lv_at hl 6 rfl) 1 (by decide) (Nat.lt_of_lt_of_le (Nat.add_lt_add_left (by decide) k) hk) dL_law_2070 dL_law_2071 dL_law_2073 dL_law_2074 dL_law_2075 ?_
  refine ll_m X (z := (a.2.1, z.2.1, a.2.2, z.2.2.2)) (As := [.int (xs (k + 1))]) (rest := []) (st1 := [.int b9.1]) (K7_removePoint D g x l α.2.2.1 z.2.1 (xs (k + 1)) b9 hb9) mw_X7_removePoint ml_L_250 rfl ⟨(Nat.le_of_ble_eq_true rfl), (Nat.le_of_ble_eq_true rfl)⟩ hW rfl hl.1 rfl (Nat.le_of_ble_eq_true rfl) dL_law_2076 hcs rfl (fun H locs hW => ?_)
  refine lv_istore (lv' := (7, .int b9.1) :: (6, .int a.1) :: lvB b α k) hx hb dL_law_2079 hl (by decide) rfl (fun ls hl => ?_)
  exact ll_tI X (z := (a.2.1, b9.2, a.2.2, z.2.2.2)) hW hl hcs hq (by decide) dL_law_2081 dL_law_2082 dL_law_2085 dL_law_2087 dL_law_2092 dL_law_2094 dL_law_2097 dL_law_2098 dL_law_2099 dL_law_2100 dL_law_2102 dL_law_2103 dL_law_2104 dL_law_2109 (fun H locs hW => kk _ _ _ hW (lv_sub hl [2, 3, 4, 5, 6, 7] rfl))
theorem ll_c36 (X : Cx p s m args meth c RL cL_law 9 ret0 D g x A) (hs : Scr9 b L xs s A) (hl0 : l.stackTraces = false) (hW : LLP D g α A s z H locs) (hl : lv_has ls 9 (lvB b α k)) (hk : k + 6 ≤ L) (hcs : cells + 8 ≤ 601024 ∧ slots + 48 ≤ 7293034) (hq : q_36 (fun j => xs (k + j)) z = some z1)
    (kk : ∀ (H1 : Heap) (locs1 : List Loc) (ls1 : Array Slot), LLP D g α A s z1 H1 locs1 → lv_has ls1 9 (lvB b α k) → W p l e room_1 s m args below meth c H1 locs1 (cells + 8) (slots + 48) Q (F0 m 2372 ls1 [])) : W p l e room_1 s m args below meth c H locs cells slots Q (F0 m 2112 ls []) := by
  obtain ⟨hx, hb, -⟩ := id X
  obtain ⟨a, ha, hq⟩ := o_b hq
  obtain ⟨b9, hb9, hq⟩ := o_b hq
  refine lv_aload_n hx hb dL_law_2112 rfl (lv_at hl 1 rfl) ?_
  refine ll_ld X hs hW.2.2 (lv_at hl 0 rfl) (lv_at hl 5 rfl) 1 (by decide) (Nat.lt_of_lt_of_le (Nat.add_lt_add_left (by decide) k) hk) dL_law_2113 dL_law_2114 dL_law_2116 dL_law_2117 dL_law_2118 ?_
  refine ll_ld X hs hW.2.2 (lv_at hl 0 rfl) (lv_at hl 5 rfl) 2 (by decide) (Nat.lt_of_lt_of_le (Nat.add_lt_add_left (by decide) k) hk) dL_law_2119 dL_law_2120 dL_law_2122 dL_law_2123 dL_law_2124 ?_
  refine lv_aload_n hx hb dL_law_2125 rfl (lv_at hl 3 rfl) ?_
  refine ll_h X (z := z) (As := [.ref (α.1 0), .int (xs (k + 1)), .int (xs (k + 2)), .ref α.2.2.2.1]) (H_setMode D g x l hl0 α.1 α.2.1 α.2.2.2.1 z.1 (xs (k + 1)) (xs (k + 2)) z.2.2.1 a ha) mh_setMode ml_L_251 ⟨(Nat.le_of_ble_eq_true rfl), (Nat.le_of_ble_eq_true rfl)⟩ (Nat.le_of_ble_eq_true rfl) hW rfl hl.1 rfl dL_law_2126 hcs (fun H locs hW => ?_)
  refine lv_istore (lv' := (6, .int a.1) :: lvB b α k) hx hb dL_law_2129 hl (by decide) rfl (fun ls hl => ?_)
  refine lv_aload_n hx hb dL_law_2131 rfl (lv_at hl 3 rfl) ?_
  refine ll_ld X hs hW.2.2 (lv_at hl 1 rfl) (lv_at hl 6 rfl) 1 (by decide) (Nat.lt_of_lt_of_le (Nat.add_lt_add_left (by decide) k) hk) dL_law_2132 dL_law_2133 dL_law_2135 dL_law_2136 dL_law_2137 ?_
  refine ll_ld X hs hW.2.2 (lv_at hl 1 rfl) (lv_at hl 6 rfl) 2 (by decide) (Nat.lt_of_lt_of_le (Nat.add_lt_add_left (by decide) k) hk) dL_law_2138 dL_law_2139 dL_law_2141 dL_law_2142 dL_law_2143 ?_
  refine ll_m X (z := (a.2.1, z.2.1, a.2.2, z.2.2.2)) (As := [.int (xs (k + 1)), .int (xs (k + 2))]) (rest := []) (st1 := [.int b9.1]) (K7_setMode D g x l α.2.2.1 z.2.1 (xs (k + 1)) (xs (k + 2)) b9 hb9) mw_X7_setMode ml_L_253 rfl ⟨(Nat.le_of_ble_eq_true rfl), (Nat.le_of_ble_eq_true rfl)⟩ hW rfl hl.1 rfl (Nat.le_of_ble_eq_true rfl) dL_law_2144 hcs rfl (fun H locs hW => ?_)
  refine lv_istore (lv' := (7, .int b9.1) :: (6, .int a.1) :: lvB b α k) hx hb dL_law_2147 hl (by decide) rfl (fun ls hl => ?_)
  exact ll_tI X (z := (a.2.1, b9.2, a.2.2, z.2.2.2)) hW hl hcs hq (by decide) dL_law_2149 dL_law_2150 dL_law_2153 dL_law_2155 dL_law_2160 dL_law_2162 dL_law_2165 dL_law_2166 dL_law_2167 dL_law_2168 dL_law_2170 dL_law_2171 dL_law_2172 dL_law_2177 (fun H locs hW => kk _ _ _ hW (lv_sub hl [2, 3, 4, 5, 6, 7] rfl))
theorem ll_c37 (X : Cx p s m args meth c RL cL_law 9 ret0 D g x A) (hs : Scr9 b L xs s A) (hl0 : l.stackTraces = false) (hW : LLP D g α A s z H locs) (hl : lv_has ls 9 (lvB b α k)) (hk : k + 6 ≤ L) (hcs : cells + 8 ≤ 601024 ∧ slots + 48 ≤ 7293034) (hq : q_37 (fun j => xs (k + j)) z = some z1)
    (kk : ∀ (H1 : Heap) (locs1 : List Loc) (ls1 : Array Slot), LLP D g α A s z1 H1 locs1 → lv_has ls1 9 (lvB b α k) → W p l e room_1 s m args below meth c H1 locs1 (cells + 8) (slots + 48) Q (F0 m 2372 ls1 [])) : W p l e room_1 s m args below meth c H locs cells slots Q (F0 m 2180 ls []) := by
  obtain ⟨hx, hb, -⟩ := id X
  obtain ⟨a, ha, hq⟩ := o_b hq
  obtain ⟨b9, hb9, hq⟩ := o_b hq
  refine lv_aload_n hx hb dL_law_2180 rfl (lv_at hl 1 rfl) ?_
  refine ll_ld X hs hW.2.2 (lv_at hl 0 rfl) (lv_at hl 5 rfl) 1 (by decide) (Nat.lt_of_lt_of_le (Nat.add_lt_add_left (by decide) k) hk) dL_law_2181 dL_law_2182 dL_law_2184 dL_law_2185 dL_law_2186 ?_
  refine lv_aload_n hx hb dL_law_2187 rfl (lv_at hl 3 rfl) ?_
  refine ll_h X (z := z) (As := [.ref (α.1 0), .int (xs (k + 1)), .ref α.2.2.2.1]) (H_shift D g x l hl0 α.1 α.2.1 α.2.2.2.1 z.1 (xs (k + 1)) z.2.2.1 a ha) mh_shift ml_L_254 ⟨(Nat.le_of_ble_eq_true rfl), (Nat.le_of_ble_eq_true rfl)⟩ (Nat.le_of_ble_eq_true rfl) hW rfl hl.1 rfl dL_law_2188 hcs (fun H locs hW => ?_)
  refine lv_istore (lv' := (6, .int a.1) :: lvB b α k) hx hb dL_law_2191 hl (by decide) rfl (fun ls hl => ?_)
  refine lv_aload_n hx hb dL_law_2193 rfl (lv_at hl 3 rfl) ?_
  refine ll_ld X hs hW.2.2 (lv_at hl 1 rfl) (lv_at hl 6 rfl) 1 (by decide) (Nat.lt_of_lt_of_le (Nat.add_lt_add_left (by decide) k) hk) dL_law_2194 dL_law_2195 dL_law_2197 dL_law_2198 dL_law_2199 ?_
  refine ll_m X (z := (a.2.1, z.2.1, a.2.2, z.2.2.2)) (As := [.int (xs (k + 1))]) (rest := []) (st1 := [.int b9.1]) (K7_shift D g x l α.2.2.1 z.2.1 (xs (k + 1)) b9 hb9) mw_X7_shift ml_L_256 rfl ⟨(Nat.le_of_ble_eq_true rfl), (Nat.le_of_ble_eq_true rfl)⟩ hW rfl hl.1 rfl (Nat.le_of_ble_eq_true rfl) dL_law_2200 hcs rfl (fun H locs hW => ?_)
  refine lv_istore (lv' := (7, .int b9.1) :: (6, .int a.1) :: lvB b α k) hx hb dL_law_2203 hl (by decide) rfl (fun ls hl => ?_)
  exact ll_tI X (z := (a.2.1, b9.2, a.2.2, z.2.2.2)) hW hl hcs hq (by decide) dL_law_2205 dL_law_2206 dL_law_2209 dL_law_2211 dL_law_2216 dL_law_2218 dL_law_2221 dL_law_2222 dL_law_2223 dL_law_2224 dL_law_2226 dL_law_2227 dL_law_2228 dL_law_2233 (fun H locs hW => kk _ _ _ hW (lv_sub hl [2, 3, 4, 5, 6, 7] rfl))
theorem ll_c38 (X : Cx p s m args meth c RL cL_law 9 ret0 D g x A) (hs : Scr9 b L xs s A) (hW : LLP D g α A s z H locs) (hl : lv_has ls 9 (lvB b α k)) (hk : k + 6 ≤ L) (hcs : cells + 8 ≤ 601024 ∧ slots + 48 ≤ 7293034) (hq : q_38 (fun j => xs (k + j)) z = some z1)
    (kk : ∀ (H1 : Heap) (locs1 : List Loc) (ls1 : Array Slot), LLP D g α A s z1 H1 locs1 → lv_has ls1 9 (lvB b α k) → W p l e room_1 s m args below meth c H1 locs1 (cells + 8) (slots + 48) Q (F0 m 2372 ls1 [])) : W p l e room_1 s m args below meth c H locs cells slots Q (F0 m 2236 ls []) := by
  obtain ⟨hx, hb, -⟩ := id X
  obtain ⟨a, ha, hq⟩ := o_b hq
  obtain ⟨b9, hb9, hq⟩ := o_b hq
  refine lv_aload_n hx hb dL_law_2236 rfl (lv_at hl 1 rfl) ?_
  refine ll_x X (z := z) (As := []) (rest := []) (st1 := [.int a.1]) (K6_mirror D g x l α.1 α.2.1 z.1  a ha) mw_X6_mirror ml_L_257 rfl ⟨(Nat.le_of_ble_eq_true rfl), (Nat.le_of_ble_eq_true rfl)⟩ hW rfl hl.1 rfl (Nat.le_of_ble_eq_true rfl) dL_law_2237 hcs rfl (fun H locs hW => ?_)
  refine lv_aload_n hx hb dL_law_2240 rfl (lv_at hl 2 rfl) ?_
  refine ll_m X (z := (a.2, z.2)) (As := []) (rest := [.int a.1]) (st1 := [.int b9.1, .int a.1]) (K7_mirror D g x l α.2.2.1 z.2.1  b9 hb9) mw_X7_mirror ml_L_260 rfl ⟨(Nat.le_of_ble_eq_true rfl), (Nat.le_of_ble_eq_true rfl)⟩ hW rfl hl.1 rfl (Nat.le_of_ble_eq_true rfl) dL_law_2241 ⟨Nat.le_trans (Nat.le_add_right cells 8) hcs.1, Nat.le_trans (Nat.le_add_right slots 48) hcs.2⟩ rfl (fun H locs hW => ?_)
  obtain ⟨hv, hq⟩ := o_y hq
  refine lv_icmp_eq (tgt := 2372) hx hb dL_law_2244 (by decide) (fun _ => ?_) (fun w => absurd hv w)
  cases hq
  exact W.widen (Nat.le_add_right cells 8) (Nat.le_add_right slots 48) (kk _ _ _ hW hl)
theorem ll_c39 (X : Cx p s m args meth c RL cL_law 9 ret0 D g x A) (hs : Scr9 b L xs s A) (hW : LLP D g α A s z H locs) (hl : lv_has ls 9 (lvB b α k)) (hk : k + 6 ≤ L) (hcs : cells + 8 ≤ 601024 ∧ slots + 48 ≤ 7293034) (hq : q_39 (fun j => xs (k + j)) z = some z1)
    (kk : ∀ (H1 : Heap) (locs1 : List Loc) (ls1 : Array Slot), LLP D g α A s z1 H1 locs1 → lv_has ls1 9 (lvB b α k) → W p l e room_1 s m args below meth c H1 locs1 (cells + 8) (slots + 48) Q (F0 m 2372 ls1 [])) : W p l e room_1 s m args below meth c H locs cells slots Q (F0 m 2249 ls []) := by
  obtain ⟨hx, hb, -⟩ := id X
  obtain ⟨a, ha, hq⟩ := o_b hq
  obtain ⟨b9, hb9, hq⟩ := o_b hq
  refine lv_aload_n hx hb dL_law_2249 rfl (lv_at hl 1 rfl) ?_
  refine ll_x X (z := z) (As := []) (rest := []) (st1 := [.int a.1]) (K6_undo D g x l α.1 α.2.1 z.1  a ha) mw_X6_undo ml_L_261 rfl ⟨(Nat.le_of_ble_eq_true rfl), (Nat.le_of_ble_eq_true rfl)⟩ hW rfl hl.1 rfl (Nat.le_of_ble_eq_true rfl) dL_law_2250 hcs rfl (fun H locs hW => ?_)
  refine lv_aload_n hx hb dL_law_2253 rfl (lv_at hl 2 rfl) ?_
  refine ll_m X (z := (a.2, z.2)) (As := []) (rest := [.int a.1]) (st1 := [.int b9.1, .int a.1]) (K7_undo D g x l α.2.2.1 z.2.1  b9 hb9) mw_X7_undo ml_L_264 rfl ⟨(Nat.le_of_ble_eq_true rfl), (Nat.le_of_ble_eq_true rfl)⟩ hW rfl hl.1 rfl (Nat.le_of_ble_eq_true rfl) dL_law_2254 ⟨Nat.le_trans (Nat.le_add_right cells 8) hcs.1, Nat.le_trans (Nat.le_add_right slots 48) hcs.2⟩ rfl (fun H locs hW => ?_)
  obtain ⟨hv, hq⟩ := o_y hq
  refine lv_icmp_eq (tgt := 2372) hx hb dL_law_2257 (by decide) (fun _ => ?_) (fun w => absurd hv w)
  cases hq
  exact W.widen (Nat.le_add_right cells 8) (Nat.le_add_right slots 48) (kk _ _ _ hW hl)
theorem ll_c40 (X : Cx p s m args meth c RL cL_law 9 ret0 D g x A) (hs : Scr9 b L xs s A) (hW : LLP D g α A s z H locs) (hl : lv_has ls 9 (lvB b α k)) (hk : k + 6 ≤ L) (hcs : cells + 8 ≤ 601024 ∧ slots + 48 ≤ 7293034) (hq : q_40 (fun j => xs (k + j)) z = some z1)
    (kk : ∀ (H1 : Heap) (locs1 : List Loc) (ls1 : Array Slot), LLP D g α A s z1 H1 locs1 → lv_has ls1 9 (lvB b α k) → W p l e room_1 s m args below meth c H1 locs1 (cells + 8) (slots + 48) Q (F0 m 2372 ls1 [])) : W p l e room_1 s m args below meth c H locs cells slots Q (F0 m 2262 ls []) := by
  obtain ⟨hx, hb, -⟩ := id X
  obtain ⟨a, ha, hq⟩ := o_b hq
  obtain ⟨b9, hb9, hq⟩ := o_b hq
  refine lv_aload_n hx hb dL_law_2262 rfl (lv_at hl 1 rfl) ?_
  refine ll_lb X hs hW.2.2 (lv_at hl 0 rfl) (lv_at hl 5 rfl) 1 (by decide) (Nat.lt_of_lt_of_le (Nat.add_lt_add_left (by decide) k) hk) dL_law_2263 dL_law_2264 dL_law_2266 dL_law_2267 dL_law_2268 dL_law_2269 dL_law_2272 dL_law_2273 dL_law_2276 ?_
  refine ll_x X (z := z) (As := [.int (qB (xs (k + 1)))]) (rest := []) (st1 := [.int a.1]) (K6_write D g x l α.1 α.2.1 z.1 (qB (xs (k + 1))) a ha) mw_X6_write ml_L_265 rfl ⟨(Nat.le_of_ble_eq_true rfl), (Nat.le_of_ble_eq_true rfl)⟩ hW rfl hl.1 rfl (Nat.le_of_ble_eq_true rfl) dL_law_2277 hcs rfl (fun H locs hW => ?_)
  refine lv_aload_n hx hb dL_law_2280 rfl (lv_at hl 2 rfl) ?_
  refine ll_lb X hs hW.2.2 (lv_at hl 0 rfl) (lv_at hl 5 rfl) 1 (by decide) (Nat.lt_of_lt_of_le (Nat.add_lt_add_left (by decide) k) hk) dL_law_2281 dL_law_2282 dL_law_2284 dL_law_2285 dL_law_2286 dL_law_2287 dL_law_2290 dL_law_2291 dL_law_2294 ?_
  refine ll_m X (z := (a.2, z.2)) (As := [.int (qB (xs (k + 1)))]) (rest := [.int a.1]) (st1 := [.int b9.1, .int a.1]) (K7_write D g x l α.2.2.1 z.2.1 (qB (xs (k + 1))) b9 hb9) mw_X7_write ml_L_268 rfl ⟨(Nat.le_of_ble_eq_true rfl), (Nat.le_of_ble_eq_true rfl)⟩ hW rfl hl.1 rfl (Nat.le_of_ble_eq_true rfl) dL_law_2295 ⟨Nat.le_trans (Nat.le_add_right cells 8) hcs.1, Nat.le_trans (Nat.le_add_right slots 48) hcs.2⟩ rfl (fun H locs hW => ?_)
  obtain ⟨hv, hq⟩ := o_y hq
  refine lv_icmp_eq (tgt := 2372) hx hb dL_law_2298 (by decide) (fun _ => ?_) (fun w => absurd hv w)
  cases hq
  exact W.widen (Nat.le_add_right cells 8) (Nat.le_add_right slots 48) (kk _ _ _ hW hl)
theorem ll_c41 (X : Cx p s m args meth c RL cL_law 9 ret0 D g x A) (hs : Scr9 b L xs s A) (hW : LLP D g α A s z H locs) (hl : lv_has ls 9 (lvB b α k)) (hk : k + 6 ≤ L) (hcs : cells + 8 ≤ 601024 ∧ slots + 48 ≤ 7293034) (hq : q_41 (fun j => xs (k + j)) z = some z1)
    (kk : ∀ (H1 : Heap) (locs1 : List Loc) (ls1 : Array Slot), LLP D g α A s z1 H1 locs1 → lv_has ls1 9 (lvB b α k) → W p l e room_1 s m args below meth c H1 locs1 (cells + 8) (slots + 48) Q (F0 m 2372 ls1 [])) : W p l e room_1 s m args below meth c H locs cells slots Q (F0 m 2303 ls []) := by
  obtain ⟨hx, hb, -⟩ := id X
  obtain ⟨a, ha, hq⟩ := o_b hq
  obtain ⟨b9, hb9, hq⟩ := o_b hq
  refine lv_aload_n hx hb dL_law_2303 rfl (lv_at hl 1 rfl) ?_
  refine ll_x X (z := z) (As := []) (rest := []) (st1 := [.int a.1]) (K6_writeValues D g x l α.1 α.2.1 z.1  a ha) mw_X6_writeValues ml_L_269 rfl ⟨(Nat.le_of_ble_eq_true rfl), (Nat.le_of_ble_eq_true rfl)⟩ hW rfl hl.1 rfl (Nat.le_of_ble_eq_true rfl) dL_law_2304 hcs rfl (fun H locs hW => ?_)
  refine lv_aload_n hx hb dL_law_2307 rfl (lv_at hl 2 rfl) ?_
  refine ll_m X (z := (a.2, z.2)) (As := []) (rest := [.int a.1]) (st1 := [.int b9.1, .int a.1]) (K7_writeValues D g x l α.2.2.1 z.2.1  b9 hb9) mw_X7_writeValues ml_L_272 rfl ⟨(Nat.le_of_ble_eq_true rfl), (Nat.le_of_ble_eq_true rfl)⟩ hW rfl hl.1 rfl (Nat.le_of_ble_eq_true rfl) dL_law_2308 ⟨Nat.le_trans (Nat.le_add_right cells 8) hcs.1, Nat.le_trans (Nat.le_add_right slots 48) hcs.2⟩ rfl (fun H locs hW => ?_)
  obtain ⟨hv, hq⟩ := o_y hq
  refine lv_icmp_eq (tgt := 2372) hx hb dL_law_2311 (by decide) (fun _ => ?_) (fun w => absurd hv w)
  cases hq
  exact W.widen (Nat.le_add_right cells 8) (Nat.le_add_right slots 48) (kk _ _ _ hW hl)
theorem ll_c42 (X : Cx p s m args meth c RL cL_law 9 ret0 D g x A) (hs : Scr9 b L xs s A) (hl0 : l.stackTraces = false) (hW : LLP D g α A s z H locs) (hl : lv_has ls 9 (lvB b α k)) (hk : k + 6 ≤ L) (hcs : cells + 8 ≤ 601024 ∧ slots + 48 ≤ 7293034) (hq : q_42 (fun j => xs (k + j)) z = some z1)
    (kk : ∀ (H1 : Heap) (locs1 : List Loc) (ls1 : Array Slot), LLP D g α A s z1 H1 locs1 → lv_has ls1 9 (lvB b α k) → W p l e room_1 s m args below meth c H1 locs1 (cells + 8) (slots + 48) Q (F0 m 2372 ls1 [])) : W p l e room_1 s m args below meth c H locs cells slots Q (F0 m 2316 ls []) := by
  obtain ⟨hx, hb, -⟩ := id X
  obtain ⟨a, ha, hq⟩ := o_b hq
  obtain ⟨b9, hb9, hq⟩ := o_b hq
  refine lv_aload_n hx hb dL_law_2316 rfl (lv_at hl 1 rfl) ?_
  refine ll_ld X hs hW.2.2 (lv_at hl 0 rfl) (lv_at hl 5 rfl) 1 (by decide) (Nat.lt_of_lt_of_le (Nat.add_lt_add_left (by decide) k) hk) dL_law_2317 dL_law_2318 dL_law_2320 dL_law_2321 dL_law_2322 ?_
  refine lv_aload_n hx hb dL_law_2323 rfl (lv_at hl 3 rfl) ?_
  refine ll_h X (z := z) (As := [.ref (α.1 0), .int (xs (k + 1)), .ref α.2.2.2.1]) (H_written D g x l hl0 α.1 α.2.1 α.2.2.2.1 z.1 (xs (k + 1)) z.2.2.1 a ha) mh_written ml_L_273 ⟨(Nat.le_of_ble_eq_true rfl), (Nat.le_of_ble_eq_true rfl)⟩ (Nat.le_of_ble_eq_true rfl) hW rfl hl.1 rfl dL_law_2324 hcs (fun H locs hW => ?_)
  refine lv_istore (lv' := (6, .int a.1) :: lvB b α k) hx hb dL_law_2327 hl (by decide) rfl (fun ls hl => ?_)
  refine lv_aload_n hx hb dL_law_2329 rfl (lv_at hl 3 rfl) ?_
  refine ll_ld X hs hW.2.2 (lv_at hl 1 rfl) (lv_at hl 6 rfl) 1 (by decide) (Nat.lt_of_lt_of_le (Nat.add_lt_add_left (by decide) k) hk) dL_law_2330 dL_law_2331 dL_law_2333 dL_law_2334 dL_law_2335 ?_
  refine ll_m X (z := (a.2.1, z.2.1, a.2.2, z.2.2.2)) (As := [.int (xs (k + 1))]) (rest := []) (st1 := [.int b9.1]) (K7_written D g x l α.2.2.1 z.2.1 (xs (k + 1)) b9 hb9) mw_X7_written ml_L_275 rfl ⟨(Nat.le_of_ble_eq_true rfl), (Nat.le_of_ble_eq_true rfl)⟩ hW rfl hl.1 rfl (Nat.le_of_ble_eq_true rfl) dL_law_2336 hcs rfl (fun H locs hW => ?_)
  refine lv_istore (lv' := (7, .int b9.1) :: (6, .int a.1) :: lvB b α k) hx hb dL_law_2339 hl (by decide) rfl (fun ls hl => ?_)
  exact ll_tI X (z := (a.2.1, b9.2, a.2.2, z.2.2.2)) hW hl hcs hq (by decide) dL_law_2341 dL_law_2342 dL_law_2345 dL_law_2347 dL_law_2352 dL_law_2354 dL_law_2357 dL_law_2358 dL_law_2359 dL_law_2360 dL_law_2362 dL_law_2363 dL_law_2364 dL_law_2369 (fun H locs hW => kk _ _ _ hW (lv_sub hl [2, 3, 4, 5, 6, 7] rfl))
end LAWK
