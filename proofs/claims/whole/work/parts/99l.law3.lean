/-! The law, case by case. -/
section LW2
variable {S : mS} {I : mI} {L : mL} {R : mR} {Q : mQ} {d x b i Lx bc bs : Nat} {xs : Nat → Int32}
theorem lc_40 (hI : INV x b xs S I L R) (hb : kd S b = 110) (hn : ln S b = Lx) (hi : i + 6 ≤ Lx) (hL : Lx ≤ 384) (go : ∀ I' L' R', INV x b xs S I' L' R' → WP (d + 41, bc, bs) 0 2187 [some (.ref b), some (.ref x), some (.ref (x + 163)), some (.int (nI i))] [] S I' L' R' Q) : WP (d + 41, bc, bs) 0 1693 [some (.ref b), some (.ref x), some (.ref (x + 163)), some (.int (nI i))] [] S I L R Q := by
  obtain ⟨A, hA⟩ := id hI
  have hs : I b = xs := hA.scr
  have k0 : kd S x = 0 := hA.c.k0
  have k12 : kd S (x + 163) = 12 := md_k hA.m
  have v1 : vp_in (nI (i + 1)) (ln S b) := by rw [hn]; exact of_eq_true (vin (by omega) (by omega))
  have v2 : vp_in (nI (i + 2)) (ln S b) := by rw [hn]; exact of_eq_true (vin (by omega) (by omega))
  have v3 : vp_in (nI (i + 3)) (ln S b) := by rw [hn]; exact of_eq_true (vin (by omega) (by omega))
  have v4 : vp_in (nI (i + 4)) (ln S b) := by rw [hn]; exact of_eq_true (vin (by omega) (by omega))
  have v5 : vp_in (nI (i + 5)) (ln S b) := by rw [hn]; exact of_eq_true (vin (by omega) (by omega))
  simp (disch := first | assumption | exact cw0 | omega | (simp only [cw_nil, cw_int, cw_ref, cw_long]; omega) | decide) only [x_0_1693, x_0_1694, x_0_1695, x_0_1696, x_0_1697, x_0_1698, x_0_1699, x_0_1700, x_0_1701, x_0_1702, x_0_1703, x_0_1704, x_0_1705, x_0_1706, x_0_1707, x_0_1708, x_0_1712, x_0_1713, x_0_1714, x_0_1715, x_0_1716, x_0_1717, x_0_1718, x_0_1719, x_0_1720, x_0_1721, x_0_1722, x_0_1723, x_0_1724, x_0_1725, x_0_1726, x_0_1727, x_0_1728, x_0_1731, x_0_1734, x_0_1735, ↓reduceIte, va_rf_some, cw_nil, cw_int, cw_ref, cw_long, kl_int, kl_ref, kl_null, kl_long, kl_none, Option.toList_some, Option.toList_none, List.cons_append, List.nil_append, List.append_nil, nI_add, nI_clamp, nI_ltI, nI_leI, nI_eq, Nat.reduceLT, Nat.reduceLeDiff, Nat.reduceEqDiff, Nat.reduceAdd, Nat.reduceMul, Nat.reduceSub, if_true, if_false, not_true, not_false_eq_true, decide_true, decide_false, Nat.lt_irrefl, Nat.le_refl, Nat.not_lt_zero, Nat.zero_le, hs]
  rw [x_0_1709 k0 (by simp only [cw_ref, cw_int, cw_long, cw_nil, Option.toList_some, List.cons_append, List.nil_append]; omega)]
  refine CA_mono (CA_rt (sim_soonestAt d x b xs S I L R hI)) ?_
  rintro v S1 I1 L1 R1 ⟨⟨rfl, h1, h2⟩, hr, -⟩
  obtain ⟨u, rfl⟩ := hr (Or.inl ht_51)
  simp (disch := first | assumption | exact cw0 | omega | (simp only [cw_nil, cw_int, cw_ref, cw_long]; omega) | decide) only [x_0_1693, x_0_1694, x_0_1695, x_0_1696, x_0_1697, x_0_1698, x_0_1699, x_0_1700, x_0_1701, x_0_1702, x_0_1703, x_0_1704, x_0_1705, x_0_1706, x_0_1707, x_0_1708, x_0_1712, x_0_1713, x_0_1714, x_0_1715, x_0_1716, x_0_1717, x_0_1718, x_0_1719, x_0_1720, x_0_1721, x_0_1722, x_0_1723, x_0_1724, x_0_1725, x_0_1726, x_0_1727, x_0_1731, x_0_1734, x_0_1735, ↓reduceIte, va_rf_some, cw_nil, cw_int, cw_ref, cw_long, kl_int, kl_ref, kl_null, kl_long, kl_none, Option.toList_some, Option.toList_none, List.cons_append, List.nil_append, List.append_nil, nI_add, nI_clamp, nI_ltI, nI_leI, nI_eq, Nat.reduceLT, Nat.reduceLeDiff, Nat.reduceEqDiff, Nat.reduceAdd, Nat.reduceMul, Nat.reduceSub, if_true, if_false, not_true, not_false_eq_true, decide_true, decide_false, Nat.lt_irrefl, Nat.le_refl, Nat.not_lt_zero, Nat.zero_le, h1]
  rw [x_0_1728 k12 (by simp only [cw_ref, cw_int, cw_long, cw_nil, Option.toList_some, List.cons_append, List.nil_append]; omega)]
  refine CA_mono h2 ?_
  rintro w S2 I2 L2 R2 ⟨rfl, rfl, hI2⟩
  simp (disch := first | assumption | exact cw0 | omega | (simp only [cw_nil, cw_int, cw_ref, cw_long]; omega) | decide) only [x_0_1693, x_0_1694, x_0_1695, x_0_1696, x_0_1697, x_0_1698, x_0_1699, x_0_1700, x_0_1701, x_0_1702, x_0_1703, x_0_1704, x_0_1705, x_0_1706, x_0_1707, x_0_1708, x_0_1712, x_0_1713, x_0_1714, x_0_1715, x_0_1716, x_0_1717, x_0_1718, x_0_1719, x_0_1720, x_0_1721, x_0_1722, x_0_1723, x_0_1724, x_0_1725, x_0_1726, x_0_1727, x_0_1731, x_0_1734, x_0_1735, ↓reduceIte, va_rf_some, cw_nil, cw_int, cw_ref, cw_long, kl_int, kl_ref, kl_null, kl_long, kl_none, Option.toList_some, Option.toList_none, List.cons_append, List.nil_append, List.append_nil, nI_add, nI_clamp, nI_ltI, nI_leI, nI_eq, Nat.reduceLT, Nat.reduceLeDiff, Nat.reduceEqDiff, Nat.reduceAdd, Nat.reduceMul, Nat.reduceSub, if_true, if_false, not_true, not_false_eq_true, decide_true, decide_false, Nat.lt_irrefl, Nat.le_refl, Nat.not_lt_zero, Nat.zero_le, eq_self]
  exact go I2 L2 R2 hI2
theorem lc_41 (hI : INV x b xs S I L R) (hb : kd S b = 110) (hn : ln S b = Lx) (hi : i + 6 ≤ Lx) (hL : Lx ≤ 384) (go : ∀ I' L' R', INV x b xs S I' L' R' → WP (d + 41, bc, bs) 0 2187 [some (.ref b), some (.ref x), some (.ref (x + 163)), some (.int (nI i))] [] S I' L' R' Q) : WP (d + 41, bc, bs) 0 1736 [some (.ref b), some (.ref x), some (.ref (x + 163)), some (.int (nI i))] [] S I L R Q := by
  obtain ⟨A, hA⟩ := id hI
  have hs : I b = xs := hA.scr
  have k0 : kd S x = 0 := hA.c.k0
  have k12 : kd S (x + 163) = 12 := md_k hA.m
  have v1 : vp_in (nI (i + 1)) (ln S b) := by rw [hn]; exact of_eq_true (vin (by omega) (by omega))
  have v2 : vp_in (nI (i + 2)) (ln S b) := by rw [hn]; exact of_eq_true (vin (by omega) (by omega))
  have v3 : vp_in (nI (i + 3)) (ln S b) := by rw [hn]; exact of_eq_true (vin (by omega) (by omega))
  have v4 : vp_in (nI (i + 4)) (ln S b) := by rw [hn]; exact of_eq_true (vin (by omega) (by omega))
  have v5 : vp_in (nI (i + 5)) (ln S b) := by rw [hn]; exact of_eq_true (vin (by omega) (by omega))
  simp (disch := first | assumption | exact cw0 | omega | (simp only [cw_nil, cw_int, cw_ref, cw_long]; omega) | decide) only [x_0_1736, x_0_1737, x_0_1738, x_0_1739, x_0_1740, x_0_1741, x_0_1742, x_0_1743, x_0_1744, x_0_1745, x_0_1746, x_0_1750, x_0_1751, x_0_1752, x_0_1753, x_0_1754, x_0_1755, x_0_1756, x_0_1757, x_0_1758, x_0_1759, x_0_1760, x_0_1761, x_0_1764, x_0_1767, x_0_1768, ↓reduceIte, va_rf_some, cw_nil, cw_int, cw_ref, cw_long, kl_int, kl_ref, kl_null, kl_long, kl_none, Option.toList_some, Option.toList_none, List.cons_append, List.nil_append, List.append_nil, nI_add, nI_clamp, nI_ltI, nI_leI, nI_eq, Nat.reduceLT, Nat.reduceLeDiff, Nat.reduceEqDiff, Nat.reduceAdd, Nat.reduceMul, Nat.reduceSub, if_true, if_false, not_true, not_false_eq_true, decide_true, decide_false, Nat.lt_irrefl, Nat.le_refl, Nat.not_lt_zero, Nat.zero_le, hs]
  rw [x_0_1747 k0 (by simp only [cw_ref, cw_int, cw_long, cw_nil, Option.toList_some, List.cons_append, List.nil_append]; omega)]
  refine CA_mono (CA_rt (sim_sparing d x b xs S I L R hI)) ?_
  rintro v S1 I1 L1 R1 ⟨⟨rfl, h1, h2⟩, hr, -⟩
  obtain ⟨u, rfl⟩ := hr (Or.inl ht_55)
  simp (disch := first | assumption | exact cw0 | omega | (simp only [cw_nil, cw_int, cw_ref, cw_long]; omega) | decide) only [x_0_1736, x_0_1737, x_0_1738, x_0_1739, x_0_1740, x_0_1741, x_0_1742, x_0_1743, x_0_1744, x_0_1745, x_0_1746, x_0_1750, x_0_1751, x_0_1752, x_0_1753, x_0_1754, x_0_1755, x_0_1756, x_0_1757, x_0_1758, x_0_1759, x_0_1760, x_0_1764, x_0_1767, x_0_1768, ↓reduceIte, va_rf_some, cw_nil, cw_int, cw_ref, cw_long, kl_int, kl_ref, kl_null, kl_long, kl_none, Option.toList_some, Option.toList_none, List.cons_append, List.nil_append, List.append_nil, nI_add, nI_clamp, nI_ltI, nI_leI, nI_eq, Nat.reduceLT, Nat.reduceLeDiff, Nat.reduceEqDiff, Nat.reduceAdd, Nat.reduceMul, Nat.reduceSub, if_true, if_false, not_true, not_false_eq_true, decide_true, decide_false, Nat.lt_irrefl, Nat.le_refl, Nat.not_lt_zero, Nat.zero_le, h1]
  rw [x_0_1761 k12 (by simp only [cw_ref, cw_int, cw_long, cw_nil, Option.toList_some, List.cons_append, List.nil_append]; omega)]
  refine CA_mono h2 ?_
  rintro w S2 I2 L2 R2 ⟨rfl, rfl, hI2⟩
  simp (disch := first | assumption | exact cw0 | omega | (simp only [cw_nil, cw_int, cw_ref, cw_long]; omega) | decide) only [x_0_1736, x_0_1737, x_0_1738, x_0_1739, x_0_1740, x_0_1741, x_0_1742, x_0_1743, x_0_1744, x_0_1745, x_0_1746, x_0_1750, x_0_1751, x_0_1752, x_0_1753, x_0_1754, x_0_1755, x_0_1756, x_0_1757, x_0_1758, x_0_1759, x_0_1760, x_0_1764, x_0_1767, x_0_1768, ↓reduceIte, va_rf_some, cw_nil, cw_int, cw_ref, cw_long, kl_int, kl_ref, kl_null, kl_long, kl_none, Option.toList_some, Option.toList_none, List.cons_append, List.nil_append, List.append_nil, nI_add, nI_clamp, nI_ltI, nI_leI, nI_eq, Nat.reduceLT, Nat.reduceLeDiff, Nat.reduceEqDiff, Nat.reduceAdd, Nat.reduceMul, Nat.reduceSub, if_true, if_false, not_true, not_false_eq_true, decide_true, decide_false, Nat.lt_irrefl, Nat.le_refl, Nat.not_lt_zero, Nat.zero_le, eq_self]
  exact go I2 L2 R2 hI2
theorem lc_42 (hI : INV x b xs S I L R) (hb : kd S b = 110) (hn : ln S b = Lx) (hi : i + 6 ≤ Lx) (hL : Lx ≤ 384) (go : ∀ I' L' R', INV x b xs S I' L' R' → WP (d + 41, bc, bs) 0 2187 [some (.ref b), some (.ref x), some (.ref (x + 163)), some (.int (nI i))] [] S I' L' R' Q) : WP (d + 41, bc, bs) 0 1769 [some (.ref b), some (.ref x), some (.ref (x + 163)), some (.int (nI i))] [] S I L R Q := by
  obtain ⟨A, hA⟩ := id hI
  have hs : I b = xs := hA.scr
  have k0 : kd S x = 0 := hA.c.k0
  have k12 : kd S (x + 163) = 12 := md_k hA.m
  have v1 : vp_in (nI (i + 1)) (ln S b) := by rw [hn]; exact of_eq_true (vin (by omega) (by omega))
  have v2 : vp_in (nI (i + 2)) (ln S b) := by rw [hn]; exact of_eq_true (vin (by omega) (by omega))
  have v3 : vp_in (nI (i + 3)) (ln S b) := by rw [hn]; exact of_eq_true (vin (by omega) (by omega))
  have v4 : vp_in (nI (i + 4)) (ln S b) := by rw [hn]; exact of_eq_true (vin (by omega) (by omega))
  have v5 : vp_in (nI (i + 5)) (ln S b) := by rw [hn]; exact of_eq_true (vin (by omega) (by omega))
  simp (disch := first | assumption | exact cw0 | omega | (simp only [cw_nil, cw_int, cw_ref, cw_long]; omega) | decide) only [x_0_1769, x_0_1770, x_0_1771, x_0_1772, x_0_1773, x_0_1774, x_0_1775, x_0_1776, x_0_1777, x_0_1778, x_0_1779, x_0_1780, x_0_1781, x_0_1782, x_0_1783, x_0_1784, x_0_1788, x_0_1789, x_0_1790, x_0_1791, x_0_1792, x_0_1793, x_0_1794, x_0_1795, x_0_1796, x_0_1797, x_0_1798, x_0_1799, x_0_1800, x_0_1801, x_0_1802, x_0_1803, x_0_1804, x_0_1807, x_0_1810, x_0_1811, ↓reduceIte, va_rf_some, cw_nil, cw_int, cw_ref, cw_long, kl_int, kl_ref, kl_null, kl_long, kl_none, Option.toList_some, Option.toList_none, List.cons_append, List.nil_append, List.append_nil, nI_add, nI_clamp, nI_ltI, nI_leI, nI_eq, Nat.reduceLT, Nat.reduceLeDiff, Nat.reduceEqDiff, Nat.reduceAdd, Nat.reduceMul, Nat.reduceSub, if_true, if_false, not_true, not_false_eq_true, decide_true, decide_false, Nat.lt_irrefl, Nat.le_refl, Nat.not_lt_zero, Nat.zero_le, hs]
  rw [x_0_1785 k0 (by simp only [cw_ref, cw_int, cw_long, cw_nil, Option.toList_some, List.cons_append, List.nil_append]; omega)]
  refine CA_mono (CA_rt (sim_sparingAt d x b xs S I L R hI)) ?_
  rintro v S1 I1 L1 R1 ⟨⟨rfl, h1, h2⟩, hr, -⟩
  obtain ⟨u, rfl⟩ := hr (Or.inl ht_56)
  simp (disch := first | assumption | exact cw0 | omega | (simp only [cw_nil, cw_int, cw_ref, cw_long]; omega) | decide) only [x_0_1769, x_0_1770, x_0_1771, x_0_1772, x_0_1773, x_0_1774, x_0_1775, x_0_1776, x_0_1777, x_0_1778, x_0_1779, x_0_1780, x_0_1781, x_0_1782, x_0_1783, x_0_1784, x_0_1788, x_0_1789, x_0_1790, x_0_1791, x_0_1792, x_0_1793, x_0_1794, x_0_1795, x_0_1796, x_0_1797, x_0_1798, x_0_1799, x_0_1800, x_0_1801, x_0_1802, x_0_1803, x_0_1807, x_0_1810, x_0_1811, ↓reduceIte, va_rf_some, cw_nil, cw_int, cw_ref, cw_long, kl_int, kl_ref, kl_null, kl_long, kl_none, Option.toList_some, Option.toList_none, List.cons_append, List.nil_append, List.append_nil, nI_add, nI_clamp, nI_ltI, nI_leI, nI_eq, Nat.reduceLT, Nat.reduceLeDiff, Nat.reduceEqDiff, Nat.reduceAdd, Nat.reduceMul, Nat.reduceSub, if_true, if_false, not_true, not_false_eq_true, decide_true, decide_false, Nat.lt_irrefl, Nat.le_refl, Nat.not_lt_zero, Nat.zero_le, h1]
  rw [x_0_1804 k12 (by simp only [cw_ref, cw_int, cw_long, cw_nil, Option.toList_some, List.cons_append, List.nil_append]; omega)]
  refine CA_mono h2 ?_
  rintro w S2 I2 L2 R2 ⟨rfl, rfl, hI2⟩
  simp (disch := first | assumption | exact cw0 | omega | (simp only [cw_nil, cw_int, cw_ref, cw_long]; omega) | decide) only [x_0_1769, x_0_1770, x_0_1771, x_0_1772, x_0_1773, x_0_1774, x_0_1775, x_0_1776, x_0_1777, x_0_1778, x_0_1779, x_0_1780, x_0_1781, x_0_1782, x_0_1783, x_0_1784, x_0_1788, x_0_1789, x_0_1790, x_0_1791, x_0_1792, x_0_1793, x_0_1794, x_0_1795, x_0_1796, x_0_1797, x_0_1798, x_0_1799, x_0_1800, x_0_1801, x_0_1802, x_0_1803, x_0_1807, x_0_1810, x_0_1811, ↓reduceIte, va_rf_some, cw_nil, cw_int, cw_ref, cw_long, kl_int, kl_ref, kl_null, kl_long, kl_none, Option.toList_some, Option.toList_none, List.cons_append, List.nil_append, List.append_nil, nI_add, nI_clamp, nI_ltI, nI_leI, nI_eq, Nat.reduceLT, Nat.reduceLeDiff, Nat.reduceEqDiff, Nat.reduceAdd, Nat.reduceMul, Nat.reduceSub, if_true, if_false, not_true, not_false_eq_true, decide_true, decide_false, Nat.lt_irrefl, Nat.le_refl, Nat.not_lt_zero, Nat.zero_le, eq_self]
  exact go I2 L2 R2 hI2
theorem lc_43 (hI : INV x b xs S I L R) (hb : kd S b = 110) (hn : ln S b = Lx) (hi : i + 6 ≤ Lx) (hL : Lx ≤ 384) (go : ∀ I' L' R', INV x b xs S I' L' R' → WP (d + 41, bc, bs) 0 2187 [some (.ref b), some (.ref x), some (.ref (x + 163)), some (.int (nI i))] [] S I' L' R' Q) : WP (d + 41, bc, bs) 0 1812 [some (.ref b), some (.ref x), some (.ref (x + 163)), some (.int (nI i))] [] S I L R Q := by
  obtain ⟨A, hA⟩ := id hI
  have hs : I b = xs := hA.scr
  have k0 : kd S x = 0 := hA.c.k0
  have k12 : kd S (x + 163) = 12 := md_k hA.m
  have v1 : vp_in (nI (i + 1)) (ln S b) := by rw [hn]; exact of_eq_true (vin (by omega) (by omega))
  have v2 : vp_in (nI (i + 2)) (ln S b) := by rw [hn]; exact of_eq_true (vin (by omega) (by omega))
  have v3 : vp_in (nI (i + 3)) (ln S b) := by rw [hn]; exact of_eq_true (vin (by omega) (by omega))
  have v4 : vp_in (nI (i + 4)) (ln S b) := by rw [hn]; exact of_eq_true (vin (by omega) (by omega))
  have v5 : vp_in (nI (i + 5)) (ln S b) := by rw [hn]; exact of_eq_true (vin (by omega) (by omega))
  simp (disch := first | assumption | exact cw0 | omega | (simp only [cw_nil, cw_int, cw_ref, cw_long]; omega) | decide) only [x_0_1812, x_0_1813, x_0_1814, x_0_1815, x_0_1816, x_0_1817, x_0_1821, x_0_1822, x_0_1823, x_0_1824, x_0_1825, x_0_1826, x_0_1827, x_0_1830, x_0_1833, x_0_1834, ↓reduceIte, va_rf_some, cw_nil, cw_int, cw_ref, cw_long, kl_int, kl_ref, kl_null, kl_long, kl_none, Option.toList_some, Option.toList_none, List.cons_append, List.nil_append, List.append_nil, nI_add, nI_clamp, nI_ltI, nI_leI, nI_eq, Nat.reduceLT, Nat.reduceLeDiff, Nat.reduceEqDiff, Nat.reduceAdd, Nat.reduceMul, Nat.reduceSub, if_true, if_false, not_true, not_false_eq_true, decide_true, decide_false, Nat.lt_irrefl, Nat.le_refl, Nat.not_lt_zero, Nat.zero_le, hs]
  rw [x_0_1818 k0 (by simp only [cw_ref, cw_int, cw_long, cw_nil, Option.toList_some, List.cons_append, List.nil_append]; omega)]
  refine CA_mono (CA_rt (sim_planks d x b xs S I L R hI)) ?_
  rintro v S1 I1 L1 R1 ⟨⟨rfl, h1, h2⟩, hr, -⟩
  obtain ⟨u, rfl⟩ := hr (Or.inl ht_57)
  simp (disch := first | assumption | exact cw0 | omega | (simp only [cw_nil, cw_int, cw_ref, cw_long]; omega) | decide) only [x_0_1812, x_0_1813, x_0_1814, x_0_1815, x_0_1816, x_0_1817, x_0_1821, x_0_1822, x_0_1823, x_0_1824, x_0_1825, x_0_1826, x_0_1830, x_0_1833, x_0_1834, ↓reduceIte, va_rf_some, cw_nil, cw_int, cw_ref, cw_long, kl_int, kl_ref, kl_null, kl_long, kl_none, Option.toList_some, Option.toList_none, List.cons_append, List.nil_append, List.append_nil, nI_add, nI_clamp, nI_ltI, nI_leI, nI_eq, Nat.reduceLT, Nat.reduceLeDiff, Nat.reduceEqDiff, Nat.reduceAdd, Nat.reduceMul, Nat.reduceSub, if_true, if_false, not_true, not_false_eq_true, decide_true, decide_false, Nat.lt_irrefl, Nat.le_refl, Nat.not_lt_zero, Nat.zero_le, h1]
  rw [x_0_1827 k12 (by simp only [cw_ref, cw_int, cw_long, cw_nil, Option.toList_some, List.cons_append, List.nil_append]; omega)]
  refine CA_mono h2 ?_
  rintro w S2 I2 L2 R2 ⟨rfl, rfl, hI2⟩
  simp (disch := first | assumption | exact cw0 | omega | (simp only [cw_nil, cw_int, cw_ref, cw_long]; omega) | decide) only [x_0_1812, x_0_1813, x_0_1814, x_0_1815, x_0_1816, x_0_1817, x_0_1821, x_0_1822, x_0_1823, x_0_1824, x_0_1825, x_0_1826, x_0_1830, x_0_1833, x_0_1834, ↓reduceIte, va_rf_some, cw_nil, cw_int, cw_ref, cw_long, kl_int, kl_ref, kl_null, kl_long, kl_none, Option.toList_some, Option.toList_none, List.cons_append, List.nil_append, List.append_nil, nI_add, nI_clamp, nI_ltI, nI_leI, nI_eq, Nat.reduceLT, Nat.reduceLeDiff, Nat.reduceEqDiff, Nat.reduceAdd, Nat.reduceMul, Nat.reduceSub, if_true, if_false, not_true, not_false_eq_true, decide_true, decide_false, Nat.lt_irrefl, Nat.le_refl, Nat.not_lt_zero, Nat.zero_le, eq_self]
  exact go I2 L2 R2 hI2
theorem lc_44 (hI : INV x b xs S I L R) (hb : kd S b = 110) (hn : ln S b = Lx) (hi : i + 6 ≤ Lx) (hL : Lx ≤ 384) (go : ∀ I' L' R', INV x b xs S I' L' R' → WP (d + 41, bc, bs) 0 2187 [some (.ref b), some (.ref x), some (.ref (x + 163)), some (.int (nI i))] [] S I' L' R' Q) : WP (d + 41, bc, bs) 0 1835 [some (.ref b), some (.ref x), some (.ref (x + 163)), some (.int (nI i))] [] S I L R Q := by
  obtain ⟨A, hA⟩ := id hI
  have hs : I b = xs := hA.scr
  have k0 : kd S x = 0 := hA.c.k0
  have k12 : kd S (x + 163) = 12 := md_k hA.m
  have v1 : vp_in (nI (i + 1)) (ln S b) := by rw [hn]; exact of_eq_true (vin (by omega) (by omega))
  have v2 : vp_in (nI (i + 2)) (ln S b) := by rw [hn]; exact of_eq_true (vin (by omega) (by omega))
  have v3 : vp_in (nI (i + 3)) (ln S b) := by rw [hn]; exact of_eq_true (vin (by omega) (by omega))
  have v4 : vp_in (nI (i + 4)) (ln S b) := by rw [hn]; exact of_eq_true (vin (by omega) (by omega))
  have v5 : vp_in (nI (i + 5)) (ln S b) := by rw [hn]; exact of_eq_true (vin (by omega) (by omega))
  simp (disch := first | assumption | exact cw0 | omega | (simp only [cw_nil, cw_int, cw_ref, cw_long]; omega) | decide) only [x_0_1835, x_0_1839, x_0_1840, x_0_1843, x_0_1846, x_0_1847, ↓reduceIte, va_rf_some, cw_nil, cw_int, cw_ref, cw_long, kl_int, kl_ref, kl_null, kl_long, kl_none, Option.toList_some, Option.toList_none, List.cons_append, List.nil_append, List.append_nil, nI_add, nI_clamp, nI_ltI, nI_leI, nI_eq, Nat.reduceLT, Nat.reduceLeDiff, Nat.reduceEqDiff, Nat.reduceAdd, Nat.reduceMul, Nat.reduceSub, if_true, if_false, not_true, not_false_eq_true, decide_true, decide_false, Nat.lt_irrefl, Nat.le_refl, Nat.not_lt_zero, Nat.zero_le, hs]
  rw [x_0_1836 k0 (by simp only [cw_ref, cw_int, cw_long, cw_nil, Option.toList_some, List.cons_append, List.nil_append]; omega)]
  refine CA_mono (CA_rt (sim_mostPlanks d x b xs S I L R hI)) ?_
  rintro v S1 I1 L1 R1 ⟨⟨rfl, h1, h2⟩, hr, -⟩
  obtain ⟨u, rfl⟩ := hr (Or.inl ht_58)
  simp (disch := first | assumption | exact cw0 | omega | (simp only [cw_nil, cw_int, cw_ref, cw_long]; omega) | decide) only [x_0_1835, x_0_1839, x_0_1843, x_0_1846, x_0_1847, ↓reduceIte, va_rf_some, cw_nil, cw_int, cw_ref, cw_long, kl_int, kl_ref, kl_null, kl_long, kl_none, Option.toList_some, Option.toList_none, List.cons_append, List.nil_append, List.append_nil, nI_add, nI_clamp, nI_ltI, nI_leI, nI_eq, Nat.reduceLT, Nat.reduceLeDiff, Nat.reduceEqDiff, Nat.reduceAdd, Nat.reduceMul, Nat.reduceSub, if_true, if_false, not_true, not_false_eq_true, decide_true, decide_false, Nat.lt_irrefl, Nat.le_refl, Nat.not_lt_zero, Nat.zero_le, h1]
  rw [x_0_1840 k12 (by simp only [cw_ref, cw_int, cw_long, cw_nil, Option.toList_some, List.cons_append, List.nil_append]; omega)]
  refine CA_mono h2 ?_
  rintro w S2 I2 L2 R2 ⟨rfl, rfl, hI2⟩
  simp (disch := first | assumption | exact cw0 | omega | (simp only [cw_nil, cw_int, cw_ref, cw_long]; omega) | decide) only [x_0_1835, x_0_1839, x_0_1843, x_0_1846, x_0_1847, ↓reduceIte, va_rf_some, cw_nil, cw_int, cw_ref, cw_long, kl_int, kl_ref, kl_null, kl_long, kl_none, Option.toList_some, Option.toList_none, List.cons_append, List.nil_append, List.append_nil, nI_add, nI_clamp, nI_ltI, nI_leI, nI_eq, Nat.reduceLT, Nat.reduceLeDiff, Nat.reduceEqDiff, Nat.reduceAdd, Nat.reduceMul, Nat.reduceSub, if_true, if_false, not_true, not_false_eq_true, decide_true, decide_false, Nat.lt_irrefl, Nat.le_refl, Nat.not_lt_zero, Nat.zero_le, eq_self]
  exact go I2 L2 R2 hI2
theorem lc_45 (hI : INV x b xs S I L R) (hb : kd S b = 110) (hn : ln S b = Lx) (hi : i + 6 ≤ Lx) (hL : Lx ≤ 384) (go : ∀ I' L' R', INV x b xs S I' L' R' → WP (d + 41, bc, bs) 0 2187 [some (.ref b), some (.ref x), some (.ref (x + 163)), some (.int (nI i))] [] S I' L' R' Q) : WP (d + 41, bc, bs) 0 1848 [some (.ref b), some (.ref x), some (.ref (x + 163)), some (.int (nI i))] [] S I L R Q := by
  obtain ⟨A, hA⟩ := id hI
  have hs : I b = xs := hA.scr
  have k0 : kd S x = 0 := hA.c.k0
  have k12 : kd S (x + 163) = 12 := md_k hA.m
  have v1 : vp_in (nI (i + 1)) (ln S b) := by rw [hn]; exact of_eq_true (vin (by omega) (by omega))
  have v2 : vp_in (nI (i + 2)) (ln S b) := by rw [hn]; exact of_eq_true (vin (by omega) (by omega))
  have v3 : vp_in (nI (i + 3)) (ln S b) := by rw [hn]; exact of_eq_true (vin (by omega) (by omega))
  have v4 : vp_in (nI (i + 4)) (ln S b) := by rw [hn]; exact of_eq_true (vin (by omega) (by omega))
  have v5 : vp_in (nI (i + 5)) (ln S b) := by rw [hn]; exact of_eq_true (vin (by omega) (by omega))
  simp (disch := first | assumption | exact cw0 | omega | (simp only [cw_nil, cw_int, cw_ref, cw_long]; omega) | decide) only [x_0_1848, x_0_1849, x_0_1850, x_0_1851, x_0_1852, x_0_1853, x_0_1854, x_0_1855, x_0_1856, x_0_1857, x_0_1858, x_0_1859, x_0_1860, x_0_1861, x_0_1862, x_0_1863, x_0_1867, x_0_1868, x_0_1869, x_0_1870, x_0_1871, x_0_1872, x_0_1873, x_0_1874, x_0_1875, x_0_1876, x_0_1877, x_0_1878, x_0_1879, x_0_1880, x_0_1881, x_0_1882, x_0_1883, x_0_1886, x_0_1889, x_0_1890, ↓reduceIte, va_rf_some, cw_nil, cw_int, cw_ref, cw_long, kl_int, kl_ref, kl_null, kl_long, kl_none, Option.toList_some, Option.toList_none, List.cons_append, List.nil_append, List.append_nil, nI_add, nI_clamp, nI_ltI, nI_leI, nI_eq, Nat.reduceLT, Nat.reduceLeDiff, Nat.reduceEqDiff, Nat.reduceAdd, Nat.reduceMul, Nat.reduceSub, if_true, if_false, not_true, not_false_eq_true, decide_true, decide_false, Nat.lt_irrefl, Nat.le_refl, Nat.not_lt_zero, Nat.zero_le, hs]
  rw [x_0_1864 k0 (by simp only [cw_ref, cw_int, cw_long, cw_nil, Option.toList_some, List.cons_append, List.nil_append]; omega)]
  refine CA_mono (CA_rt (sim_race d x b xs S I L R hI)) ?_
  rintro v S1 I1 L1 R1 ⟨⟨rfl, h1, h2⟩, hr, -⟩
  obtain ⟨u, rfl⟩ := hr (Or.inl ht_59)
  simp (disch := first | assumption | exact cw0 | omega | (simp only [cw_nil, cw_int, cw_ref, cw_long]; omega) | decide) only [x_0_1848, x_0_1849, x_0_1850, x_0_1851, x_0_1852, x_0_1853, x_0_1854, x_0_1855, x_0_1856, x_0_1857, x_0_1858, x_0_1859, x_0_1860, x_0_1861, x_0_1862, x_0_1863, x_0_1867, x_0_1868, x_0_1869, x_0_1870, x_0_1871, x_0_1872, x_0_1873, x_0_1874, x_0_1875, x_0_1876, x_0_1877, x_0_1878, x_0_1879, x_0_1880, x_0_1881, x_0_1882, x_0_1886, x_0_1889, x_0_1890, ↓reduceIte, va_rf_some, cw_nil, cw_int, cw_ref, cw_long, kl_int, kl_ref, kl_null, kl_long, kl_none, Option.toList_some, Option.toList_none, List.cons_append, List.nil_append, List.append_nil, nI_add, nI_clamp, nI_ltI, nI_leI, nI_eq, Nat.reduceLT, Nat.reduceLeDiff, Nat.reduceEqDiff, Nat.reduceAdd, Nat.reduceMul, Nat.reduceSub, if_true, if_false, not_true, not_false_eq_true, decide_true, decide_false, Nat.lt_irrefl, Nat.le_refl, Nat.not_lt_zero, Nat.zero_le, h1]
  rw [x_0_1883 k12 (by simp only [cw_ref, cw_int, cw_long, cw_nil, Option.toList_some, List.cons_append, List.nil_append]; omega)]
  refine CA_mono h2 ?_
  rintro w S2 I2 L2 R2 ⟨rfl, rfl, hI2⟩
  simp (disch := first | assumption | exact cw0 | omega | (simp only [cw_nil, cw_int, cw_ref, cw_long]; omega) | decide) only [x_0_1848, x_0_1849, x_0_1850, x_0_1851, x_0_1852, x_0_1853, x_0_1854, x_0_1855, x_0_1856, x_0_1857, x_0_1858, x_0_1859, x_0_1860, x_0_1861, x_0_1862, x_0_1863, x_0_1867, x_0_1868, x_0_1869, x_0_1870, x_0_1871, x_0_1872, x_0_1873, x_0_1874, x_0_1875, x_0_1876, x_0_1877, x_0_1878, x_0_1879, x_0_1880, x_0_1881, x_0_1882, x_0_1886, x_0_1889, x_0_1890, ↓reduceIte, va_rf_some, cw_nil, cw_int, cw_ref, cw_long, kl_int, kl_ref, kl_null, kl_long, kl_none, Option.toList_some, Option.toList_none, List.cons_append, List.nil_append, List.append_nil, nI_add, nI_clamp, nI_ltI, nI_leI, nI_eq, Nat.reduceLT, Nat.reduceLeDiff, Nat.reduceEqDiff, Nat.reduceAdd, Nat.reduceMul, Nat.reduceSub, if_true, if_false, not_true, not_false_eq_true, decide_true, decide_false, Nat.lt_irrefl, Nat.le_refl, Nat.not_lt_zero, Nat.zero_le, eq_self]
  exact go I2 L2 R2 hI2
theorem lc_46 (hI : INV x b xs S I L R) (hb : kd S b = 110) (hn : ln S b = Lx) (hi : i + 6 ≤ Lx) (hL : Lx ≤ 384) (go : ∀ I' L' R', INV x b xs S I' L' R' → WP (d + 41, bc, bs) 0 2187 [some (.ref b), some (.ref x), some (.ref (x + 163)), some (.int (nI i))] [] S I' L' R' Q) : WP (d + 41, bc, bs) 0 1891 [some (.ref b), some (.ref x), some (.ref (x + 163)), some (.int (nI i))] [] S I L R Q := by
  obtain ⟨A, hA⟩ := id hI
  have hs : I b = xs := hA.scr
  have k0 : kd S x = 0 := hA.c.k0
  have k12 : kd S (x + 163) = 12 := md_k hA.m
  have v1 : vp_in (nI (i + 1)) (ln S b) := by rw [hn]; exact of_eq_true (vin (by omega) (by omega))
  have v2 : vp_in (nI (i + 2)) (ln S b) := by rw [hn]; exact of_eq_true (vin (by omega) (by omega))
  have v3 : vp_in (nI (i + 3)) (ln S b) := by rw [hn]; exact of_eq_true (vin (by omega) (by omega))
  have v4 : vp_in (nI (i + 4)) (ln S b) := by rw [hn]; exact of_eq_true (vin (by omega) (by omega))
  have v5 : vp_in (nI (i + 5)) (ln S b) := by rw [hn]; exact of_eq_true (vin (by omega) (by omega))
  simp (disch := first | assumption | exact cw0 | omega | (simp only [cw_nil, cw_int, cw_ref, cw_long]; omega) | decide) only [x_0_1891, x_0_1892, x_0_1893, x_0_1894, x_0_1895, x_0_1896, x_0_1897, x_0_1898, x_0_1899, x_0_1900, x_0_1901, x_0_1902, x_0_1903, x_0_1904, x_0_1905, x_0_1906, x_0_1907, x_0_1908, x_0_1909, x_0_1910, x_0_1911, x_0_1915, x_0_1916, x_0_1917, x_0_1918, x_0_1919, x_0_1920, x_0_1921, x_0_1922, x_0_1923, x_0_1924, x_0_1925, x_0_1926, x_0_1927, x_0_1928, x_0_1929, x_0_1930, x_0_1931, x_0_1932, x_0_1933, x_0_1934, x_0_1935, x_0_1936, x_0_1939, x_0_1942, x_0_1943, ↓reduceIte, va_rf_some, cw_nil, cw_int, cw_ref, cw_long, kl_int, kl_ref, kl_null, kl_long, kl_none, Option.toList_some, Option.toList_none, List.cons_append, List.nil_append, List.append_nil, nI_add, nI_clamp, nI_ltI, nI_leI, nI_eq, Nat.reduceLT, Nat.reduceLeDiff, Nat.reduceEqDiff, Nat.reduceAdd, Nat.reduceMul, Nat.reduceSub, if_true, if_false, not_true, not_false_eq_true, decide_true, decide_false, Nat.lt_irrefl, Nat.le_refl, Nat.not_lt_zero, Nat.zero_le, hs]
  rw [x_0_1912 k0 (by simp only [cw_ref, cw_int, cw_long, cw_nil, Option.toList_some, List.cons_append, List.nil_append]; omega)]
  refine CA_mono (CA_rt (sim_raced d x b xs S I L R hI)) ?_
  rintro v S1 I1 L1 R1 ⟨⟨rfl, h1, h2⟩, hr, -⟩
  obtain ⟨u, rfl⟩ := hr (Or.inl ht_60)
  simp (disch := first | assumption | exact cw0 | omega | (simp only [cw_nil, cw_int, cw_ref, cw_long]; omega) | decide) only [x_0_1891, x_0_1892, x_0_1893, x_0_1894, x_0_1895, x_0_1896, x_0_1897, x_0_1898, x_0_1899, x_0_1900, x_0_1901, x_0_1902, x_0_1903, x_0_1904, x_0_1905, x_0_1906, x_0_1907, x_0_1908, x_0_1909, x_0_1910, x_0_1911, x_0_1915, x_0_1916, x_0_1917, x_0_1918, x_0_1919, x_0_1920, x_0_1921, x_0_1922, x_0_1923, x_0_1924, x_0_1925, x_0_1926, x_0_1927, x_0_1928, x_0_1929, x_0_1930, x_0_1931, x_0_1932, x_0_1933, x_0_1934, x_0_1935, x_0_1939, x_0_1942, x_0_1943, ↓reduceIte, va_rf_some, cw_nil, cw_int, cw_ref, cw_long, kl_int, kl_ref, kl_null, kl_long, kl_none, Option.toList_some, Option.toList_none, List.cons_append, List.nil_append, List.append_nil, nI_add, nI_clamp, nI_ltI, nI_leI, nI_eq, Nat.reduceLT, Nat.reduceLeDiff, Nat.reduceEqDiff, Nat.reduceAdd, Nat.reduceMul, Nat.reduceSub, if_true, if_false, not_true, not_false_eq_true, decide_true, decide_false, Nat.lt_irrefl, Nat.le_refl, Nat.not_lt_zero, Nat.zero_le, h1]
  rw [x_0_1936 k12 (by simp only [cw_ref, cw_int, cw_long, cw_nil, Option.toList_some, List.cons_append, List.nil_append]; omega)]
  refine CA_mono h2 ?_
  rintro w S2 I2 L2 R2 ⟨rfl, rfl, hI2⟩
  simp (disch := first | assumption | exact cw0 | omega | (simp only [cw_nil, cw_int, cw_ref, cw_long]; omega) | decide) only [x_0_1891, x_0_1892, x_0_1893, x_0_1894, x_0_1895, x_0_1896, x_0_1897, x_0_1898, x_0_1899, x_0_1900, x_0_1901, x_0_1902, x_0_1903, x_0_1904, x_0_1905, x_0_1906, x_0_1907, x_0_1908, x_0_1909, x_0_1910, x_0_1911, x_0_1915, x_0_1916, x_0_1917, x_0_1918, x_0_1919, x_0_1920, x_0_1921, x_0_1922, x_0_1923, x_0_1924, x_0_1925, x_0_1926, x_0_1927, x_0_1928, x_0_1929, x_0_1930, x_0_1931, x_0_1932, x_0_1933, x_0_1934, x_0_1935, x_0_1939, x_0_1942, x_0_1943, ↓reduceIte, va_rf_some, cw_nil, cw_int, cw_ref, cw_long, kl_int, kl_ref, kl_null, kl_long, kl_none, Option.toList_some, Option.toList_none, List.cons_append, List.nil_append, List.append_nil, nI_add, nI_clamp, nI_ltI, nI_leI, nI_eq, Nat.reduceLT, Nat.reduceLeDiff, Nat.reduceEqDiff, Nat.reduceAdd, Nat.reduceMul, Nat.reduceSub, if_true, if_false, not_true, not_false_eq_true, decide_true, decide_false, Nat.lt_irrefl, Nat.le_refl, Nat.not_lt_zero, Nat.zero_le, eq_self]
  exact go I2 L2 R2 hI2
theorem lc_47 (hI : INV x b xs S I L R) (hb : kd S b = 110) (hn : ln S b = Lx) (hi : i + 6 ≤ Lx) (hL : Lx ≤ 384) (go : ∀ I' L' R', INV x b xs S I' L' R' → WP (d + 41, bc, bs) 0 2187 [some (.ref b), some (.ref x), some (.ref (x + 163)), some (.int (nI i))] [] S I' L' R' Q) : WP (d + 41, bc, bs) 0 1944 [some (.ref b), some (.ref x), some (.ref (x + 163)), some (.int (nI i))] [] S I L R Q := by
  obtain ⟨A, hA⟩ := id hI
  have hs : I b = xs := hA.scr
  have k0 : kd S x = 0 := hA.c.k0
  have k12 : kd S (x + 163) = 12 := md_k hA.m
  have v1 : vp_in (nI (i + 1)) (ln S b) := by rw [hn]; exact of_eq_true (vin (by omega) (by omega))
  have v2 : vp_in (nI (i + 2)) (ln S b) := by rw [hn]; exact of_eq_true (vin (by omega) (by omega))
  have v3 : vp_in (nI (i + 3)) (ln S b) := by rw [hn]; exact of_eq_true (vin (by omega) (by omega))
  have v4 : vp_in (nI (i + 4)) (ln S b) := by rw [hn]; exact of_eq_true (vin (by omega) (by omega))
  have v5 : vp_in (nI (i + 5)) (ln S b) := by rw [hn]; exact of_eq_true (vin (by omega) (by omega))
  simp (disch := first | assumption | exact cw0 | omega | (simp only [cw_nil, cw_int, cw_ref, cw_long]; omega) | decide) only [x_0_1944, x_0_1945, x_0_1946, x_0_1947, x_0_1948, x_0_1949, x_0_1953, x_0_1954, x_0_1955, x_0_1956, x_0_1957, x_0_1958, x_0_1959, x_0_1962, x_0_1965, x_0_1966, ↓reduceIte, va_rf_some, cw_nil, cw_int, cw_ref, cw_long, kl_int, kl_ref, kl_null, kl_long, kl_none, Option.toList_some, Option.toList_none, List.cons_append, List.nil_append, List.append_nil, nI_add, nI_clamp, nI_ltI, nI_leI, nI_eq, Nat.reduceLT, Nat.reduceLeDiff, Nat.reduceEqDiff, Nat.reduceAdd, Nat.reduceMul, Nat.reduceSub, if_true, if_false, not_true, not_false_eq_true, decide_true, decide_false, Nat.lt_irrefl, Nat.le_refl, Nat.not_lt_zero, Nat.zero_le, hs]
  rw [x_0_1950 k0 (by simp only [cw_ref, cw_int, cw_long, cw_nil, Option.toList_some, List.cons_append, List.nil_append]; omega)]
  refine CA_mono (CA_rt (sim_gone d x b xs S I L R hI)) ?_
  rintro v S1 I1 L1 R1 ⟨⟨rfl, h1, h2⟩, hr, -⟩
  obtain ⟨u, rfl⟩ := hr (Or.inl ht_61)
  simp (disch := first | assumption | exact cw0 | omega | (simp only [cw_nil, cw_int, cw_ref, cw_long]; omega) | decide) only [x_0_1944, x_0_1945, x_0_1946, x_0_1947, x_0_1948, x_0_1949, x_0_1953, x_0_1954, x_0_1955, x_0_1956, x_0_1957, x_0_1958, x_0_1962, x_0_1965, x_0_1966, ↓reduceIte, va_rf_some, cw_nil, cw_int, cw_ref, cw_long, kl_int, kl_ref, kl_null, kl_long, kl_none, Option.toList_some, Option.toList_none, List.cons_append, List.nil_append, List.append_nil, nI_add, nI_clamp, nI_ltI, nI_leI, nI_eq, Nat.reduceLT, Nat.reduceLeDiff, Nat.reduceEqDiff, Nat.reduceAdd, Nat.reduceMul, Nat.reduceSub, if_true, if_false, not_true, not_false_eq_true, decide_true, decide_false, Nat.lt_irrefl, Nat.le_refl, Nat.not_lt_zero, Nat.zero_le, h1]
  rw [x_0_1959 k12 (by simp only [cw_ref, cw_int, cw_long, cw_nil, Option.toList_some, List.cons_append, List.nil_append]; omega)]
  refine CA_mono h2 ?_
  rintro w S2 I2 L2 R2 ⟨rfl, rfl, hI2⟩
  simp (disch := first | assumption | exact cw0 | omega | (simp only [cw_nil, cw_int, cw_ref, cw_long]; omega) | decide) only [x_0_1944, x_0_1945, x_0_1946, x_0_1947, x_0_1948, x_0_1949, x_0_1953, x_0_1954, x_0_1955, x_0_1956, x_0_1957, x_0_1958, x_0_1962, x_0_1965, x_0_1966, ↓reduceIte, va_rf_some, cw_nil, cw_int, cw_ref, cw_long, kl_int, kl_ref, kl_null, kl_long, kl_none, Option.toList_some, Option.toList_none, List.cons_append, List.nil_append, List.append_nil, nI_add, nI_clamp, nI_ltI, nI_leI, nI_eq, Nat.reduceLT, Nat.reduceLeDiff, Nat.reduceEqDiff, Nat.reduceAdd, Nat.reduceMul, Nat.reduceSub, if_true, if_false, not_true, not_false_eq_true, decide_true, decide_false, Nat.lt_irrefl, Nat.le_refl, Nat.not_lt_zero, Nat.zero_le, eq_self]
  exact go I2 L2 R2 hI2
theorem lc_48 (hI : INV x b xs S I L R) (hb : kd S b = 110) (hn : ln S b = Lx) (hi : i + 6 ≤ Lx) (hL : Lx ≤ 384) (go : ∀ I' L' R', INV x b xs S I' L' R' → WP (d + 41, bc, bs) 0 2187 [some (.ref b), some (.ref x), some (.ref (x + 163)), some (.int (nI i))] [] S I' L' R' Q) : WP (d + 41, bc, bs) 0 1967 [some (.ref b), some (.ref x), some (.ref (x + 163)), some (.int (nI i))] [] S I L R Q := by
  obtain ⟨A, hA⟩ := id hI
  have hs : I b = xs := hA.scr
  have k0 : kd S x = 0 := hA.c.k0
  have k12 : kd S (x + 163) = 12 := md_k hA.m
  have v1 : vp_in (nI (i + 1)) (ln S b) := by rw [hn]; exact of_eq_true (vin (by omega) (by omega))
  have v2 : vp_in (nI (i + 2)) (ln S b) := by rw [hn]; exact of_eq_true (vin (by omega) (by omega))
  have v3 : vp_in (nI (i + 3)) (ln S b) := by rw [hn]; exact of_eq_true (vin (by omega) (by omega))
  have v4 : vp_in (nI (i + 4)) (ln S b) := by rw [hn]; exact of_eq_true (vin (by omega) (by omega))
  have v5 : vp_in (nI (i + 5)) (ln S b) := by rw [hn]; exact of_eq_true (vin (by omega) (by omega))
  simp (disch := first | assumption | exact cw0 | omega | (simp only [cw_nil, cw_int, cw_ref, cw_long]; omega) | decide) only [x_0_1967, x_0_1968, x_0_1969, x_0_1970, x_0_1971, x_0_1972, x_0_1976, x_0_1977, x_0_1978, x_0_1979, x_0_1980, x_0_1981, x_0_1982, x_0_1985, x_0_1988, x_0_1989, ↓reduceIte, va_rf_some, cw_nil, cw_int, cw_ref, cw_long, kl_int, kl_ref, kl_null, kl_long, kl_none, Option.toList_some, Option.toList_none, List.cons_append, List.nil_append, List.append_nil, nI_add, nI_clamp, nI_ltI, nI_leI, nI_eq, Nat.reduceLT, Nat.reduceLeDiff, Nat.reduceEqDiff, Nat.reduceAdd, Nat.reduceMul, Nat.reduceSub, if_true, if_false, not_true, not_false_eq_true, decide_true, decide_false, Nat.lt_irrefl, Nat.le_refl, Nat.not_lt_zero, Nat.zero_le, hs]
  rw [x_0_1973 k0 (by simp only [cw_ref, cw_int, cw_long, cw_nil, Option.toList_some, List.cons_append, List.nil_append]; omega)]
  refine CA_mono (CA_rt (sim_tracks d x b xs S I L R hI)) ?_
  rintro v S1 I1 L1 R1 ⟨⟨rfl, h1, h2⟩, hr, -⟩
  obtain ⟨u, rfl⟩ := hr (Or.inl ht_62)
  simp (disch := first | assumption | exact cw0 | omega | (simp only [cw_nil, cw_int, cw_ref, cw_long]; omega) | decide) only [x_0_1967, x_0_1968, x_0_1969, x_0_1970, x_0_1971, x_0_1972, x_0_1976, x_0_1977, x_0_1978, x_0_1979, x_0_1980, x_0_1981, x_0_1985, x_0_1988, x_0_1989, ↓reduceIte, va_rf_some, cw_nil, cw_int, cw_ref, cw_long, kl_int, kl_ref, kl_null, kl_long, kl_none, Option.toList_some, Option.toList_none, List.cons_append, List.nil_append, List.append_nil, nI_add, nI_clamp, nI_ltI, nI_leI, nI_eq, Nat.reduceLT, Nat.reduceLeDiff, Nat.reduceEqDiff, Nat.reduceAdd, Nat.reduceMul, Nat.reduceSub, if_true, if_false, not_true, not_false_eq_true, decide_true, decide_false, Nat.lt_irrefl, Nat.le_refl, Nat.not_lt_zero, Nat.zero_le, h1]
  rw [x_0_1982 k12 (by simp only [cw_ref, cw_int, cw_long, cw_nil, Option.toList_some, List.cons_append, List.nil_append]; omega)]
  refine CA_mono h2 ?_
  rintro w S2 I2 L2 R2 ⟨rfl, rfl, hI2⟩
  simp (disch := first | assumption | exact cw0 | omega | (simp only [cw_nil, cw_int, cw_ref, cw_long]; omega) | decide) only [x_0_1967, x_0_1968, x_0_1969, x_0_1970, x_0_1971, x_0_1972, x_0_1976, x_0_1977, x_0_1978, x_0_1979, x_0_1980, x_0_1981, x_0_1985, x_0_1988, x_0_1989, ↓reduceIte, va_rf_some, cw_nil, cw_int, cw_ref, cw_long, kl_int, kl_ref, kl_null, kl_long, kl_none, Option.toList_some, Option.toList_none, List.cons_append, List.nil_append, List.append_nil, nI_add, nI_clamp, nI_ltI, nI_leI, nI_eq, Nat.reduceLT, Nat.reduceLeDiff, Nat.reduceEqDiff, Nat.reduceAdd, Nat.reduceMul, Nat.reduceSub, if_true, if_false, not_true, not_false_eq_true, decide_true, decide_false, Nat.lt_irrefl, Nat.le_refl, Nat.not_lt_zero, Nat.zero_le, eq_self]
  exact go I2 L2 R2 hI2
theorem lc_49 (hI : INV x b xs S I L R) (hb : kd S b = 110) (hn : ln S b = Lx) (hi : i + 6 ≤ Lx) (hL : Lx ≤ 384) (go : ∀ I' L' R', INV x b xs S I' L' R' → WP (d + 41, bc, bs) 0 2187 [some (.ref b), some (.ref x), some (.ref (x + 163)), some (.int (nI i))] [] S I' L' R' Q) : WP (d + 41, bc, bs) 0 1990 [some (.ref b), some (.ref x), some (.ref (x + 163)), some (.int (nI i))] [] S I L R Q := by
  obtain ⟨A, hA⟩ := id hI
  have hs : I b = xs := hA.scr
  have k0 : kd S x = 0 := hA.c.k0
  have k12 : kd S (x + 163) = 12 := md_k hA.m
  have v1 : vp_in (nI (i + 1)) (ln S b) := by rw [hn]; exact of_eq_true (vin (by omega) (by omega))
  have v2 : vp_in (nI (i + 2)) (ln S b) := by rw [hn]; exact of_eq_true (vin (by omega) (by omega))
  have v3 : vp_in (nI (i + 3)) (ln S b) := by rw [hn]; exact of_eq_true (vin (by omega) (by omega))
  have v4 : vp_in (nI (i + 4)) (ln S b) := by rw [hn]; exact of_eq_true (vin (by omega) (by omega))
  have v5 : vp_in (nI (i + 5)) (ln S b) := by rw [hn]; exact of_eq_true (vin (by omega) (by omega))
  simp (disch := first | assumption | exact cw0 | omega | (simp only [cw_nil, cw_int, cw_ref, cw_long]; omega) | decide) only [x_0_1990, x_0_1991, x_0_1992, x_0_1993, x_0_1994, x_0_1995, x_0_1999, x_0_2000, x_0_2001, x_0_2002, x_0_2003, x_0_2004, x_0_2005, x_0_2008, x_0_2011, x_0_2012, ↓reduceIte, va_rf_some, cw_nil, cw_int, cw_ref, cw_long, kl_int, kl_ref, kl_null, kl_long, kl_none, Option.toList_some, Option.toList_none, List.cons_append, List.nil_append, List.append_nil, nI_add, nI_clamp, nI_ltI, nI_leI, nI_eq, Nat.reduceLT, Nat.reduceLeDiff, Nat.reduceEqDiff, Nat.reduceAdd, Nat.reduceMul, Nat.reduceSub, if_true, if_false, not_true, not_false_eq_true, decide_true, decide_false, Nat.lt_irrefl, Nat.le_refl, Nat.not_lt_zero, Nat.zero_le, hs]
  rw [x_0_1996 k0 (by simp only [cw_ref, cw_int, cw_long, cw_nil, Option.toList_some, List.cons_append, List.nil_append]; omega)]
  refine CA_mono (CA_rt (sim_sure d x b xs S I L R hI)) ?_
  rintro v S1 I1 L1 R1 ⟨⟨rfl, h1, h2⟩, hr, -⟩
  obtain ⟨u, rfl⟩ := hr (Or.inl ht_63)
  simp (disch := first | assumption | exact cw0 | omega | (simp only [cw_nil, cw_int, cw_ref, cw_long]; omega) | decide) only [x_0_1990, x_0_1991, x_0_1992, x_0_1993, x_0_1994, x_0_1995, x_0_1999, x_0_2000, x_0_2001, x_0_2002, x_0_2003, x_0_2004, x_0_2008, x_0_2011, x_0_2012, ↓reduceIte, va_rf_some, cw_nil, cw_int, cw_ref, cw_long, kl_int, kl_ref, kl_null, kl_long, kl_none, Option.toList_some, Option.toList_none, List.cons_append, List.nil_append, List.append_nil, nI_add, nI_clamp, nI_ltI, nI_leI, nI_eq, Nat.reduceLT, Nat.reduceLeDiff, Nat.reduceEqDiff, Nat.reduceAdd, Nat.reduceMul, Nat.reduceSub, if_true, if_false, not_true, not_false_eq_true, decide_true, decide_false, Nat.lt_irrefl, Nat.le_refl, Nat.not_lt_zero, Nat.zero_le, h1]
  rw [x_0_2005 k12 (by simp only [cw_ref, cw_int, cw_long, cw_nil, Option.toList_some, List.cons_append, List.nil_append]; omega)]
  refine CA_mono h2 ?_
  rintro w S2 I2 L2 R2 ⟨rfl, rfl, hI2⟩
  simp (disch := first | assumption | exact cw0 | omega | (simp only [cw_nil, cw_int, cw_ref, cw_long]; omega) | decide) only [x_0_1990, x_0_1991, x_0_1992, x_0_1993, x_0_1994, x_0_1995, x_0_1999, x_0_2000, x_0_2001, x_0_2002, x_0_2003, x_0_2004, x_0_2008, x_0_2011, x_0_2012, ↓reduceIte, va_rf_some, cw_nil, cw_int, cw_ref, cw_long, kl_int, kl_ref, kl_null, kl_long, kl_none, Option.toList_some, Option.toList_none, List.cons_append, List.nil_append, List.append_nil, nI_add, nI_clamp, nI_ltI, nI_leI, nI_eq, Nat.reduceLT, Nat.reduceLeDiff, Nat.reduceEqDiff, Nat.reduceAdd, Nat.reduceMul, Nat.reduceSub, if_true, if_false, not_true, not_false_eq_true, decide_true, decide_false, Nat.lt_irrefl, Nat.le_refl, Nat.not_lt_zero, Nat.zero_le, eq_self]
  exact go I2 L2 R2 hI2
theorem lc_50 (hI : INV x b xs S I L R) (hb : kd S b = 110) (hn : ln S b = Lx) (hi : i + 6 ≤ Lx) (hL : Lx ≤ 384) (go : ∀ I' L' R', INV x b xs S I' L' R' → WP (d + 41, bc, bs) 0 2187 [some (.ref b), some (.ref x), some (.ref (x + 163)), some (.int (nI i))] [] S I' L' R' Q) : WP (d + 41, bc, bs) 0 2013 [some (.ref b), some (.ref x), some (.ref (x + 163)), some (.int (nI i))] [] S I L R Q := by
  obtain ⟨A, hA⟩ := id hI
  have hs : I b = xs := hA.scr
  have k0 : kd S x = 0 := hA.c.k0
  have k12 : kd S (x + 163) = 12 := md_k hA.m
  have v1 : vp_in (nI (i + 1)) (ln S b) := by rw [hn]; exact of_eq_true (vin (by omega) (by omega))
  have v2 : vp_in (nI (i + 2)) (ln S b) := by rw [hn]; exact of_eq_true (vin (by omega) (by omega))
  have v3 : vp_in (nI (i + 3)) (ln S b) := by rw [hn]; exact of_eq_true (vin (by omega) (by omega))
  have v4 : vp_in (nI (i + 4)) (ln S b) := by rw [hn]; exact of_eq_true (vin (by omega) (by omega))
  have v5 : vp_in (nI (i + 5)) (ln S b) := by rw [hn]; exact of_eq_true (vin (by omega) (by omega))
  simp (disch := first | assumption | exact cw0 | omega | (simp only [cw_nil, cw_int, cw_ref, cw_long]; omega) | decide) only [x_0_2013, x_0_2014, x_0_2015, x_0_2016, x_0_2017, x_0_2018, x_0_2022, x_0_2023, x_0_2024, x_0_2025, x_0_2026, x_0_2027, x_0_2028, x_0_2031, x_0_2034, x_0_2035, ↓reduceIte, va_rf_some, cw_nil, cw_int, cw_ref, cw_long, kl_int, kl_ref, kl_null, kl_long, kl_none, Option.toList_some, Option.toList_none, List.cons_append, List.nil_append, List.append_nil, nI_add, nI_clamp, nI_ltI, nI_leI, nI_eq, Nat.reduceLT, Nat.reduceLeDiff, Nat.reduceEqDiff, Nat.reduceAdd, Nat.reduceMul, Nat.reduceSub, if_true, if_false, not_true, not_false_eq_true, decide_true, decide_false, Nat.lt_irrefl, Nat.le_refl, Nat.not_lt_zero, Nat.zero_le, hs]
  rw [x_0_2019 k0 (by simp only [cw_ref, cw_int, cw_long, cw_nil, Option.toList_some, List.cons_append, List.nil_append]; omega)]
  refine CA_mono (CA_rt (sim_luck d x b xs S I L R hI)) ?_
  rintro v S1 I1 L1 R1 ⟨⟨rfl, h1, h2⟩, hr, -⟩
  obtain ⟨u, rfl⟩ := hr (Or.inr ht_64)
  simp (disch := first | assumption | exact cw0 | omega | (simp only [cw_nil, cw_int, cw_ref, cw_long]; omega) | decide) only [x_0_2013, x_0_2014, x_0_2015, x_0_2016, x_0_2017, x_0_2018, x_0_2022, x_0_2023, x_0_2024, x_0_2025, x_0_2026, x_0_2027, x_0_2031, x_0_2034, x_0_2035, ↓reduceIte, va_rf_some, cw_nil, cw_int, cw_ref, cw_long, kl_int, kl_ref, kl_null, kl_long, kl_none, Option.toList_some, Option.toList_none, List.cons_append, List.nil_append, List.append_nil, nI_add, nI_clamp, nI_ltI, nI_leI, nI_eq, Nat.reduceLT, Nat.reduceLeDiff, Nat.reduceEqDiff, Nat.reduceAdd, Nat.reduceMul, Nat.reduceSub, if_true, if_false, not_true, not_false_eq_true, decide_true, decide_false, Nat.lt_irrefl, Nat.le_refl, Nat.not_lt_zero, Nat.zero_le, h1]
  rw [x_0_2028 k12 (by simp only [cw_ref, cw_int, cw_long, cw_nil, Option.toList_some, List.cons_append, List.nil_append]; omega)]
  refine CA_mono h2 ?_
  rintro w S2 I2 L2 R2 ⟨rfl, rfl, hI2⟩
  simp (disch := first | assumption | exact cw0 | omega | (simp only [cw_nil, cw_int, cw_ref, cw_long]; omega) | decide) only [x_0_2013, x_0_2014, x_0_2015, x_0_2016, x_0_2017, x_0_2018, x_0_2022, x_0_2023, x_0_2024, x_0_2025, x_0_2026, x_0_2027, x_0_2031, x_0_2034, x_0_2035, ↓reduceIte, va_rf_some, cw_nil, cw_int, cw_ref, cw_long, kl_int, kl_ref, kl_null, kl_long, kl_none, Option.toList_some, Option.toList_none, List.cons_append, List.nil_append, List.append_nil, nI_add, nI_clamp, nI_ltI, nI_leI, nI_eq, Nat.reduceLT, Nat.reduceLeDiff, Nat.reduceEqDiff, Nat.reduceAdd, Nat.reduceMul, Nat.reduceSub, if_true, if_false, not_true, not_false_eq_true, decide_true, decide_false, Nat.lt_irrefl, Nat.le_refl, Nat.not_lt_zero, Nat.zero_le, eq_self]
  exact go I2 L2 R2 hI2
theorem lc_51 (hI : INV x b xs S I L R) (hb : kd S b = 110) (hn : ln S b = Lx) (hi : i + 6 ≤ Lx) (hL : Lx ≤ 384) (go : ∀ I' L' R', INV x b xs S I' L' R' → WP (d + 41, bc, bs) 0 2187 [some (.ref b), some (.ref x), some (.ref (x + 163)), some (.int (nI i))] [] S I' L' R' Q) : WP (d + 41, bc, bs) 0 2036 [some (.ref b), some (.ref x), some (.ref (x + 163)), some (.int (nI i))] [] S I L R Q := by
  obtain ⟨A, hA⟩ := id hI
  have hs : I b = xs := hA.scr
  have k0 : kd S x = 0 := hA.c.k0
  have k12 : kd S (x + 163) = 12 := md_k hA.m
  have v1 : vp_in (nI (i + 1)) (ln S b) := by rw [hn]; exact of_eq_true (vin (by omega) (by omega))
  have v2 : vp_in (nI (i + 2)) (ln S b) := by rw [hn]; exact of_eq_true (vin (by omega) (by omega))
  have v3 : vp_in (nI (i + 3)) (ln S b) := by rw [hn]; exact of_eq_true (vin (by omega) (by omega))
  have v4 : vp_in (nI (i + 4)) (ln S b) := by rw [hn]; exact of_eq_true (vin (by omega) (by omega))
  have v5 : vp_in (nI (i + 5)) (ln S b) := by rw [hn]; exact of_eq_true (vin (by omega) (by omega))
  simp (disch := first | assumption | exact cw0 | omega | (simp only [cw_nil, cw_int, cw_ref, cw_long]; omega) | decide) only [x_0_2036, x_0_2040, x_0_2041, x_0_2044, x_0_2047, x_0_2048, ↓reduceIte, va_rf_some, cw_nil, cw_int, cw_ref, cw_long, kl_int, kl_ref, kl_null, kl_long, kl_none, Option.toList_some, Option.toList_none, List.cons_append, List.nil_append, List.append_nil, nI_add, nI_clamp, nI_ltI, nI_leI, nI_eq, Nat.reduceLT, Nat.reduceLeDiff, Nat.reduceEqDiff, Nat.reduceAdd, Nat.reduceMul, Nat.reduceSub, if_true, if_false, not_true, not_false_eq_true, decide_true, decide_false, Nat.lt_irrefl, Nat.le_refl, Nat.not_lt_zero, Nat.zero_le, hs]
  rw [x_0_2037 k0 (by simp only [cw_ref, cw_int, cw_long, cw_nil, Option.toList_some, List.cons_append, List.nil_append]; omega)]
  refine CA_mono (CA_rt (sim_luckiest d x b xs S I L R hI)) ?_
  rintro v S1 I1 L1 R1 ⟨⟨rfl, h1, h2⟩, hr, -⟩
  obtain ⟨u, rfl⟩ := hr (Or.inl ht_66)
  simp (disch := first | assumption | exact cw0 | omega | (simp only [cw_nil, cw_int, cw_ref, cw_long]; omega) | decide) only [x_0_2036, x_0_2040, x_0_2044, x_0_2047, x_0_2048, ↓reduceIte, va_rf_some, cw_nil, cw_int, cw_ref, cw_long, kl_int, kl_ref, kl_null, kl_long, kl_none, Option.toList_some, Option.toList_none, List.cons_append, List.nil_append, List.append_nil, nI_add, nI_clamp, nI_ltI, nI_leI, nI_eq, Nat.reduceLT, Nat.reduceLeDiff, Nat.reduceEqDiff, Nat.reduceAdd, Nat.reduceMul, Nat.reduceSub, if_true, if_false, not_true, not_false_eq_true, decide_true, decide_false, Nat.lt_irrefl, Nat.le_refl, Nat.not_lt_zero, Nat.zero_le, h1]
  rw [x_0_2041 k12 (by simp only [cw_ref, cw_int, cw_long, cw_nil, Option.toList_some, List.cons_append, List.nil_append]; omega)]
  refine CA_mono h2 ?_
  rintro w S2 I2 L2 R2 ⟨rfl, rfl, hI2⟩
  simp (disch := first | assumption | exact cw0 | omega | (simp only [cw_nil, cw_int, cw_ref, cw_long]; omega) | decide) only [x_0_2036, x_0_2040, x_0_2044, x_0_2047, x_0_2048, ↓reduceIte, va_rf_some, cw_nil, cw_int, cw_ref, cw_long, kl_int, kl_ref, kl_null, kl_long, kl_none, Option.toList_some, Option.toList_none, List.cons_append, List.nil_append, List.append_nil, nI_add, nI_clamp, nI_ltI, nI_leI, nI_eq, Nat.reduceLT, Nat.reduceLeDiff, Nat.reduceEqDiff, Nat.reduceAdd, Nat.reduceMul, Nat.reduceSub, if_true, if_false, not_true, not_false_eq_true, decide_true, decide_false, Nat.lt_irrefl, Nat.le_refl, Nat.not_lt_zero, Nat.zero_le, eq_self]
  exact go I2 L2 R2 hI2
theorem lc_52 (hI : INV x b xs S I L R) (hb : kd S b = 110) (hn : ln S b = Lx) (hi : i + 6 ≤ Lx) (hL : Lx ≤ 384) (go : ∀ I' L' R', INV x b xs S I' L' R' → WP (d + 41, bc, bs) 0 2187 [some (.ref b), some (.ref x), some (.ref (x + 163)), some (.int (nI i))] [] S I' L' R' Q) : WP (d + 41, bc, bs) 0 2049 [some (.ref b), some (.ref x), some (.ref (x + 163)), some (.int (nI i))] [] S I L R Q := by
  obtain ⟨A, hA⟩ := id hI
  have hs : I b = xs := hA.scr
  have k0 : kd S x = 0 := hA.c.k0
  have k12 : kd S (x + 163) = 12 := md_k hA.m
  have v1 : vp_in (nI (i + 1)) (ln S b) := by rw [hn]; exact of_eq_true (vin (by omega) (by omega))
  have v2 : vp_in (nI (i + 2)) (ln S b) := by rw [hn]; exact of_eq_true (vin (by omega) (by omega))
  have v3 : vp_in (nI (i + 3)) (ln S b) := by rw [hn]; exact of_eq_true (vin (by omega) (by omega))
  have v4 : vp_in (nI (i + 4)) (ln S b) := by rw [hn]; exact of_eq_true (vin (by omega) (by omega))
  have v5 : vp_in (nI (i + 5)) (ln S b) := by rw [hn]; exact of_eq_true (vin (by omega) (by omega))
  simp (disch := first | assumption | exact cw0 | omega | (simp only [cw_nil, cw_int, cw_ref, cw_long]; omega) | decide) only [x_0_2049, x_0_2050, x_0_2051, x_0_2052, x_0_2053, x_0_2054, x_0_2055, x_0_2056, x_0_2057, x_0_2058, x_0_2059, x_0_2063, x_0_2064, x_0_2065, x_0_2066, x_0_2067, x_0_2068, x_0_2069, x_0_2070, x_0_2071, x_0_2072, x_0_2073, x_0_2074, x_0_2077, x_0_2080, x_0_2081, ↓reduceIte, va_rf_some, cw_nil, cw_int, cw_ref, cw_long, kl_int, kl_ref, kl_null, kl_long, kl_none, Option.toList_some, Option.toList_none, List.cons_append, List.nil_append, List.append_nil, nI_add, nI_clamp, nI_ltI, nI_leI, nI_eq, Nat.reduceLT, Nat.reduceLeDiff, Nat.reduceEqDiff, Nat.reduceAdd, Nat.reduceMul, Nat.reduceSub, if_true, if_false, not_true, not_false_eq_true, decide_true, decide_false, Nat.lt_irrefl, Nat.le_refl, Nat.not_lt_zero, Nat.zero_le, hs]
  rw [x_0_2060 k0 (by simp only [cw_ref, cw_int, cw_long, cw_nil, Option.toList_some, List.cons_append, List.nil_append]; omega)]
  refine CA_mono (CA_rt (sim_copyRow d x b xs S I L R hI)) ?_
  rintro v S1 I1 L1 R1 ⟨⟨rfl, h1, h2⟩, hr, -⟩
  obtain ⟨u, rfl⟩ := hr (Or.inl ht_67)
  simp (disch := first | assumption | exact cw0 | omega | (simp only [cw_nil, cw_int, cw_ref, cw_long]; omega) | decide) only [x_0_2049, x_0_2050, x_0_2051, x_0_2052, x_0_2053, x_0_2054, x_0_2055, x_0_2056, x_0_2057, x_0_2058, x_0_2059, x_0_2063, x_0_2064, x_0_2065, x_0_2066, x_0_2067, x_0_2068, x_0_2069, x_0_2070, x_0_2071, x_0_2072, x_0_2073, x_0_2077, x_0_2080, x_0_2081, ↓reduceIte, va_rf_some, cw_nil, cw_int, cw_ref, cw_long, kl_int, kl_ref, kl_null, kl_long, kl_none, Option.toList_some, Option.toList_none, List.cons_append, List.nil_append, List.append_nil, nI_add, nI_clamp, nI_ltI, nI_leI, nI_eq, Nat.reduceLT, Nat.reduceLeDiff, Nat.reduceEqDiff, Nat.reduceAdd, Nat.reduceMul, Nat.reduceSub, if_true, if_false, not_true, not_false_eq_true, decide_true, decide_false, Nat.lt_irrefl, Nat.le_refl, Nat.not_lt_zero, Nat.zero_le, h1]
  rw [x_0_2074 k12 (by simp only [cw_ref, cw_int, cw_long, cw_nil, Option.toList_some, List.cons_append, List.nil_append]; omega)]
  refine CA_mono h2 ?_
  rintro w S2 I2 L2 R2 ⟨rfl, rfl, hI2⟩
  simp (disch := first | assumption | exact cw0 | omega | (simp only [cw_nil, cw_int, cw_ref, cw_long]; omega) | decide) only [x_0_2049, x_0_2050, x_0_2051, x_0_2052, x_0_2053, x_0_2054, x_0_2055, x_0_2056, x_0_2057, x_0_2058, x_0_2059, x_0_2063, x_0_2064, x_0_2065, x_0_2066, x_0_2067, x_0_2068, x_0_2069, x_0_2070, x_0_2071, x_0_2072, x_0_2073, x_0_2077, x_0_2080, x_0_2081, ↓reduceIte, va_rf_some, cw_nil, cw_int, cw_ref, cw_long, kl_int, kl_ref, kl_null, kl_long, kl_none, Option.toList_some, Option.toList_none, List.cons_append, List.nil_append, List.append_nil, nI_add, nI_clamp, nI_ltI, nI_leI, nI_eq, Nat.reduceLT, Nat.reduceLeDiff, Nat.reduceEqDiff, Nat.reduceAdd, Nat.reduceMul, Nat.reduceSub, if_true, if_false, not_true, not_false_eq_true, decide_true, decide_false, Nat.lt_irrefl, Nat.le_refl, Nat.not_lt_zero, Nat.zero_le, eq_self]
  exact go I2 L2 R2 hI2
theorem lc_53 (hI : INV x b xs S I L R) (hb : kd S b = 110) (hn : ln S b = Lx) (hi : i + 6 ≤ Lx) (hL : Lx ≤ 384) (go : ∀ I' L' R', INV x b xs S I' L' R' → WP (d + 41, bc, bs) 0 2187 [some (.ref b), some (.ref x), some (.ref (x + 163)), some (.int (nI i))] [] S I' L' R' Q) : WP (d + 41, bc, bs) 0 2082 [some (.ref b), some (.ref x), some (.ref (x + 163)), some (.int (nI i))] [] S I L R Q := by
  obtain ⟨A, hA⟩ := id hI
  have hs : I b = xs := hA.scr
  have k0 : kd S x = 0 := hA.c.k0
  have k12 : kd S (x + 163) = 12 := md_k hA.m
  have v1 : vp_in (nI (i + 1)) (ln S b) := by rw [hn]; exact of_eq_true (vin (by omega) (by omega))
  have v2 : vp_in (nI (i + 2)) (ln S b) := by rw [hn]; exact of_eq_true (vin (by omega) (by omega))
  have v3 : vp_in (nI (i + 3)) (ln S b) := by rw [hn]; exact of_eq_true (vin (by omega) (by omega))
  have v4 : vp_in (nI (i + 4)) (ln S b) := by rw [hn]; exact of_eq_true (vin (by omega) (by omega))
  have v5 : vp_in (nI (i + 5)) (ln S b) := by rw [hn]; exact of_eq_true (vin (by omega) (by omega))
  simp (disch := first | assumption | exact cw0 | omega | (simp only [cw_nil, cw_int, cw_ref, cw_long]; omega) | decide) only [x_0_2082, x_0_2083, x_0_2084, x_0_2085, x_0_2086, x_0_2087, x_0_2091, x_0_2092, x_0_2093, x_0_2094, x_0_2095, x_0_2096, x_0_2097, x_0_2100, x_0_2103, x_0_2104, ↓reduceIte, va_rf_some, cw_nil, cw_int, cw_ref, cw_long, kl_int, kl_ref, kl_null, kl_long, kl_none, Option.toList_some, Option.toList_none, List.cons_append, List.nil_append, List.append_nil, nI_add, nI_clamp, nI_ltI, nI_leI, nI_eq, Nat.reduceLT, Nat.reduceLeDiff, Nat.reduceEqDiff, Nat.reduceAdd, Nat.reduceMul, Nat.reduceSub, if_true, if_false, not_true, not_false_eq_true, decide_true, decide_false, Nat.lt_irrefl, Nat.le_refl, Nat.not_lt_zero, Nat.zero_le, hs]
  rw [x_0_2088 k0 (by simp only [cw_ref, cw_int, cw_long, cw_nil, Option.toList_some, List.cons_append, List.nil_append]; omega)]
  refine CA_mono (CA_rt (sim_live d x b xs S I L R hI)) ?_
  rintro v S1 I1 L1 R1 ⟨⟨rfl, h1, h2⟩, hr, -⟩
  obtain ⟨u, rfl⟩ := hr (Or.inl ht_68)
  simp (disch := first | assumption | exact cw0 | omega | (simp only [cw_nil, cw_int, cw_ref, cw_long]; omega) | decide) only [x_0_2082, x_0_2083, x_0_2084, x_0_2085, x_0_2086, x_0_2087, x_0_2091, x_0_2092, x_0_2093, x_0_2094, x_0_2095, x_0_2096, x_0_2100, x_0_2103, x_0_2104, ↓reduceIte, va_rf_some, cw_nil, cw_int, cw_ref, cw_long, kl_int, kl_ref, kl_null, kl_long, kl_none, Option.toList_some, Option.toList_none, List.cons_append, List.nil_append, List.append_nil, nI_add, nI_clamp, nI_ltI, nI_leI, nI_eq, Nat.reduceLT, Nat.reduceLeDiff, Nat.reduceEqDiff, Nat.reduceAdd, Nat.reduceMul, Nat.reduceSub, if_true, if_false, not_true, not_false_eq_true, decide_true, decide_false, Nat.lt_irrefl, Nat.le_refl, Nat.not_lt_zero, Nat.zero_le, h1]
  rw [x_0_2097 k12 (by simp only [cw_ref, cw_int, cw_long, cw_nil, Option.toList_some, List.cons_append, List.nil_append]; omega)]
  refine CA_mono h2 ?_
  rintro w S2 I2 L2 R2 ⟨rfl, rfl, hI2⟩
  simp (disch := first | assumption | exact cw0 | omega | (simp only [cw_nil, cw_int, cw_ref, cw_long]; omega) | decide) only [x_0_2082, x_0_2083, x_0_2084, x_0_2085, x_0_2086, x_0_2087, x_0_2091, x_0_2092, x_0_2093, x_0_2094, x_0_2095, x_0_2096, x_0_2100, x_0_2103, x_0_2104, ↓reduceIte, va_rf_some, cw_nil, cw_int, cw_ref, cw_long, kl_int, kl_ref, kl_null, kl_long, kl_none, Option.toList_some, Option.toList_none, List.cons_append, List.nil_append, List.append_nil, nI_add, nI_clamp, nI_ltI, nI_leI, nI_eq, Nat.reduceLT, Nat.reduceLeDiff, Nat.reduceEqDiff, Nat.reduceAdd, Nat.reduceMul, Nat.reduceSub, if_true, if_false, not_true, not_false_eq_true, decide_true, decide_false, Nat.lt_irrefl, Nat.le_refl, Nat.not_lt_zero, Nat.zero_le, eq_self]
  exact go I2 L2 R2 hI2
theorem lc_54 (hI : INV x b xs S I L R) (hb : kd S b = 110) (hn : ln S b = Lx) (hi : i + 6 ≤ Lx) (hL : Lx ≤ 384) (go : ∀ I' L' R', INV x b xs S I' L' R' → WP (d + 41, bc, bs) 0 2187 [some (.ref b), some (.ref x), some (.ref (x + 163)), some (.int (nI i))] [] S I' L' R' Q) : WP (d + 41, bc, bs) 0 2105 [some (.ref b), some (.ref x), some (.ref (x + 163)), some (.int (nI i))] [] S I L R Q := by
  obtain ⟨A, hA⟩ := id hI
  have hs : I b = xs := hA.scr
  have k0 : kd S x = 0 := hA.c.k0
  have k12 : kd S (x + 163) = 12 := md_k hA.m
  have v1 : vp_in (nI (i + 1)) (ln S b) := by rw [hn]; exact of_eq_true (vin (by omega) (by omega))
  have v2 : vp_in (nI (i + 2)) (ln S b) := by rw [hn]; exact of_eq_true (vin (by omega) (by omega))
  have v3 : vp_in (nI (i + 3)) (ln S b) := by rw [hn]; exact of_eq_true (vin (by omega) (by omega))
  have v4 : vp_in (nI (i + 4)) (ln S b) := by rw [hn]; exact of_eq_true (vin (by omega) (by omega))
  have v5 : vp_in (nI (i + 5)) (ln S b) := by rw [hn]; exact of_eq_true (vin (by omega) (by omega))
  simp (disch := first | assumption | exact cw0 | omega | (simp only [cw_nil, cw_int, cw_ref, cw_long]; omega) | decide) only [x_0_2105, x_0_2106, x_0_2107, x_0_2108, x_0_2109, x_0_2110, x_0_2114, x_0_2115, x_0_2116, x_0_2117, x_0_2118, x_0_2119, x_0_2120, x_0_2123, x_0_2126, x_0_2127, ↓reduceIte, va_rf_some, cw_nil, cw_int, cw_ref, cw_long, kl_int, kl_ref, kl_null, kl_long, kl_none, Option.toList_some, Option.toList_none, List.cons_append, List.nil_append, List.append_nil, nI_add, nI_clamp, nI_ltI, nI_leI, nI_eq, Nat.reduceLT, Nat.reduceLeDiff, Nat.reduceEqDiff, Nat.reduceAdd, Nat.reduceMul, Nat.reduceSub, if_true, if_false, not_true, not_false_eq_true, decide_true, decide_false, Nat.lt_irrefl, Nat.le_refl, Nat.not_lt_zero, Nat.zero_le, hs]
  rw [x_0_2111 k0 (by simp only [cw_ref, cw_int, cw_long, cw_nil, Option.toList_some, List.cons_append, List.nil_append]; omega)]
  refine CA_mono (CA_rt (sim_lived d x b xs S I L R hI)) ?_
  rintro v S1 I1 L1 R1 ⟨⟨rfl, h1, h2⟩, hr, -⟩
  obtain ⟨u, rfl⟩ := hr (Or.inl ht_69)
  simp (disch := first | assumption | exact cw0 | omega | (simp only [cw_nil, cw_int, cw_ref, cw_long]; omega) | decide) only [x_0_2105, x_0_2106, x_0_2107, x_0_2108, x_0_2109, x_0_2110, x_0_2114, x_0_2115, x_0_2116, x_0_2117, x_0_2118, x_0_2119, x_0_2123, x_0_2126, x_0_2127, ↓reduceIte, va_rf_some, cw_nil, cw_int, cw_ref, cw_long, kl_int, kl_ref, kl_null, kl_long, kl_none, Option.toList_some, Option.toList_none, List.cons_append, List.nil_append, List.append_nil, nI_add, nI_clamp, nI_ltI, nI_leI, nI_eq, Nat.reduceLT, Nat.reduceLeDiff, Nat.reduceEqDiff, Nat.reduceAdd, Nat.reduceMul, Nat.reduceSub, if_true, if_false, not_true, not_false_eq_true, decide_true, decide_false, Nat.lt_irrefl, Nat.le_refl, Nat.not_lt_zero, Nat.zero_le, h1]
  rw [x_0_2120 k12 (by simp only [cw_ref, cw_int, cw_long, cw_nil, Option.toList_some, List.cons_append, List.nil_append]; omega)]
  refine CA_mono h2 ?_
  rintro w S2 I2 L2 R2 ⟨rfl, rfl, hI2⟩
  simp (disch := first | assumption | exact cw0 | omega | (simp only [cw_nil, cw_int, cw_ref, cw_long]; omega) | decide) only [x_0_2105, x_0_2106, x_0_2107, x_0_2108, x_0_2109, x_0_2110, x_0_2114, x_0_2115, x_0_2116, x_0_2117, x_0_2118, x_0_2119, x_0_2123, x_0_2126, x_0_2127, ↓reduceIte, va_rf_some, cw_nil, cw_int, cw_ref, cw_long, kl_int, kl_ref, kl_null, kl_long, kl_none, Option.toList_some, Option.toList_none, List.cons_append, List.nil_append, List.append_nil, nI_add, nI_clamp, nI_ltI, nI_leI, nI_eq, Nat.reduceLT, Nat.reduceLeDiff, Nat.reduceEqDiff, Nat.reduceAdd, Nat.reduceMul, Nat.reduceSub, if_true, if_false, not_true, not_false_eq_true, decide_true, decide_false, Nat.lt_irrefl, Nat.le_refl, Nat.not_lt_zero, Nat.zero_le, eq_self]
  exact go I2 L2 R2 hI2
theorem lc_55 (hI : INV x b xs S I L R) (hb : kd S b = 110) (hn : ln S b = Lx) (hi : i + 6 ≤ Lx) (hL : Lx ≤ 384) (go : ∀ I' L' R', INV x b xs S I' L' R' → WP (d + 41, bc, bs) 0 2187 [some (.ref b), some (.ref x), some (.ref (x + 163)), some (.int (nI i))] [] S I' L' R' Q) : WP (d + 41, bc, bs) 0 2128 [some (.ref b), some (.ref x), some (.ref (x + 163)), some (.int (nI i))] [] S I L R Q := by
  obtain ⟨A, hA⟩ := id hI
  have hs : I b = xs := hA.scr
  have k0 : kd S x = 0 := hA.c.k0
  have k12 : kd S (x + 163) = 12 := md_k hA.m
  have v1 : vp_in (nI (i + 1)) (ln S b) := by rw [hn]; exact of_eq_true (vin (by omega) (by omega))
  have v2 : vp_in (nI (i + 2)) (ln S b) := by rw [hn]; exact of_eq_true (vin (by omega) (by omega))
  have v3 : vp_in (nI (i + 3)) (ln S b) := by rw [hn]; exact of_eq_true (vin (by omega) (by omega))
  have v4 : vp_in (nI (i + 4)) (ln S b) := by rw [hn]; exact of_eq_true (vin (by omega) (by omega))
  have v5 : vp_in (nI (i + 5)) (ln S b) := by rw [hn]; exact of_eq_true (vin (by omega) (by omega))
  simp (disch := first | assumption | exact cw0 | omega | (simp only [cw_nil, cw_int, cw_ref, cw_long]; omega) | decide) only [x_0_2128, x_0_2129, x_0_2130, x_0_2131, x_0_2132, x_0_2133, x_0_2134, x_0_2135, x_0_2136, x_0_2137, x_0_2138, x_0_2142, x_0_2143, x_0_2144, x_0_2145, x_0_2146, x_0_2147, x_0_2148, x_0_2149, x_0_2150, x_0_2151, x_0_2152, x_0_2153, x_0_2156, x_0_2159, x_0_2160, ↓reduceIte, va_rf_some, cw_nil, cw_int, cw_ref, cw_long, kl_int, kl_ref, kl_null, kl_long, kl_none, Option.toList_some, Option.toList_none, List.cons_append, List.nil_append, List.append_nil, nI_add, nI_clamp, nI_ltI, nI_leI, nI_eq, Nat.reduceLT, Nat.reduceLeDiff, Nat.reduceEqDiff, Nat.reduceAdd, Nat.reduceMul, Nat.reduceSub, if_true, if_false, not_true, not_false_eq_true, decide_true, decide_false, Nat.lt_irrefl, Nat.le_refl, Nat.not_lt_zero, Nat.zero_le, hs]
  rw [x_0_2139 k0 (by simp only [cw_ref, cw_int, cw_long, cw_nil, Option.toList_some, List.cons_append, List.nil_append]; omega)]
  refine CA_mono (CA_rt (sim_mean d x b xs S I L R hI)) ?_
  rintro v S1 I1 L1 R1 ⟨⟨rfl, h1, h2⟩, hr, -⟩
  obtain ⟨u, rfl⟩ := hr (Or.inr ht_70)
  simp (disch := first | assumption | exact cw0 | omega | (simp only [cw_nil, cw_int, cw_ref, cw_long]; omega) | decide) only [x_0_2128, x_0_2129, x_0_2130, x_0_2131, x_0_2132, x_0_2133, x_0_2134, x_0_2135, x_0_2136, x_0_2137, x_0_2138, x_0_2142, x_0_2143, x_0_2144, x_0_2145, x_0_2146, x_0_2147, x_0_2148, x_0_2149, x_0_2150, x_0_2151, x_0_2152, x_0_2156, x_0_2159, x_0_2160, ↓reduceIte, va_rf_some, cw_nil, cw_int, cw_ref, cw_long, kl_int, kl_ref, kl_null, kl_long, kl_none, Option.toList_some, Option.toList_none, List.cons_append, List.nil_append, List.append_nil, nI_add, nI_clamp, nI_ltI, nI_leI, nI_eq, Nat.reduceLT, Nat.reduceLeDiff, Nat.reduceEqDiff, Nat.reduceAdd, Nat.reduceMul, Nat.reduceSub, if_true, if_false, not_true, not_false_eq_true, decide_true, decide_false, Nat.lt_irrefl, Nat.le_refl, Nat.not_lt_zero, Nat.zero_le, h1]
  rw [x_0_2153 k12 (by simp only [cw_ref, cw_int, cw_long, cw_nil, Option.toList_some, List.cons_append, List.nil_append]; omega)]
  refine CA_mono h2 ?_
  rintro w S2 I2 L2 R2 ⟨rfl, rfl, hI2⟩
  simp (disch := first | assumption | exact cw0 | omega | (simp only [cw_nil, cw_int, cw_ref, cw_long]; omega) | decide) only [x_0_2128, x_0_2129, x_0_2130, x_0_2131, x_0_2132, x_0_2133, x_0_2134, x_0_2135, x_0_2136, x_0_2137, x_0_2138, x_0_2142, x_0_2143, x_0_2144, x_0_2145, x_0_2146, x_0_2147, x_0_2148, x_0_2149, x_0_2150, x_0_2151, x_0_2152, x_0_2156, x_0_2159, x_0_2160, ↓reduceIte, va_rf_some, cw_nil, cw_int, cw_ref, cw_long, kl_int, kl_ref, kl_null, kl_long, kl_none, Option.toList_some, Option.toList_none, List.cons_append, List.nil_append, List.append_nil, nI_add, nI_clamp, nI_ltI, nI_leI, nI_eq, Nat.reduceLT, Nat.reduceLeDiff, Nat.reduceEqDiff, Nat.reduceAdd, Nat.reduceMul, Nat.reduceSub, if_true, if_false, not_true, not_false_eq_true, decide_true, decide_false, Nat.lt_irrefl, Nat.le_refl, Nat.not_lt_zero, Nat.zero_le, eq_self]
  exact go I2 L2 R2 hI2
theorem lc_56 (hI : INV x b xs S I L R) (hb : kd S b = 110) (hn : ln S b = Lx) (hi : i + 6 ≤ Lx) (hL : Lx ≤ 384) (go : ∀ I' L' R', INV x b xs S I' L' R' → WP (d + 41, bc, bs) 0 2187 [some (.ref b), some (.ref x), some (.ref (x + 163)), some (.int (nI i))] [] S I' L' R' Q) : WP (d + 41, bc, bs) 0 2161 [some (.ref b), some (.ref x), some (.ref (x + 163)), some (.int (nI i))] [] S I L R Q := by
  obtain ⟨A, hA⟩ := id hI
  have hs : I b = xs := hA.scr
  have k0 : kd S x = 0 := hA.c.k0
  have k12 : kd S (x + 163) = 12 := md_k hA.m
  have v1 : vp_in (nI (i + 1)) (ln S b) := by rw [hn]; exact of_eq_true (vin (by omega) (by omega))
  have v2 : vp_in (nI (i + 2)) (ln S b) := by rw [hn]; exact of_eq_true (vin (by omega) (by omega))
  have v3 : vp_in (nI (i + 3)) (ln S b) := by rw [hn]; exact of_eq_true (vin (by omega) (by omega))
  have v4 : vp_in (nI (i + 4)) (ln S b) := by rw [hn]; exact of_eq_true (vin (by omega) (by omega))
  have v5 : vp_in (nI (i + 5)) (ln S b) := by rw [hn]; exact of_eq_true (vin (by omega) (by omega))
  simp (disch := first | assumption | exact cw0 | omega | (simp only [cw_nil, cw_int, cw_ref, cw_long]; omega) | decide) only [x_0_2161, x_0_2165, x_0_2166, x_0_2169, x_0_2172, x_0_2173, ↓reduceIte, va_rf_some, cw_nil, cw_int, cw_ref, cw_long, kl_int, kl_ref, kl_null, kl_long, kl_none, Option.toList_some, Option.toList_none, List.cons_append, List.nil_append, List.append_nil, nI_add, nI_clamp, nI_ltI, nI_leI, nI_eq, Nat.reduceLT, Nat.reduceLeDiff, Nat.reduceEqDiff, Nat.reduceAdd, Nat.reduceMul, Nat.reduceSub, if_true, if_false, not_true, not_false_eq_true, decide_true, decide_false, Nat.lt_irrefl, Nat.le_refl, Nat.not_lt_zero, Nat.zero_le, hs]
  rw [x_0_2162 k0 (by simp only [cw_ref, cw_int, cw_long, cw_nil, Option.toList_some, List.cons_append, List.nil_append]; omega)]
  refine CA_mono (CA_rt (sim_mark d x b xs S I L R hI)) ?_
  rintro v S1 I1 L1 R1 ⟨⟨rfl, h1, h2⟩, hr, -⟩
  obtain ⟨u, rfl⟩ := hr (Or.inl ht_71)
  simp (disch := first | assumption | exact cw0 | omega | (simp only [cw_nil, cw_int, cw_ref, cw_long]; omega) | decide) only [x_0_2161, x_0_2165, x_0_2169, x_0_2172, x_0_2173, ↓reduceIte, va_rf_some, cw_nil, cw_int, cw_ref, cw_long, kl_int, kl_ref, kl_null, kl_long, kl_none, Option.toList_some, Option.toList_none, List.cons_append, List.nil_append, List.append_nil, nI_add, nI_clamp, nI_ltI, nI_leI, nI_eq, Nat.reduceLT, Nat.reduceLeDiff, Nat.reduceEqDiff, Nat.reduceAdd, Nat.reduceMul, Nat.reduceSub, if_true, if_false, not_true, not_false_eq_true, decide_true, decide_false, Nat.lt_irrefl, Nat.le_refl, Nat.not_lt_zero, Nat.zero_le, h1]
  rw [x_0_2166 k12 (by simp only [cw_ref, cw_int, cw_long, cw_nil, Option.toList_some, List.cons_append, List.nil_append]; omega)]
  refine CA_mono h2 ?_
  rintro w S2 I2 L2 R2 ⟨rfl, rfl, hI2⟩
  simp (disch := first | assumption | exact cw0 | omega | (simp only [cw_nil, cw_int, cw_ref, cw_long]; omega) | decide) only [x_0_2161, x_0_2165, x_0_2169, x_0_2172, x_0_2173, ↓reduceIte, va_rf_some, cw_nil, cw_int, cw_ref, cw_long, kl_int, kl_ref, kl_null, kl_long, kl_none, Option.toList_some, Option.toList_none, List.cons_append, List.nil_append, List.append_nil, nI_add, nI_clamp, nI_ltI, nI_leI, nI_eq, Nat.reduceLT, Nat.reduceLeDiff, Nat.reduceEqDiff, Nat.reduceAdd, Nat.reduceMul, Nat.reduceSub, if_true, if_false, not_true, not_false_eq_true, decide_true, decide_false, Nat.lt_irrefl, Nat.le_refl, Nat.not_lt_zero, Nat.zero_le, eq_self]
  exact go I2 L2 R2 hI2
theorem lc_57 (hI : INV x b xs S I L R) (hb : kd S b = 110) (hn : ln S b = Lx) (hi : i + 6 ≤ Lx) (hL : Lx ≤ 384) (go : ∀ I' L' R', INV x b xs S I' L' R' → WP (d + 41, bc, bs) 0 2187 [some (.ref b), some (.ref x), some (.ref (x + 163)), some (.int (nI i))] [] S I' L' R' Q) : WP (d + 41, bc, bs) 0 2174 [some (.ref b), some (.ref x), some (.ref (x + 163)), some (.int (nI i))] [] S I L R Q := by
  obtain ⟨A, hA⟩ := id hI
  have hs : I b = xs := hA.scr
  have k0 : kd S x = 0 := hA.c.k0
  have k12 : kd S (x + 163) = 12 := md_k hA.m
  have v1 : vp_in (nI (i + 1)) (ln S b) := by rw [hn]; exact of_eq_true (vin (by omega) (by omega))
  have v2 : vp_in (nI (i + 2)) (ln S b) := by rw [hn]; exact of_eq_true (vin (by omega) (by omega))
  have v3 : vp_in (nI (i + 3)) (ln S b) := by rw [hn]; exact of_eq_true (vin (by omega) (by omega))
  have v4 : vp_in (nI (i + 4)) (ln S b) := by rw [hn]; exact of_eq_true (vin (by omega) (by omega))
  have v5 : vp_in (nI (i + 5)) (ln S b) := by rw [hn]; exact of_eq_true (vin (by omega) (by omega))
  simp (disch := first | assumption | exact cw0 | omega | (simp only [cw_nil, cw_int, cw_ref, cw_long]; omega) | decide) only [x_0_2174, x_0_2178, x_0_2179, x_0_2182, x_0_2185, x_0_2186, ↓reduceIte, va_rf_some, cw_nil, cw_int, cw_ref, cw_long, kl_int, kl_ref, kl_null, kl_long, kl_none, Option.toList_some, Option.toList_none, List.cons_append, List.nil_append, List.append_nil, nI_add, nI_clamp, nI_ltI, nI_leI, nI_eq, Nat.reduceLT, Nat.reduceLeDiff, Nat.reduceEqDiff, Nat.reduceAdd, Nat.reduceMul, Nat.reduceSub, if_true, if_false, not_true, not_false_eq_true, decide_true, decide_false, Nat.lt_irrefl, Nat.le_refl, Nat.not_lt_zero, Nat.zero_le, hs]
  rw [x_0_2175 k0 (by simp only [cw_ref, cw_int, cw_long, cw_nil, Option.toList_some, List.cons_append, List.nil_append]; omega)]
  refine CA_mono (CA_rt (sim_undo d x b xs S I L R hI)) ?_
  rintro v S1 I1 L1 R1 ⟨⟨rfl, h1, h2⟩, hr, -⟩
  obtain ⟨u, rfl⟩ := hr (Or.inl ht_72)
  simp (disch := first | assumption | exact cw0 | omega | (simp only [cw_nil, cw_int, cw_ref, cw_long]; omega) | decide) only [x_0_2174, x_0_2178, x_0_2182, x_0_2185, x_0_2186, ↓reduceIte, va_rf_some, cw_nil, cw_int, cw_ref, cw_long, kl_int, kl_ref, kl_null, kl_long, kl_none, Option.toList_some, Option.toList_none, List.cons_append, List.nil_append, List.append_nil, nI_add, nI_clamp, nI_ltI, nI_leI, nI_eq, Nat.reduceLT, Nat.reduceLeDiff, Nat.reduceEqDiff, Nat.reduceAdd, Nat.reduceMul, Nat.reduceSub, if_true, if_false, not_true, not_false_eq_true, decide_true, decide_false, Nat.lt_irrefl, Nat.le_refl, Nat.not_lt_zero, Nat.zero_le, h1]
  rw [x_0_2179 k12 (by simp only [cw_ref, cw_int, cw_long, cw_nil, Option.toList_some, List.cons_append, List.nil_append]; omega)]
  refine CA_mono h2 ?_
  rintro w S2 I2 L2 R2 ⟨rfl, rfl, hI2⟩
  simp (disch := first | assumption | exact cw0 | omega | (simp only [cw_nil, cw_int, cw_ref, cw_long]; omega) | decide) only [x_0_2174, x_0_2178, x_0_2182, x_0_2185, x_0_2186, ↓reduceIte, va_rf_some, cw_nil, cw_int, cw_ref, cw_long, kl_int, kl_ref, kl_null, kl_long, kl_none, Option.toList_some, Option.toList_none, List.cons_append, List.nil_append, List.append_nil, nI_add, nI_clamp, nI_ltI, nI_leI, nI_eq, Nat.reduceLT, Nat.reduceLeDiff, Nat.reduceEqDiff, Nat.reduceAdd, Nat.reduceMul, Nat.reduceSub, if_true, if_false, not_true, not_false_eq_true, decide_true, decide_false, Nat.lt_irrefl, Nat.le_refl, Nat.not_lt_zero, Nat.zero_le, eq_self]
  exact go I2 L2 R2 hI2
end LW2

