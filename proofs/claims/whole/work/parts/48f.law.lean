/-! THE LAW: cases 23 to 28 -/
section LC
variable {X : Cx} {S : Sh} {n : Nat} {mu mu1 mu2 : Mem} {la la1 la2 : Lam} {k sl a r o b N : Nat} {xs : Nat → Int32} {ks : List Sk} {i c v : Int}
set_option maxRecDepth 20000 in
theorem ggL_law_L_bestSide : GoodIn wsL_law wsL_bestSide := goodIn_ca (goodIn_ca (goodIn_ca (goodIn_s _ [(1082, 1), (386, 1), (122, 1), (350, 1), (1083, 3), (2, 1), (1086, 1), (415, 4), (16, 1), (391, 4), (419, 3), (31, 1), (422, 1), (50, 1), (180, 2), (133, 9), (1067, 4), (32, 2), (1071, 1), (169, 3), (51, 7), (161, 3), (149, 3), (164, 4), (423, 13), (206, 2), (436, 4), (221, 2), (440, 33), (231, 3), (473, 10), (186, 3), (27, 1), (189, 2), (79, 1), (191, 6), (78, 1), (197, 1), (59, 3), (198, 8), (208, 5), (80, 1), (213, 8), (223, 4), (81, 1), (227, 4), (234, 4), (84, 1), (238, 12), (82, 2), (250, 8), (89, 1), (85, 1), (258, 7), (88, 1), (265, 15), (93, 2), (96, 1), (280, 8), (95, 1), (288, 24), (483, 1), (751, 1), (867, 4), (1349, 6), (1379, 7), (1408, 8), (1395, 13), (1416, 6)] (by rfl) (by decide +kernel)) (goodIn_sub (fun _ h => List.mem_append_left _ (List.mem_append_left _ (List.mem_append_right _ h))) (by decide +kernel))) (goodIn_sub (fun _ h => List.mem_append_left _ (List.mem_append_right _ h)) (by decide +kernel))) (goodIn_sub (fun _ h => List.mem_append_right _ h) (by decide +kernel))
set_option maxRecDepth 20000 in
theorem gL_law_L_bestSide : GoodIn wsL_law (va_wsS RL 180 yL_bestSide wsL_bestSide) := goodIn_app (goodIn_of _ (by decide +kernel)) ggL_law_L_bestSide
set_option maxRecDepth 20000 in
theorem ggL_law_X9_bestSide : GoodIn wsL_law wsX9_bestSide := goodIn_s _ [(1090, 1), (404, 3), (5, 1), (407, 1), (102, 1), (319, 8), (497, 12), (1076, 4), (105, 1), (112, 1), (331, 3), (509, 4), (378, 1), (513, 51), (760, 9), (107, 1), (110, 2), (113, 3), (769, 4), (591, 4), (773, 8), (108, 2), (781, 16), (116, 1), (797, 4), (891, 4), (339, 4), (1355, 24)] (by rfl) (by decide +kernel)
set_option maxRecDepth 20000 in
theorem gL_law_X9_bestSide : GoodIn wsL_law (wsV RL 182 RX9 yX9_bestSide wsX9_bestSide) := goodIn_app (goodIn_of _ (by decide +kernel)) ggL_law_X9_bestSide
theorem dL_law_1724 : decode cL_law 1724 = .ok (.aload_n 1, 1) := by decide +kernel
theorem dL_law_1725 : decode cL_law 1725 = .ok (.aload_n 0, 1) := by decide +kernel
theorem dL_law_1726 : decode cL_law 1726 = .ok (.iload 4, 2) := by decide +kernel
theorem dL_law_1728 : decode cL_law 1728 = .ok (.iconst 1, 1) := by decide +kernel
theorem dL_law_1729 : decode cL_law 1729 = .ok (.iadd, 1) := by decide +kernel
theorem dL_law_1730 : decode cL_law 1730 = .ok (.iaload, 1) := by decide +kernel
theorem dL_law_1731 : decode cL_law 1731 = .ok (.aload_n 0, 1) := by decide +kernel
theorem dL_law_1732 : decode cL_law 1732 = .ok (.iload 4, 2) := by decide +kernel
theorem dL_law_1734 : decode cL_law 1734 = .ok (.iconst 2, 1) := by decide +kernel
theorem dL_law_1735 : decode cL_law 1735 = .ok (.iadd, 1) := by decide +kernel
theorem dL_law_1736 : decode cL_law 1736 = .ok (.iaload, 1) := by decide +kernel
theorem dL_law_1737 : decode cL_law 1737 = .ok (.aload_n 3, 1) := by decide +kernel
theorem dL_law_1738 : decode cL_law 1738 = .ok (.invokestatic 180, 3) := by decide +kernel
theorem dL_law_1741 : decode cL_law 1741 = .ok (.istore 5, 2) := by decide +kernel
theorem dL_law_1743 : decode cL_law 1743 = .ok (.aload_n 2, 1) := by decide +kernel
theorem dL_law_1744 : decode cL_law 1744 = .ok (.aload_n 0, 1) := by decide +kernel
theorem dL_law_1745 : decode cL_law 1745 = .ok (.iload 4, 2) := by decide +kernel
theorem dL_law_1747 : decode cL_law 1747 = .ok (.iconst 1, 1) := by decide +kernel
theorem dL_law_1748 : decode cL_law 1748 = .ok (.iadd, 1) := by decide +kernel
theorem dL_law_1749 : decode cL_law 1749 = .ok (.iaload, 1) := by decide +kernel
theorem dL_law_1750 : decode cL_law 1750 = .ok (.aload_n 0, 1) := by decide +kernel
theorem dL_law_1751 : decode cL_law 1751 = .ok (.iload 4, 2) := by decide +kernel
theorem dL_law_1753 : decode cL_law 1753 = .ok (.iconst 2, 1) := by decide +kernel
theorem dL_law_1754 : decode cL_law 1754 = .ok (.iadd, 1) := by decide +kernel
theorem dL_law_1755 : decode cL_law 1755 = .ok (.iaload, 1) := by decide +kernel
theorem dL_law_1756 : decode cL_law 1756 = .ok (.invokevirtual 182, 3) := by decide +kernel
theorem dL_law_1759 : decode cL_law 1759 = .ok (.istore 6, 2) := by decide +kernel
theorem dL_law_1761 : decode cL_law 1761 = .ok (.aload_n 2, 1) := by decide +kernel
theorem dL_law_1762 : decode cL_law 1762 = .ok (.invokevirtual 108, 3) := by decide +kernel
theorem dL_law_1765 : decode cL_law 1765 = .ok (.iload 5, 2) := by decide +kernel
theorem dL_law_1767 : decode cL_law 1767 = .ok (.if_icmp .eq 5, 3) := by decide +kernel
theorem dL_law_1772 : decode cL_law 1772 = .ok (.iload 5, 2) := by decide +kernel
theorem dL_law_1774 : decode cL_law 1774 = .ok (.ifCond .ne 15, 3) := by decide +kernel
theorem dL_law_1777 : decode cL_law 1777 = .ok (.aload_n 3, 1) := by decide +kernel
theorem dL_law_1778 : decode cL_law 1778 = .ok (.iconst 0, 1) := by decide +kernel
theorem dL_law_1779 : decode cL_law 1779 = .ok (.laload, 1) := by decide +kernel
theorem dL_law_1780 : decode cL_law 1780 = .ok (.iload 6, 2) := by decide +kernel
theorem dL_law_1782 : decode cL_law 1782 = .ok (.i2l, 1) := by decide +kernel
theorem dL_law_1783 : decode cL_law 1783 = .ok (.lcmp, 1) := by decide +kernel
theorem dL_law_1784 : decode cL_law 1784 = .ok (.ifCond .eq 5, 3) := by decide +kernel
theorem dL_law_1789 : decode cL_law 1789 = .ok (.goto 143, 3) := by decide +kernel
theorem C_bestSide (C : Ok X cL_law wsL_law RL (some .boolean) 12 7) (hX : va_X b N xs (xS X) (xS X).heap) (hb : b < (xS X).heap.size ∧ b < gZ (xG X)) (hN : N ≤ 3072) (hi : 0 ≤ i ∧ i + 6 ≤ N) (hO : hasS S o (.inl (1, 1))) (hM : MoS S r) {f9 : Nat} (hf9 : f9 ≤ 11)
    (hL : Ct (xG X) (xL X) yL_bestSide wsL_bestSide 9 1 6 [.ref a, .int (I32 (sc xs (i + 1))), .int (I32 (sc xs (i + 2))), .ref o] S n mu la (Lp S c mu1 la1)) (hR : ∀ n1, Ct (xG X) (xL X) yX9_bestSide wsX9_bestSide f9 0 0 [.ref r, .int (I32 (sc xs (i + 1))), .int (I32 (sc xs (i + 2)))] S n1 mu1 la1 (Dt (some (.int (I32 v))) S n1 mu2 la2)) (hc : 0 ≤ c ∧ c ≤ 3) (h7 : mu2 r 7 = c) (ho : c = 0 → la2 o 0 = (I32 v).toInt64) (hk : k + 1 ≤ (xR X).cells ∧ sl + 6 ≤ (xR X).slots)
    (kk : ∀ n1, V X 1932 [some (.ref b), some (.ref a), some (.ref r), some (.ref o), some (.int (I32 i)), none, none] [] S n1 mu2 la2 (k + 1) (sl + 6)) : V X 1724 [some (.ref b), some (.ref a), some (.ref r), some (.ref o), some (.int (I32 i)), none, none] [] S n mu la k sl := by
  refine V_aload_n C dL_law_1724 rfl ?_
  refine V_aload_n C dL_law_1725 rfl ?_
  refine V_iload C dL_law_1726 rfl ?_
  refine V_iconst C dL_law_1728 ?_
  refine V_iadd C dL_law_1729 ?_
  refine V_sald C hX hb hN (by omega) dL_law_1730 ?_
  refine V_aload_n C dL_law_1731 rfl ?_
  refine V_iload C dL_law_1732 rfl ?_
  refine V_iconst C dL_law_1734 ?_
  refine V_iadd C dL_law_1735 ?_
  refine V_sald C hX hb hN (by omega) dL_law_1736 ?_
  refine V_aload_n C dL_law_1737 rfl ?_
  refine V_callSH (nA := 4) C dL_law_1738 hL gL_law_L_bestSide rfl (by decide +kernel) rfl (by omega) (by decide) (Nat.le_of_ble_eq_true rfl) hk rfl ?_
  rintro _ S9 n1 mu9 la9 ⟨q0, q1, q2, q3⟩
  rw [q0, q1, q2, q3]
  refine V_istore C dL_law_1741 rfl (by decide) ?_
  refine V_aload_n C dL_law_1743 rfl ?_
  refine V_aload_n C dL_law_1744 rfl ?_
  refine V_iload C dL_law_1745 rfl ?_
  refine V_iconst C dL_law_1747 ?_
  refine V_iadd C dL_law_1748 ?_
  refine V_sald C hX hb hN (by omega) dL_law_1749 ?_
  refine V_aload_n C dL_law_1750 rfl ?_
  refine V_iload C dL_law_1751 rfl ?_
  refine V_iconst C dL_law_1753 ?_
  refine V_iadd C dL_law_1754 ?_
  refine V_sald C hX hb hN (by omega) dL_law_1755 ?_
  refine V_callVD (nA := 2) C dL_law_1756 (hR n1) gL_law_X9_bestSide rfl hM.1 rfl (by decide +kernel) rfl (by omega) (by decide) (Nat.le_of_ble_eq_true rfl) hk rfl ?_
  refine V_istore C dL_law_1759 rfl (by decide) ?_
  refine V_aload_n C dL_law_1761 rfl ?_
  refine V_callVD (nA := 0) C dL_law_1762 (m_thrown C.gp hM) gL_law_X9_thrown rfl hM.1 rfl (by decide +kernel) rfl (by omega) (by decide) (Nat.le_of_ble_eq_true rfl) hk rfl ?_
  refine V_iload C dL_law_1765 rfl ?_
  refine V_icmp_eq C 1772 dL_law_1767 (by decide) (by omega) (by omega) (fun _ => ?_) (fun z => absurd h7 z)
  refine V_iload C dL_law_1772 rfl ?_
  have fin : V X 1789 [some (.ref b), some (.ref a), some (.ref r), some (.ref o), some (.int (I32 i)), some (.int (I32 c)), some (.int (I32 v))] [] S n1 mu2 la2 (k + 1) (sl + 6) := by
    refine V_goto C 1932 dL_law_1789 (by decide) ?_
    exact V_fgt (r' := [some (.ref b), some (.ref a), some (.ref r), some (.ref o), some (.int (I32 i)), none, none]) (fun q9 h9 => by simp only [rOf, List.mem_cons, List.not_mem_nil, or_false] at h9 ⊢; rcases h9 with h | h | h | h | h <;> simp [h]) (kk n1)
  refine V_if_ne C 1789 dL_law_1774 (by decide) (by omega) (fun _ => fin) (fun z => ?_)
  refine V_aload_n C dL_law_1777 rfl ?_
  refine V_iconst C dL_law_1778 ?_
  refine V_lald C dL_law_1779 hO (by decide) (by decide) ?_
  refine V_iload C dL_law_1780 rfl ?_
  refine V_i2l C dL_law_1782 ?_
  refine V_lcmp C dL_law_1783 ?_
  rw [show la2 o (0 : Int).toNat = (I32 v).toInt64 from ho z, lg_cmp_xx]
  exact V_if_eq C 1789 dL_law_1784 (by decide) (by omega) (fun _ => fin) (fun z9 => absurd rfl z9)
set_option maxRecDepth 20000 in
theorem ggL_law_L_type : GoodIn wsL_law wsL_type := goodIn_ca (goodIn_ca (goodIn_ca (goodIn_r _ [1093, 122, 350, 1094, 1095, 1096, 2, 1097, 24, 1098, 1099, 1100, 1101, 130, 131, 132, 1102, 1103, 1104, 23, 1105, 1106, 133, 134, 135, 136, 137, 138, 139, 140, 141, 1107, 1108, 1109, 1110, 72, 1111, 149, 150, 151, 206, 207, 1349, 1350, 1351, 1352, 1353, 1354, 1389, 1390, 1391, 1392, 1393, 1394] (by decide +kernel) (by decide +kernel)) (goodIn_sub (fun _ h => List.mem_append_left _ (List.mem_append_left _ (List.mem_append_right _ h))) (by decide +kernel))) (goodIn_sub (fun _ h => List.mem_append_left _ (List.mem_append_right _ h)) (by decide +kernel))) (goodIn_sub (fun _ h => List.mem_append_right _ h) (by decide +kernel))
set_option maxRecDepth 20000 in
theorem gL_law_L_type : GoodIn wsL_law (va_wsS RL 183 yL_type wsL_type) := goodIn_app (goodIn_of _ (by decide +kernel)) ggL_law_L_type
set_option maxRecDepth 20000 in
theorem ggL_law_X9_type : GoodIn wsL_law wsX9_type := goodIn_r _ [1115, 1116, 106, 319, 320, 5, 321, 322, 323, 324, 325, 326, 339, 340, 341, 342, 1355, 1356, 1357, 1358, 1359, 1360, 1361, 1362, 1363, 1364, 1365, 1366, 1367, 1368, 1369, 1370, 1371, 1372, 1373, 1374, 1375, 1376, 1377, 1378] (by decide +kernel) (by decide +kernel)
set_option maxRecDepth 20000 in
theorem gL_law_X9_type : GoodIn wsL_law (wsV RL 185 RX9 yX9_type wsX9_type) := goodIn_app (goodIn_of _ (by decide +kernel)) ggL_law_X9_type
theorem dL_law_1792 : decode cL_law 1792 = .ok (.aload_n 1, 1) := by decide +kernel
theorem dL_law_1793 : decode cL_law 1793 = .ok (.aload_n 0, 1) := by decide +kernel
theorem dL_law_1794 : decode cL_law 1794 = .ok (.iload 4, 2) := by decide +kernel
theorem dL_law_1796 : decode cL_law 1796 = .ok (.iconst 1, 1) := by decide +kernel
theorem dL_law_1797 : decode cL_law 1797 = .ok (.iadd, 1) := by decide +kernel
theorem dL_law_1798 : decode cL_law 1798 = .ok (.iaload, 1) := by decide +kernel
theorem dL_law_1799 : decode cL_law 1799 = .ok (.aload_n 3, 1) := by decide +kernel
theorem dL_law_1800 : decode cL_law 1800 = .ok (.invokestatic 183, 3) := by decide +kernel
theorem dL_law_1803 : decode cL_law 1803 = .ok (.istore 5, 2) := by decide +kernel
theorem dL_law_1805 : decode cL_law 1805 = .ok (.aload_n 2, 1) := by decide +kernel
theorem dL_law_1806 : decode cL_law 1806 = .ok (.aload_n 0, 1) := by decide +kernel
theorem dL_law_1807 : decode cL_law 1807 = .ok (.iload 4, 2) := by decide +kernel
theorem dL_law_1809 : decode cL_law 1809 = .ok (.iconst 1, 1) := by decide +kernel
theorem dL_law_1810 : decode cL_law 1810 = .ok (.iadd, 1) := by decide +kernel
theorem dL_law_1811 : decode cL_law 1811 = .ok (.iaload, 1) := by decide +kernel
theorem dL_law_1812 : decode cL_law 1812 = .ok (.invokevirtual 185, 3) := by decide +kernel
theorem dL_law_1815 : decode cL_law 1815 = .ok (.istore 6, 2) := by decide +kernel
theorem dL_law_1817 : decode cL_law 1817 = .ok (.aload_n 2, 1) := by decide +kernel
theorem dL_law_1818 : decode cL_law 1818 = .ok (.invokevirtual 108, 3) := by decide +kernel
theorem dL_law_1821 : decode cL_law 1821 = .ok (.iload 5, 2) := by decide +kernel
theorem dL_law_1823 : decode cL_law 1823 = .ok (.if_icmp .eq 5, 3) := by decide +kernel
theorem dL_law_1828 : decode cL_law 1828 = .ok (.iload 5, 2) := by decide +kernel
theorem dL_law_1830 : decode cL_law 1830 = .ok (.ifCond .ne 15, 3) := by decide +kernel
theorem dL_law_1833 : decode cL_law 1833 = .ok (.aload_n 3, 1) := by decide +kernel
theorem dL_law_1834 : decode cL_law 1834 = .ok (.iconst 0, 1) := by decide +kernel
theorem dL_law_1835 : decode cL_law 1835 = .ok (.laload, 1) := by decide +kernel
theorem dL_law_1836 : decode cL_law 1836 = .ok (.iload 6, 2) := by decide +kernel
theorem dL_law_1838 : decode cL_law 1838 = .ok (.i2l, 1) := by decide +kernel
theorem dL_law_1839 : decode cL_law 1839 = .ok (.lcmp, 1) := by decide +kernel
theorem dL_law_1840 : decode cL_law 1840 = .ok (.ifCond .eq 5, 3) := by decide +kernel
theorem dL_law_1845 : decode cL_law 1845 = .ok (.goto 87, 3) := by decide +kernel
theorem C_type (C : Ok X cL_law wsL_law RL (some .boolean) 12 7) (hX : va_X b N xs (xS X) (xS X).heap) (hb : b < (xS X).heap.size ∧ b < gZ (xG X)) (hN : N ≤ 3072) (hi : 0 ≤ i ∧ i + 6 ≤ N) (hO : hasS S o (.inl (1, 1))) (hM : MoS S r) {f9 : Nat} (hf9 : f9 ≤ 11)
    (hL : Ct (xG X) (xL X) yL_type wsL_type 9 1 6 [.ref a, .int (I32 (sc xs (i + 1))), .ref o] S n mu la (Lp S c mu1 la1)) (hR : ∀ n1, Ct (xG X) (xL X) yX9_type wsX9_type f9 0 0 [.ref r, .int (I32 (sc xs (i + 1)))] S n1 mu1 la1 (Dt (some (.int (I32 v))) S n1 mu2 la2)) (hc : 0 ≤ c ∧ c ≤ 3) (h7 : mu2 r 7 = c) (ho : c = 0 → la2 o 0 = (I32 v).toInt64) (hk : k + 1 ≤ (xR X).cells ∧ sl + 6 ≤ (xR X).slots)
    (kk : ∀ n1, V X 1932 [some (.ref b), some (.ref a), some (.ref r), some (.ref o), some (.int (I32 i)), none, none] [] S n1 mu2 la2 (k + 1) (sl + 6)) : V X 1792 [some (.ref b), some (.ref a), some (.ref r), some (.ref o), some (.int (I32 i)), none, none] [] S n mu la k sl := by
  refine V_aload_n C dL_law_1792 rfl ?_
  refine V_aload_n C dL_law_1793 rfl ?_
  refine V_iload C dL_law_1794 rfl ?_
  refine V_iconst C dL_law_1796 ?_
  refine V_iadd C dL_law_1797 ?_
  refine V_sald C hX hb hN (by omega) dL_law_1798 ?_
  refine V_aload_n C dL_law_1799 rfl ?_
  refine V_callSH (nA := 3) C dL_law_1800 hL gL_law_L_type rfl (by decide +kernel) rfl (by omega) (by decide) (Nat.le_of_ble_eq_true rfl) hk rfl ?_
  rintro _ S9 n1 mu9 la9 ⟨q0, q1, q2, q3⟩
  rw [q0, q1, q2, q3]
  refine V_istore C dL_law_1803 rfl (by decide) ?_
  refine V_aload_n C dL_law_1805 rfl ?_
  refine V_aload_n C dL_law_1806 rfl ?_
  refine V_iload C dL_law_1807 rfl ?_
  refine V_iconst C dL_law_1809 ?_
  refine V_iadd C dL_law_1810 ?_
  refine V_sald C hX hb hN (by omega) dL_law_1811 ?_
  refine V_callVD (nA := 1) C dL_law_1812 (hR n1) gL_law_X9_type rfl hM.1 rfl (by decide +kernel) rfl (by omega) (by decide) (Nat.le_of_ble_eq_true rfl) hk rfl ?_
  refine V_istore C dL_law_1815 rfl (by decide) ?_
  refine V_aload_n C dL_law_1817 rfl ?_
  refine V_callVD (nA := 0) C dL_law_1818 (m_thrown C.gp hM) gL_law_X9_thrown rfl hM.1 rfl (by decide +kernel) rfl (by omega) (by decide) (Nat.le_of_ble_eq_true rfl) hk rfl ?_
  refine V_iload C dL_law_1821 rfl ?_
  refine V_icmp_eq C 1828 dL_law_1823 (by decide) (by omega) (by omega) (fun _ => ?_) (fun z => absurd h7 z)
  refine V_iload C dL_law_1828 rfl ?_
  have fin : V X 1845 [some (.ref b), some (.ref a), some (.ref r), some (.ref o), some (.int (I32 i)), some (.int (I32 c)), some (.int (I32 v))] [] S n1 mu2 la2 (k + 1) (sl + 6) := by
    refine V_goto C 1932 dL_law_1845 (by decide) ?_
    exact V_fgt (r' := [some (.ref b), some (.ref a), some (.ref r), some (.ref o), some (.int (I32 i)), none, none]) (fun q9 h9 => by simp only [rOf, List.mem_cons, List.not_mem_nil, or_false] at h9 ⊢; rcases h9 with h | h | h | h | h <;> simp [h]) (kk n1)
  refine V_if_ne C 1845 dL_law_1830 (by decide) (by omega) (fun _ => fin) (fun z => ?_)
  refine V_aload_n C dL_law_1833 rfl ?_
  refine V_iconst C dL_law_1834 ?_
  refine V_lald C dL_law_1835 hO (by decide) (by decide) ?_
  refine V_iload C dL_law_1836 rfl ?_
  refine V_i2l C dL_law_1838 ?_
  refine V_lcmp C dL_law_1839 ?_
  rw [show la2 o (0 : Int).toNat = (I32 v).toInt64 from ho z, lg_cmp_xx]
  exact V_if_eq C 1845 dL_law_1840 (by decide) (by omega) (fun _ => fin) (fun z9 => absurd rfl z9)
set_option maxRecDepth 20000 in
theorem ggL_law_X8_clearCommands : GoodIn wsL_law wsX8_clearCommands := goodIn_r _ [1120, 24, 1102, 1103, 1104, 23, 1105, 1106, 1121, 1122, 1123, 1124, 1349, 1350, 1351, 1352, 1353, 1354, 1389, 1390, 1391, 1392, 1393, 1394] (by decide +kernel) (by decide +kernel)
set_option maxRecDepth 20000 in
theorem gL_law_X8_clearCommands : GoodIn wsL_law (wsV RL 186 RX8 yX8_clearCommands wsX8_clearCommands) := goodIn_app (goodIn_of _ (by decide +kernel)) ggL_law_X8_clearCommands
set_option maxRecDepth 20000 in
theorem ggL_law_X9_clearCommands : GoodIn wsL_law wsX9_clearCommands := goodIn_r _ [1128, 1116, 339, 340, 341, 5, 342, 326, 1355, 1356, 1357, 1358, 1359, 1360, 1361, 1362, 1363, 1364, 1365, 1366, 1367, 1368, 1369, 1370, 1371, 1372, 1373, 1374, 1375, 1376, 1377, 1378] (by decide +kernel) (by decide +kernel)
set_option maxRecDepth 20000 in
theorem gL_law_X9_clearCommands : GoodIn wsL_law (wsV RL 189 RX9 yX9_clearCommands wsX9_clearCommands) := goodIn_app (goodIn_of _ (by decide +kernel)) ggL_law_X9_clearCommands
theorem dL_law_1848 : decode cL_law 1848 = .ok (.aload_n 1, 1) := by decide +kernel
theorem dL_law_1849 : decode cL_law 1849 = .ok (.invokevirtual 186, 3) := by decide +kernel
theorem dL_law_1852 : decode cL_law 1852 = .ok (.aload_n 2, 1) := by decide +kernel
theorem dL_law_1853 : decode cL_law 1853 = .ok (.invokevirtual 189, 3) := by decide +kernel
theorem dL_law_1856 : decode cL_law 1856 = .ok (.if_icmp .eq 76, 3) := by decide +kernel
theorem C_clearCommands (C : Ok X cL_law wsL_law RL (some .boolean) 12 7) (hA : hasS S a (.inr (.inr (6, ks)))) (hM : MoS S r) {f8 f9 : Nat} (hf8 : f8 ≤ 11) (hf9 : f9 ≤ 11) (hv : -2147483648 ≤ v ∧ v ≤ 2147483647)
    (hL : Ct (xG X) (xL X) yX8_clearCommands wsX8_clearCommands f8 0 0 [.ref a] S n mu la (Dt (some (.int (I32 v))) S n mu1 la1)) (hR : Ct (xG X) (xL X) yX9_clearCommands wsX9_clearCommands f9 0 0 [.ref r] S n mu1 la1 (Dt (some (.int (I32 v))) S n mu2 la2)) (hk : k ≤ (xR X).cells ∧ sl ≤ (xR X).slots)
    (kk : V X 1932 [some (.ref b), some (.ref a), some (.ref r), some (.ref o), some (.int (I32 i)), none, none] [] S n mu2 la2 k sl) : V X 1848 [some (.ref b), some (.ref a), some (.ref r), some (.ref o), some (.int (I32 i)), none, none] [] S n mu la k sl := by
  refine V_aload_n C dL_law_1848 rfl ?_
  refine V_callVD (nA := 0) C dL_law_1849 hL gL_law_X8_clearCommands rfl hA rfl (by decide +kernel) rfl (by omega) (by decide) (Nat.le_of_ble_eq_true rfl) hk rfl ?_
  refine V_aload_n C dL_law_1852 rfl ?_
  refine V_callVD (nA := 0) C dL_law_1853 hR gL_law_X9_clearCommands rfl hM.1 rfl (by decide +kernel) rfl (by omega) (by decide) (Nat.le_of_ble_eq_true rfl) hk rfl ?_
  exact V_icmp_eq C 1932 dL_law_1856 (by decide) hv hv (fun _ => kk) (fun z => absurd rfl z)
set_option maxRecDepth 20000 in
theorem ggL_law_X8_runCommands : GoodIn wsL_law wsX8_runCommands := goodIn_s _ [(1132, 1), (24, 1), (20, 1), (16, 1), (1133, 3), (23, 1), (1136, 1), (74, 1), (1137, 9), (1106, 1), (1146, 9), (72, 1), (180, 1), (2, 1), (181, 1), (1155, 61), (73, 1), (1216, 8), (206, 2), (142, 3), (19, 1), (145, 11), (67, 1), (156, 3), (15, 1), (159, 1), (38, 2), (160, 1), (41, 1), (43, 1), (45, 1), (161, 10), (31, 1), (171, 1), (50, 8), (172, 4), (44, 1), (176, 4), (1224, 22), (355, 7), (130, 3), (571, 4), (391, 4), (415, 8), (606, 4), (633, 4), (705, 5), (483, 1), (199, 3), (710, 1), (221, 2), (812, 3), (835, 4), (815, 1), (1246, 4), (362, 8), (575, 4), (427, 29), (460, 8), (456, 4), (472, 1), (231, 3), (473, 6), (468, 4), (479, 4), (423, 4), (610, 4), (652, 1), (712, 4), (816, 4), (839, 4), (182, 4), (28, 1), (186, 3), (27, 1), (189, 2), (79, 1), (191, 6), (78, 1), (197, 1), (59, 3), (198, 1), (202, 4), (208, 5), (80, 1), (213, 8), (223, 4), (81, 1), (227, 4), (234, 4), (84, 1), (238, 12), (82, 2), (250, 8), (89, 1), (85, 1), (258, 7), (88, 1), (265, 15), (93, 2), (96, 1), (280, 8), (95, 1), (288, 24), (1349, 6), (1389, 6), (1386, 3), (1379, 7), (1408, 8), (1395, 13), (1416, 6)] (by rfl) (by decide +kernel)
set_option maxRecDepth 20000 in
theorem gL_law_X8_runCommands : GoodIn wsL_law (wsV RL 190 RX8 yX8_runCommands wsX8_runCommands) := goodIn_app (goodIn_of _ (by decide +kernel)) ggL_law_X8_runCommands
set_option maxRecDepth 20000 in
theorem ggL_law_X9_runCommands : GoodIn wsL_law wsX9_runCommands := goodIn_s _ [(1253, 2), (1116, 1), (1255, 3), (5, 1), (1258, 9), (106, 1), (319, 3), (1267, 24), (117, 1), (339, 4), (326, 5), (104, 1), (102, 1), (331, 3), (1291, 4), (374, 5), (587, 4), (404, 4), (513, 4), (501, 4), (517, 12), (505, 4), (529, 16), (591, 4), (545, 19), (595, 4), (489, 12), (509, 4), (618, 4), (657, 4), (720, 5), (824, 4), (851, 4), (334, 5), (103, 1), (1355, 24)] (by rfl) (by decide +kernel)
set_option maxRecDepth 20000 in
theorem gL_law_X9_runCommands : GoodIn wsL_law (wsV RL 193 RX9 yX9_runCommands wsX9_runCommands) := goodIn_app (goodIn_of _ (by decide +kernel)) ggL_law_X9_runCommands
theorem dL_law_1861 : decode cL_law 1861 = .ok (.aload_n 1, 1) := by decide +kernel
theorem dL_law_1862 : decode cL_law 1862 = .ok (.invokevirtual 190, 3) := by decide +kernel
theorem dL_law_1865 : decode cL_law 1865 = .ok (.aload_n 2, 1) := by decide +kernel
theorem dL_law_1866 : decode cL_law 1866 = .ok (.invokevirtual 193, 3) := by decide +kernel
theorem dL_law_1869 : decode cL_law 1869 = .ok (.if_icmp .eq 63, 3) := by decide +kernel
theorem C_runCommands (C : Ok X cL_law wsL_law RL (some .boolean) 12 7) (hA : hasS S a (.inr (.inr (6, ks)))) (hM : MoS S r) {f8 f9 : Nat} (hf8 : f8 ≤ 11) (hf9 : f9 ≤ 11) (hv : -2147483648 ≤ v ∧ v ≤ 2147483647)
    (hL : Ct (xG X) (xL X) yX8_runCommands wsX8_runCommands f8 0 0 [.ref a] S n mu la (Dt (some (.int (I32 v))) S n mu1 la1)) (hR : Ct (xG X) (xL X) yX9_runCommands wsX9_runCommands f9 0 0 [.ref r] S n mu1 la1 (Dt (some (.int (I32 v))) S n mu2 la2)) (hk : k ≤ (xR X).cells ∧ sl ≤ (xR X).slots)
    (kk : V X 1932 [some (.ref b), some (.ref a), some (.ref r), some (.ref o), some (.int (I32 i)), none, none] [] S n mu2 la2 k sl) : V X 1861 [some (.ref b), some (.ref a), some (.ref r), some (.ref o), some (.int (I32 i)), none, none] [] S n mu la k sl := by
  refine V_aload_n C dL_law_1861 rfl ?_
  refine V_callVD (nA := 0) C dL_law_1862 hL gL_law_X8_runCommands rfl hA rfl (by decide +kernel) rfl (by omega) (by decide) (Nat.le_of_ble_eq_true rfl) hk rfl ?_
  refine V_aload_n C dL_law_1865 rfl ?_
  refine V_callVD (nA := 0) C dL_law_1866 hR gL_law_X9_runCommands rfl hM.1 rfl (by decide +kernel) rfl (by omega) (by decide) (Nat.le_of_ble_eq_true rfl) hk rfl ?_
  exact V_icmp_eq C 1932 dL_law_1869 (by decide) hv hv (fun _ => kk) (fun z => absurd rfl z)
set_option maxRecDepth 20000 in
theorem ggL_law_L_undo : GoodIn wsL_law wsL_undo := goodIn_ca (goodIn_ca (goodIn_ca (goodIn_s _ [(1297, 1), (350, 1), (1298, 3), (2, 1), (1301, 1), (20, 1), (16, 1), (1302, 3), (19, 1), (1305, 1), (147, 1), (133, 9), (1306, 4), (146, 1), (152, 4), (67, 1), (156, 3), (15, 1), (159, 1), (38, 2), (160, 1), (41, 1), (43, 1), (45, 1), (161, 3), (149, 3), (164, 7), (31, 1), (171, 1), (50, 8), (172, 4), (44, 1), (176, 10), (28, 1), (186, 3), (27, 1), (189, 2), (79, 1), (191, 6), (78, 1), (197, 1), (59, 3), (198, 15), (80, 1), (213, 14), (81, 1), (227, 11), (84, 1), (238, 12), (82, 2), (250, 8), (89, 1), (85, 1), (258, 7), (88, 1), (265, 15), (93, 2), (96, 1), (280, 8), (95, 1), (288, 24), (1349, 6), (1386, 3), (1379, 7), (1408, 8), (1395, 13), (1416, 6)] (by rfl) (by decide +kernel)) (goodIn_sub (fun _ h => List.mem_append_left _ (List.mem_append_left _ (List.mem_append_right _ h))) (by decide +kernel))) (goodIn_sub (fun _ h => List.mem_append_left _ (List.mem_append_right _ h)) (by decide +kernel))) (goodIn_sub (fun _ h => List.mem_append_right _ h) (by decide +kernel))
set_option maxRecDepth 20000 in
theorem gL_law_L_undo : GoodIn wsL_law (va_wsS RL 194 yL_undo wsL_undo) := goodIn_app (goodIn_of _ (by decide +kernel)) ggL_law_L_undo
set_option maxRecDepth 20000 in
theorem ggL_law_X9_undo : GoodIn wsL_law wsX9_undo := goodIn_r _ [1313, 338, 102, 103, 322, 323, 324, 5, 325, 326, 339, 340, 341, 342, 1355, 1356, 1357, 1358, 1359, 1360, 1361, 1362, 1363, 1364, 1365, 1366, 1367, 1368, 1369, 1370, 1371, 1372, 1373, 1374, 1375, 1376, 1377, 1378] (by decide +kernel) (by decide +kernel)
set_option maxRecDepth 20000 in
theorem gL_law_X9_undo : GoodIn wsL_law (wsV RL 197 RX9 yX9_undo wsX9_undo) := goodIn_app (goodIn_of _ (by decide +kernel)) ggL_law_X9_undo
theorem dL_law_1874 : decode cL_law 1874 = .ok (.aload_n 1, 1) := by decide +kernel
theorem dL_law_1875 : decode cL_law 1875 = .ok (.aload_n 3, 1) := by decide +kernel
theorem dL_law_1876 : decode cL_law 1876 = .ok (.invokestatic 194, 3) := by decide +kernel
theorem dL_law_1879 : decode cL_law 1879 = .ok (.istore 5, 2) := by decide +kernel
theorem dL_law_1881 : decode cL_law 1881 = .ok (.aload_n 2, 1) := by decide +kernel
theorem dL_law_1882 : decode cL_law 1882 = .ok (.invokevirtual 197, 3) := by decide +kernel
theorem dL_law_1885 : decode cL_law 1885 = .ok (.istore 6, 2) := by decide +kernel
theorem dL_law_1887 : decode cL_law 1887 = .ok (.aload_n 2, 1) := by decide +kernel
theorem dL_law_1888 : decode cL_law 1888 = .ok (.invokevirtual 108, 3) := by decide +kernel
theorem dL_law_1891 : decode cL_law 1891 = .ok (.iload 5, 2) := by decide +kernel
theorem dL_law_1893 : decode cL_law 1893 = .ok (.if_icmp .eq 5, 3) := by decide +kernel
theorem dL_law_1898 : decode cL_law 1898 = .ok (.iload 5, 2) := by decide +kernel
theorem dL_law_1900 : decode cL_law 1900 = .ok (.ifCond .ne 15, 3) := by decide +kernel
theorem dL_law_1903 : decode cL_law 1903 = .ok (.aload_n 3, 1) := by decide +kernel
theorem dL_law_1904 : decode cL_law 1904 = .ok (.iconst 0, 1) := by decide +kernel
theorem dL_law_1905 : decode cL_law 1905 = .ok (.laload, 1) := by decide +kernel
theorem dL_law_1906 : decode cL_law 1906 = .ok (.iload 6, 2) := by decide +kernel
theorem dL_law_1908 : decode cL_law 1908 = .ok (.i2l, 1) := by decide +kernel
theorem dL_law_1909 : decode cL_law 1909 = .ok (.lcmp, 1) := by decide +kernel
theorem dL_law_1910 : decode cL_law 1910 = .ok (.ifCond .eq 5, 3) := by decide +kernel
theorem dL_law_1915 : decode cL_law 1915 = .ok (.goto 17, 3) := by decide +kernel
theorem C_undo (C : Ok X cL_law wsL_law RL (some .boolean) 12 7) (hX : va_X b N xs (xS X) (xS X).heap) (hb : b < (xS X).heap.size ∧ b < gZ (xG X)) (hN : N ≤ 3072) (hi : 0 ≤ i ∧ i + 6 ≤ N) (hO : hasS S o (.inl (1, 1))) (hM : MoS S r) {f9 : Nat} (hf9 : f9 ≤ 11)
    (hL : Ct (xG X) (xL X) yL_undo wsL_undo 9 1 6 [.ref a, .ref o] S n mu la (Lp S c mu1 la1)) (hR : ∀ n1, Ct (xG X) (xL X) yX9_undo wsX9_undo f9 0 0 [.ref r] S n1 mu1 la1 (Dt (some (.int (I32 v))) S n1 mu2 la2)) (hc : 0 ≤ c ∧ c ≤ 3) (h7 : mu2 r 7 = c) (ho : c = 0 → la2 o 0 = (I32 v).toInt64) (hk : k + 1 ≤ (xR X).cells ∧ sl + 6 ≤ (xR X).slots)
    (kk : ∀ n1, V X 1932 [some (.ref b), some (.ref a), some (.ref r), some (.ref o), some (.int (I32 i)), none, none] [] S n1 mu2 la2 (k + 1) (sl + 6)) : V X 1874 [some (.ref b), some (.ref a), some (.ref r), some (.ref o), some (.int (I32 i)), none, none] [] S n mu la k sl := by
  refine V_aload_n C dL_law_1874 rfl ?_
  refine V_aload_n C dL_law_1875 rfl ?_
  refine V_callSH (nA := 2) C dL_law_1876 hL gL_law_L_undo rfl (by decide +kernel) rfl (by omega) (by decide) (Nat.le_of_ble_eq_true rfl) hk rfl ?_
  rintro _ S9 n1 mu9 la9 ⟨q0, q1, q2, q3⟩
  rw [q0, q1, q2, q3]
  refine V_istore C dL_law_1879 rfl (by decide) ?_
  refine V_aload_n C dL_law_1881 rfl ?_
  refine V_callVD (nA := 0) C dL_law_1882 (hR n1) gL_law_X9_undo rfl hM.1 rfl (by decide +kernel) rfl (by omega) (by decide) (Nat.le_of_ble_eq_true rfl) hk rfl ?_
  refine V_istore C dL_law_1885 rfl (by decide) ?_
  refine V_aload_n C dL_law_1887 rfl ?_
  refine V_callVD (nA := 0) C dL_law_1888 (m_thrown C.gp hM) gL_law_X9_thrown rfl hM.1 rfl (by decide +kernel) rfl (by omega) (by decide) (Nat.le_of_ble_eq_true rfl) hk rfl ?_
  refine V_iload C dL_law_1891 rfl ?_
  refine V_icmp_eq C 1898 dL_law_1893 (by decide) (by omega) (by omega) (fun _ => ?_) (fun z => absurd h7 z)
  refine V_iload C dL_law_1898 rfl ?_
  have fin : V X 1915 [some (.ref b), some (.ref a), some (.ref r), some (.ref o), some (.int (I32 i)), some (.int (I32 c)), some (.int (I32 v))] [] S n1 mu2 la2 (k + 1) (sl + 6) := by
    refine V_goto C 1932 dL_law_1915 (by decide) ?_
    exact V_fgt (r' := [some (.ref b), some (.ref a), some (.ref r), some (.ref o), some (.int (I32 i)), none, none]) (fun q9 h9 => by simp only [rOf, List.mem_cons, List.not_mem_nil, or_false] at h9 ⊢; rcases h9 with h | h | h | h | h <;> simp [h]) (kk n1)
  refine V_if_ne C 1915 dL_law_1900 (by decide) (by omega) (fun _ => fin) (fun z => ?_)
  refine V_aload_n C dL_law_1903 rfl ?_
  refine V_iconst C dL_law_1904 ?_
  refine V_lald C dL_law_1905 hO (by decide) (by decide) ?_
  refine V_iload C dL_law_1906 rfl ?_
  refine V_i2l C dL_law_1908 ?_
  refine V_lcmp C dL_law_1909 ?_
  rw [show la2 o (0 : Int).toNat = (I32 v).toInt64 from ho z, lg_cmp_xx]
  exact V_if_eq C 1915 dL_law_1910 (by decide) (by omega) (fun _ => fin) (fun z9 => absurd rfl z9)
set_option maxRecDepth 20000 in
theorem ggL_law_X8_digest : GoodIn wsL_law wsX8_digest := goodIn_ca (goodIn_ca (goodIn_ca (goodIn_s _ [(1317, 3), (20, 1), (24, 1), (28, 1), (16, 1), (1302, 3), (19, 1), (1305, 1), (147, 1), (1102, 3), (23, 1), (1105, 2), (1320, 1), (1010, 2), (2, 1), (1012, 1), (130, 12), (843, 4), (419, 3), (31, 1), (422, 1), (50, 1), (180, 2), (579, 3), (27, 1), (582, 1), (190, 1), (212, 1), (1013, 4), (484, 1), (218, 3), (52, 1), (1017, 4), (79, 1), (268, 4), (81, 1), (1021, 4), (191, 1), (1025, 4), (192, 1), (1321, 5), (859, 3), (391, 7), (15, 1), (398, 1), (41, 1), (483, 1), (199, 3), (862, 5), (305, 3), (82, 1), (751, 1), (259, 3), (83, 1), (867, 4), (227, 2), (150, 1), (229, 1), (258, 1), (672, 1), (449, 3), (54, 1), (689, 1), (203, 3), (51, 1), (710, 1), (221, 2), (711, 1), (273, 3), (53, 1), (871, 4), (84, 1), (1326, 1), (950, 6), (740, 1), (441, 3), (1327, 5), (899, 10), (741, 1), (231, 3), (55, 1), (909, 1), (736, 4), (85, 1), (1332, 1), (968, 7), (1333, 1), (995, 3), (815, 1), (177, 3), (45, 1), (1349, 6), (1379, 16), (1408, 8), (1395, 13)] (by rfl) (by decide +kernel)) (goodIn_sub (fun _ h => List.mem_append_left _ (List.mem_append_left _ (List.mem_append_right _ h))) (by decide +kernel))) (goodIn_sub (fun _ h => List.mem_append_left _ (List.mem_append_right _ h)) (by decide +kernel))) (goodIn_sub (fun _ h => List.mem_append_right _ h) (by decide +kernel))
set_option maxRecDepth 20000 in
theorem gL_law_X8_digest : GoodIn wsL_law (wsV RL 198 RX8 yX8_digest wsX8_digest) := goodIn_app (goodIn_of _ (by decide +kernel)) ggL_law_X8_digest
set_option maxRecDepth 20000 in
theorem ggL_law_X9_digest : GoodIn wsL_law wsX9_digest := goodIn_s _ [(1337, 1), (326, 1), (1338, 2), (338, 1), (1116, 1), (102, 1), (760, 3), (5, 1), (763, 6), (107, 1), (110, 6), (769, 4), (591, 4), (505, 4), (319, 3), (773, 4), (533, 8), (777, 4), (108, 2), (781, 4), (501, 4), (785, 12), (116, 1), (797, 4), (1340, 5), (1033, 8), (497, 4), (595, 4), (1041, 8), (1345, 4), (879, 4), (517, 8), (883, 12), (960, 4), (541, 4), (918, 4), (914, 4), (979, 12), (1002, 4), (1355, 24)] (by rfl) (by decide +kernel)
set_option maxRecDepth 20000 in
theorem gL_law_X9_digest : GoodIn wsL_law (wsV RL 202 RX9 yX9_digest wsX9_digest) := goodIn_app (goodIn_of _ (by decide +kernel)) ggL_law_X9_digest
theorem dL_law_1918 : decode cL_law 1918 = .ok (.aload_n 1, 1) := by decide +kernel
theorem dL_law_1919 : decode cL_law 1919 = .ok (.invokevirtual 198, 3) := by decide +kernel
theorem dL_law_1922 : decode cL_law 1922 = .ok (.aload_n 2, 1) := by decide +kernel
theorem dL_law_1923 : decode cL_law 1923 = .ok (.invokevirtual 202, 3) := by decide +kernel
theorem dL_law_1926 : decode cL_law 1926 = .ok (.lcmp, 1) := by decide +kernel
theorem dL_law_1927 : decode cL_law 1927 = .ok (.ifCond .eq 5, 3) := by decide +kernel
theorem C_digest (C : Ok X cL_law wsL_law RL (some .boolean) 12 7) (hA : hasS S a (.inr (.inr (6, ks)))) (hM : MoS S r) {f8 f9 : Nat} (hf8 : f8 ≤ 11) (hf9 : f9 ≤ 11) {v9 : Int64}
    (hL : Ct (xG X) (xL X) yX8_digest wsX8_digest f8 0 0 [.ref a] S n mu la (Dt (some (.long v9)) S n mu1 la1)) (hR : Ct (xG X) (xL X) yX9_digest wsX9_digest f9 0 0 [.ref r] S n mu1 la1 (Dt (some (.long v9)) S n mu2 la2)) (hk : k ≤ (xR X).cells ∧ sl ≤ (xR X).slots)
    (kk : V X 1932 [some (.ref b), some (.ref a), some (.ref r), some (.ref o), some (.int (I32 i)), none, none] [] S n mu2 la2 k sl) : V X 1918 [some (.ref b), some (.ref a), some (.ref r), some (.ref o), some (.int (I32 i)), none, none] [] S n mu la k sl := by
  refine V_aload_n C dL_law_1918 rfl ?_
  refine V_callVD (nA := 0) C dL_law_1919 hL gL_law_X8_digest rfl hA rfl (by decide +kernel) rfl (by omega) (by decide) (Nat.le_of_ble_eq_true rfl) hk rfl ?_
  refine V_aload_n C dL_law_1922 rfl ?_
  refine V_callVD (nA := 0) C dL_law_1923 hR gL_law_X9_digest rfl hM.1 rfl (by decide +kernel) rfl (by omega) (by decide) (Nat.le_of_ble_eq_true rfl) hk rfl ?_
  refine V_lcmp C dL_law_1926 ?_
  rw [lg_cmp_xx]
  exact V_if_eq C 1932 dL_law_1927 (by decide) (by omega) (fun _ => kk) (fun z9 => absurd rfl z9)
end LC
