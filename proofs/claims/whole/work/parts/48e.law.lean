/-! THE LAW: cases 18 to 22 -/
section LC
variable {X : Cx} {S : Sh} {n : Nat} {mu mu1 mu2 : Mem} {la la1 la2 : Lam} {k sl a r o b N : Nat} {xs : Nat → Int32} {ks : List Sk} {i c v : Int}
set_option maxRecDepth 20000 in
theorem ggL_law_L_group : GoodIn wsL_law wsL_group := goodIn_ca (goodIn_ca (goodIn_ca (goodIn_s _ [(966, 1), (122, 1), (967, 3), (2, 1), (970, 1), (16, 1), (28, 1), (953, 3), (133, 9), (971, 3), (27, 1), (974, 1), (190, 1), (79, 1), (180, 2), (221, 2), (672, 1), (449, 2), (31, 1), (451, 1), (54, 1), (1349, 6), (1379, 7), (1395, 21)] (by rfl) (by decide +kernel)) (goodIn_sub (fun _ h => List.mem_append_left _ (List.mem_append_left _ (List.mem_append_right _ h))) (by decide +kernel))) (goodIn_sub (fun _ h => List.mem_append_left _ (List.mem_append_right _ h)) (by decide +kernel))) (goodIn_sub (fun _ h => List.mem_append_right _ h) (by decide +kernel))
set_option maxRecDepth 20000 in
theorem gL_law_L_group : GoodIn wsL_law (va_wsS RL 165 yL_group wsL_group) := goodIn_app (goodIn_of _ (by decide +kernel)) ggL_law_L_group
set_option maxRecDepth 20000 in
theorem ggL_law_X9_group : GoodIn wsL_law wsX9_group := goodIn_s _ [(978, 1), (322, 3), (5, 1), (325, 2), (979, 4), (591, 4), (505, 4), (102, 1), (319, 3), (983, 4), (773, 4), (537, 4), (987, 4), (339, 4), (1355, 24)] (by rfl) (by decide +kernel)
set_option maxRecDepth 20000 in
theorem gL_law_X9_group : GoodIn wsL_law (wsV RL 167 RX9 yX9_group wsX9_group) := goodIn_app (goodIn_of _ (by decide +kernel)) ggL_law_X9_group
theorem dL_law_1408 : decode cL_law 1408 = .ok (.aload_n 1, 1) := by decide +kernel
theorem dL_law_1409 : decode cL_law 1409 = .ok (.aload_n 0, 1) := by decide +kernel
theorem dL_law_1410 : decode cL_law 1410 = .ok (.iload 4, 2) := by decide +kernel
theorem dL_law_1412 : decode cL_law 1412 = .ok (.iconst 1, 1) := by decide +kernel
theorem dL_law_1413 : decode cL_law 1413 = .ok (.iadd, 1) := by decide +kernel
theorem dL_law_1414 : decode cL_law 1414 = .ok (.iaload, 1) := by decide +kernel
theorem dL_law_1415 : decode cL_law 1415 = .ok (.aload_n 3, 1) := by decide +kernel
theorem dL_law_1416 : decode cL_law 1416 = .ok (.invokestatic 165, 3) := by decide +kernel
theorem dL_law_1419 : decode cL_law 1419 = .ok (.istore 5, 2) := by decide +kernel
theorem dL_law_1421 : decode cL_law 1421 = .ok (.aload_n 2, 1) := by decide +kernel
theorem dL_law_1422 : decode cL_law 1422 = .ok (.aload_n 0, 1) := by decide +kernel
theorem dL_law_1423 : decode cL_law 1423 = .ok (.iload 4, 2) := by decide +kernel
theorem dL_law_1425 : decode cL_law 1425 = .ok (.iconst 1, 1) := by decide +kernel
theorem dL_law_1426 : decode cL_law 1426 = .ok (.iadd, 1) := by decide +kernel
theorem dL_law_1427 : decode cL_law 1427 = .ok (.iaload, 1) := by decide +kernel
theorem dL_law_1428 : decode cL_law 1428 = .ok (.invokevirtual 167, 3) := by decide +kernel
theorem dL_law_1431 : decode cL_law 1431 = .ok (.istore 6, 2) := by decide +kernel
theorem dL_law_1433 : decode cL_law 1433 = .ok (.aload_n 2, 1) := by decide +kernel
theorem dL_law_1434 : decode cL_law 1434 = .ok (.invokevirtual 108, 3) := by decide +kernel
theorem dL_law_1437 : decode cL_law 1437 = .ok (.iload 5, 2) := by decide +kernel
theorem dL_law_1439 : decode cL_law 1439 = .ok (.if_icmp .eq 5, 3) := by decide +kernel
theorem dL_law_1444 : decode cL_law 1444 = .ok (.iload 5, 2) := by decide +kernel
theorem dL_law_1446 : decode cL_law 1446 = .ok (.ifCond .ne 15, 3) := by decide +kernel
theorem dL_law_1449 : decode cL_law 1449 = .ok (.aload_n 3, 1) := by decide +kernel
theorem dL_law_1450 : decode cL_law 1450 = .ok (.iconst 0, 1) := by decide +kernel
theorem dL_law_1451 : decode cL_law 1451 = .ok (.laload, 1) := by decide +kernel
theorem dL_law_1452 : decode cL_law 1452 = .ok (.iload 6, 2) := by decide +kernel
theorem dL_law_1454 : decode cL_law 1454 = .ok (.i2l, 1) := by decide +kernel
theorem dL_law_1455 : decode cL_law 1455 = .ok (.lcmp, 1) := by decide +kernel
theorem dL_law_1456 : decode cL_law 1456 = .ok (.ifCond .eq 5, 3) := by decide +kernel
theorem dL_law_1461 : decode cL_law 1461 = .ok (.goto 471, 3) := by decide +kernel
theorem C_group (C : Ok X cL_law wsL_law RL (some .boolean) 12 7) (hX : va_X b N xs (xS X) (xS X).heap) (hb : b < (xS X).heap.size ∧ b < gZ (xG X)) (hN : N ≤ 3072) (hi : 0 ≤ i ∧ i + 6 ≤ N) (hO : hasS S o (.inl (1, 1))) (hM : MoS S r) {f9 : Nat} (hf9 : f9 ≤ 11)
    (hL : Ct (xG X) (xL X) yL_group wsL_group 9 1 6 [.ref a, .int (I32 (sc xs (i + 1))), .ref o] S n mu la (Lp S c mu1 la1)) (hR : ∀ n1, Ct (xG X) (xL X) yX9_group wsX9_group f9 0 0 [.ref r, .int (I32 (sc xs (i + 1)))] S n1 mu1 la1 (Dt (some (.int (I32 v))) S n1 mu2 la2)) (hc : 0 ≤ c ∧ c ≤ 3) (h7 : mu2 r 7 = c) (ho : c = 0 → la2 o 0 = (I32 v).toInt64) (hk : k + 1 ≤ (xR X).cells ∧ sl + 6 ≤ (xR X).slots)
    (kk : ∀ n1, V X 1932 [some (.ref b), some (.ref a), some (.ref r), some (.ref o), some (.int (I32 i)), none, none] [] S n1 mu2 la2 (k + 1) (sl + 6)) : V X 1408 [some (.ref b), some (.ref a), some (.ref r), some (.ref o), some (.int (I32 i)), none, none] [] S n mu la k sl := by
  refine V_aload_n C dL_law_1408 rfl ?_
  refine V_aload_n C dL_law_1409 rfl ?_
  refine V_iload C dL_law_1410 rfl ?_
  refine V_iconst C dL_law_1412 ?_
  refine V_iadd C dL_law_1413 ?_
  refine V_sald C hX hb hN (by omega) dL_law_1414 ?_
  refine V_aload_n C dL_law_1415 rfl ?_
  refine V_callSH (nA := 3) C dL_law_1416 hL gL_law_L_group rfl (by decide +kernel) rfl (by omega) (by decide) (Nat.le_of_ble_eq_true rfl) hk rfl ?_
  rintro _ S9 n1 mu9 la9 ⟨q0, q1, q2, q3⟩
  rw [q0, q1, q2, q3]
  refine V_istore C dL_law_1419 rfl (by decide) ?_
  refine V_aload_n C dL_law_1421 rfl ?_
  refine V_aload_n C dL_law_1422 rfl ?_
  refine V_iload C dL_law_1423 rfl ?_
  refine V_iconst C dL_law_1425 ?_
  refine V_iadd C dL_law_1426 ?_
  refine V_sald C hX hb hN (by omega) dL_law_1427 ?_
  refine V_callVD (nA := 1) C dL_law_1428 (hR n1) gL_law_X9_group rfl hM.1 rfl (by decide +kernel) rfl (by omega) (by decide) (Nat.le_of_ble_eq_true rfl) hk rfl ?_
  refine V_istore C dL_law_1431 rfl (by decide) ?_
  refine V_aload_n C dL_law_1433 rfl ?_
  refine V_callVD (nA := 0) C dL_law_1434 (m_thrown C.gp hM) gL_law_X9_thrown rfl hM.1 rfl (by decide +kernel) rfl (by omega) (by decide) (Nat.le_of_ble_eq_true rfl) hk rfl ?_
  refine V_iload C dL_law_1437 rfl ?_
  refine V_icmp_eq C 1444 dL_law_1439 (by decide) (by omega) (by omega) (fun _ => ?_) (fun z => absurd h7 z)
  refine V_iload C dL_law_1444 rfl ?_
  have fin : V X 1461 [some (.ref b), some (.ref a), some (.ref r), some (.ref o), some (.int (I32 i)), some (.int (I32 c)), some (.int (I32 v))] [] S n1 mu2 la2 (k + 1) (sl + 6) := by
    refine V_goto C 1932 dL_law_1461 (by decide) ?_
    exact V_fgt (r' := [some (.ref b), some (.ref a), some (.ref r), some (.ref o), some (.int (I32 i)), none, none]) (fun q9 h9 => by simp only [rOf, List.mem_cons, List.not_mem_nil, or_false] at h9 ⊢; rcases h9 with h | h | h | h | h <;> simp [h]) (kk n1)
  refine V_if_ne C 1461 dL_law_1446 (by decide) (by omega) (fun _ => fin) (fun z => ?_)
  refine V_aload_n C dL_law_1449 rfl ?_
  refine V_iconst C dL_law_1450 ?_
  refine V_lald C dL_law_1451 hO (by decide) (by decide) ?_
  refine V_iload C dL_law_1452 rfl ?_
  refine V_i2l C dL_law_1454 ?_
  refine V_lcmp C dL_law_1455 ?_
  rw [show la2 o (0 : Int).toNat = (I32 v).toInt64 from ho z, lg_cmp_xx]
  exact V_if_eq C 1461 dL_law_1456 (by decide) (by omega) (fun _ => fin) (fun z9 => absurd rfl z9)
set_option maxRecDepth 20000 in
theorem ggL_law_L_floating : GoodIn wsL_law wsL_floating := goodIn_ca (goodIn_ca (goodIn_ca (goodIn_r _ [993, 122, 994, 995, 996, 2, 997, 16, 953, 954, 955, 133, 134, 135, 136, 137, 138, 139, 140, 141, 740, 441, 442, 31, 443, 50, 51, 180, 181, 672, 449, 450, 451, 54, 1349, 1350, 1351, 1352, 1353, 1354, 1379, 1380, 1381, 1382, 1383, 1384, 1385, 1408, 1409, 1410, 1411, 1412, 1413, 1414, 1415] (by decide +kernel) (by decide +kernel)) (goodIn_sub (fun _ h => List.mem_append_left _ (List.mem_append_left _ (List.mem_append_right _ h))) (by decide +kernel))) (goodIn_sub (fun _ h => List.mem_append_left _ (List.mem_append_right _ h)) (by decide +kernel))) (goodIn_sub (fun _ h => List.mem_append_right _ h) (by decide +kernel))
set_option maxRecDepth 20000 in
theorem gL_law_L_floating : GoodIn wsL_law (va_wsS RL 168 yL_floating wsL_floating) := goodIn_app (goodIn_of _ (by decide +kernel)) ggL_law_L_floating
set_option maxRecDepth 20000 in
theorem ggL_law_X9_floating : GoodIn wsL_law wsX9_floating := goodIn_r _ [1001, 322, 323, 324, 5, 325, 326, 1002, 1003, 1004, 1005, 505, 506, 507, 508, 102, 339, 340, 341, 342, 1355, 1356, 1357, 1358, 1359, 1360, 1361, 1362, 1363, 1364, 1365, 1366, 1367, 1368, 1369, 1370, 1371, 1372, 1373, 1374, 1375, 1376, 1377, 1378] (by decide +kernel) (by decide +kernel)
set_option maxRecDepth 20000 in
theorem gL_law_X9_floating : GoodIn wsL_law (wsV RL 170 RX9 yX9_floating wsX9_floating) := goodIn_app (goodIn_of _ (by decide +kernel)) ggL_law_X9_floating
theorem dL_law_1464 : decode cL_law 1464 = .ok (.aload_n 1, 1) := by decide +kernel
theorem dL_law_1465 : decode cL_law 1465 = .ok (.aload_n 0, 1) := by decide +kernel
theorem dL_law_1466 : decode cL_law 1466 = .ok (.iload 4, 2) := by decide +kernel
theorem dL_law_1468 : decode cL_law 1468 = .ok (.iconst 1, 1) := by decide +kernel
theorem dL_law_1469 : decode cL_law 1469 = .ok (.iadd, 1) := by decide +kernel
theorem dL_law_1470 : decode cL_law 1470 = .ok (.iaload, 1) := by decide +kernel
theorem dL_law_1471 : decode cL_law 1471 = .ok (.aload_n 3, 1) := by decide +kernel
theorem dL_law_1472 : decode cL_law 1472 = .ok (.invokestatic 168, 3) := by decide +kernel
theorem dL_law_1475 : decode cL_law 1475 = .ok (.istore 5, 2) := by decide +kernel
theorem dL_law_1477 : decode cL_law 1477 = .ok (.aload_n 2, 1) := by decide +kernel
theorem dL_law_1478 : decode cL_law 1478 = .ok (.aload_n 0, 1) := by decide +kernel
theorem dL_law_1479 : decode cL_law 1479 = .ok (.iload 4, 2) := by decide +kernel
theorem dL_law_1481 : decode cL_law 1481 = .ok (.iconst 1, 1) := by decide +kernel
theorem dL_law_1482 : decode cL_law 1482 = .ok (.iadd, 1) := by decide +kernel
theorem dL_law_1483 : decode cL_law 1483 = .ok (.iaload, 1) := by decide +kernel
theorem dL_law_1484 : decode cL_law 1484 = .ok (.invokevirtual 170, 3) := by decide +kernel
theorem dL_law_1487 : decode cL_law 1487 = .ok (.istore 6, 2) := by decide +kernel
theorem dL_law_1489 : decode cL_law 1489 = .ok (.aload_n 2, 1) := by decide +kernel
theorem dL_law_1490 : decode cL_law 1490 = .ok (.invokevirtual 108, 3) := by decide +kernel
theorem dL_law_1493 : decode cL_law 1493 = .ok (.iload 5, 2) := by decide +kernel
theorem dL_law_1495 : decode cL_law 1495 = .ok (.if_icmp .eq 5, 3) := by decide +kernel
theorem dL_law_1500 : decode cL_law 1500 = .ok (.iload 5, 2) := by decide +kernel
theorem dL_law_1502 : decode cL_law 1502 = .ok (.ifCond .ne 15, 3) := by decide +kernel
theorem dL_law_1505 : decode cL_law 1505 = .ok (.aload_n 3, 1) := by decide +kernel
theorem dL_law_1506 : decode cL_law 1506 = .ok (.iconst 0, 1) := by decide +kernel
theorem dL_law_1507 : decode cL_law 1507 = .ok (.laload, 1) := by decide +kernel
theorem dL_law_1508 : decode cL_law 1508 = .ok (.iload 6, 2) := by decide +kernel
theorem dL_law_1510 : decode cL_law 1510 = .ok (.i2l, 1) := by decide +kernel
theorem dL_law_1511 : decode cL_law 1511 = .ok (.lcmp, 1) := by decide +kernel
theorem dL_law_1512 : decode cL_law 1512 = .ok (.ifCond .eq 5, 3) := by decide +kernel
theorem dL_law_1517 : decode cL_law 1517 = .ok (.goto 415, 3) := by decide +kernel
theorem C_floating (C : Ok X cL_law wsL_law RL (some .boolean) 12 7) (hX : va_X b N xs (xS X) (xS X).heap) (hb : b < (xS X).heap.size ∧ b < gZ (xG X)) (hN : N ≤ 3072) (hi : 0 ≤ i ∧ i + 6 ≤ N) (hO : hasS S o (.inl (1, 1))) (hM : MoS S r) {f9 : Nat} (hf9 : f9 ≤ 11)
    (hL : Ct (xG X) (xL X) yL_floating wsL_floating 9 1 6 [.ref a, .int (I32 (sc xs (i + 1))), .ref o] S n mu la (Lp S c mu1 la1)) (hR : ∀ n1, Ct (xG X) (xL X) yX9_floating wsX9_floating f9 0 0 [.ref r, .int (I32 (sc xs (i + 1)))] S n1 mu1 la1 (Dt (some (.int (I32 v))) S n1 mu2 la2)) (hc : 0 ≤ c ∧ c ≤ 3) (h7 : mu2 r 7 = c) (ho : c = 0 → la2 o 0 = (I32 v).toInt64) (hk : k + 1 ≤ (xR X).cells ∧ sl + 6 ≤ (xR X).slots)
    (kk : ∀ n1, V X 1932 [some (.ref b), some (.ref a), some (.ref r), some (.ref o), some (.int (I32 i)), none, none] [] S n1 mu2 la2 (k + 1) (sl + 6)) : V X 1464 [some (.ref b), some (.ref a), some (.ref r), some (.ref o), some (.int (I32 i)), none, none] [] S n mu la k sl := by
  refine V_aload_n C dL_law_1464 rfl ?_
  refine V_aload_n C dL_law_1465 rfl ?_
  refine V_iload C dL_law_1466 rfl ?_
  refine V_iconst C dL_law_1468 ?_
  refine V_iadd C dL_law_1469 ?_
  refine V_sald C hX hb hN (by omega) dL_law_1470 ?_
  refine V_aload_n C dL_law_1471 rfl ?_
  refine V_callSH (nA := 3) C dL_law_1472 hL gL_law_L_floating rfl (by decide +kernel) rfl (by omega) (by decide) (Nat.le_of_ble_eq_true rfl) hk rfl ?_
  rintro _ S9 n1 mu9 la9 ⟨q0, q1, q2, q3⟩
  rw [q0, q1, q2, q3]
  refine V_istore C dL_law_1475 rfl (by decide) ?_
  refine V_aload_n C dL_law_1477 rfl ?_
  refine V_aload_n C dL_law_1478 rfl ?_
  refine V_iload C dL_law_1479 rfl ?_
  refine V_iconst C dL_law_1481 ?_
  refine V_iadd C dL_law_1482 ?_
  refine V_sald C hX hb hN (by omega) dL_law_1483 ?_
  refine V_callVD (nA := 1) C dL_law_1484 (hR n1) gL_law_X9_floating rfl hM.1 rfl (by decide +kernel) rfl (by omega) (by decide) (Nat.le_of_ble_eq_true rfl) hk rfl ?_
  refine V_istore C dL_law_1487 rfl (by decide) ?_
  refine V_aload_n C dL_law_1489 rfl ?_
  refine V_callVD (nA := 0) C dL_law_1490 (m_thrown C.gp hM) gL_law_X9_thrown rfl hM.1 rfl (by decide +kernel) rfl (by omega) (by decide) (Nat.le_of_ble_eq_true rfl) hk rfl ?_
  refine V_iload C dL_law_1493 rfl ?_
  refine V_icmp_eq C 1500 dL_law_1495 (by decide) (by omega) (by omega) (fun _ => ?_) (fun z => absurd h7 z)
  refine V_iload C dL_law_1500 rfl ?_
  have fin : V X 1517 [some (.ref b), some (.ref a), some (.ref r), some (.ref o), some (.int (I32 i)), some (.int (I32 c)), some (.int (I32 v))] [] S n1 mu2 la2 (k + 1) (sl + 6) := by
    refine V_goto C 1932 dL_law_1517 (by decide) ?_
    exact V_fgt (r' := [some (.ref b), some (.ref a), some (.ref r), some (.ref o), some (.int (I32 i)), none, none]) (fun q9 h9 => by simp only [rOf, List.mem_cons, List.not_mem_nil, or_false] at h9 ⊢; rcases h9 with h | h | h | h | h <;> simp [h]) (kk n1)
  refine V_if_ne C 1517 dL_law_1502 (by decide) (by omega) (fun _ => fin) (fun z => ?_)
  refine V_aload_n C dL_law_1505 rfl ?_
  refine V_iconst C dL_law_1506 ?_
  refine V_lald C dL_law_1507 hO (by decide) (by decide) ?_
  refine V_iload C dL_law_1508 rfl ?_
  refine V_i2l C dL_law_1510 ?_
  refine V_lcmp C dL_law_1511 ?_
  rw [show la2 o (0 : Int).toNat = (I32 v).toInt64 from ho z, lg_cmp_xx]
  exact V_if_eq C 1517 dL_law_1512 (by decide) (by omega) (fun _ => fin) (fun z9 => absurd rfl z9)
set_option maxRecDepth 20000 in
theorem ggL_law_L_whole : GoodIn wsL_law wsL_whole := goodIn_ca (goodIn_ca (goodIn_ca (goodIn_s _ [(1008, 1), (122, 1), (1009, 3), (2, 1), (1012, 1), (16, 1), (28, 1), (130, 12), (843, 4), (419, 3), (31, 1), (422, 1), (50, 1), (180, 2), (579, 3), (27, 1), (582, 1), (190, 1), (212, 1), (1013, 4), (484, 1), (218, 3), (52, 1), (1017, 4), (79, 1), (268, 4), (81, 1), (1021, 4), (191, 1), (1025, 4), (192, 1), (1349, 6), (1379, 7), (1408, 8), (1395, 13)] (by rfl) (by decide +kernel)) (goodIn_sub (fun _ h => List.mem_append_left _ (List.mem_append_left _ (List.mem_append_right _ h))) (by decide +kernel))) (goodIn_sub (fun _ h => List.mem_append_left _ (List.mem_append_right _ h)) (by decide +kernel))) (goodIn_sub (fun _ h => List.mem_append_right _ h) (by decide +kernel))
set_option maxRecDepth 20000 in
theorem gL_law_L_whole : GoodIn wsL_law (va_wsS RL 171 yL_whole wsL_whole) := goodIn_app (goodIn_of _ (by decide +kernel)) ggL_law_L_whole
set_option maxRecDepth 20000 in
theorem ggL_law_X9_whole : GoodIn wsL_law wsX9_whole := goodIn_s _ [(1032, 1), (319, 2), (5, 1), (321, 6), (760, 4), (102, 1), (764, 5), (107, 1), (110, 6), (769, 4), (591, 4), (505, 4), (773, 4), (533, 8), (777, 4), (108, 2), (781, 4), (501, 4), (785, 12), (116, 1), (797, 4), (1033, 8), (497, 4), (595, 4), (1041, 8), (339, 4), (1355, 24)] (by rfl) (by decide +kernel)
set_option maxRecDepth 20000 in
theorem gL_law_X9_whole : GoodIn wsL_law (wsV RL 173 RX9 yX9_whole wsX9_whole) := goodIn_app (goodIn_of _ (by decide +kernel)) ggL_law_X9_whole
theorem dL_law_1520 : decode cL_law 1520 = .ok (.aload_n 1, 1) := by decide +kernel
theorem dL_law_1521 : decode cL_law 1521 = .ok (.aload_n 0, 1) := by decide +kernel
theorem dL_law_1522 : decode cL_law 1522 = .ok (.iload 4, 2) := by decide +kernel
theorem dL_law_1524 : decode cL_law 1524 = .ok (.iconst 1, 1) := by decide +kernel
theorem dL_law_1525 : decode cL_law 1525 = .ok (.iadd, 1) := by decide +kernel
theorem dL_law_1526 : decode cL_law 1526 = .ok (.iaload, 1) := by decide +kernel
theorem dL_law_1527 : decode cL_law 1527 = .ok (.aload_n 3, 1) := by decide +kernel
theorem dL_law_1528 : decode cL_law 1528 = .ok (.invokestatic 171, 3) := by decide +kernel
theorem dL_law_1531 : decode cL_law 1531 = .ok (.istore 5, 2) := by decide +kernel
theorem dL_law_1533 : decode cL_law 1533 = .ok (.aload_n 2, 1) := by decide +kernel
theorem dL_law_1534 : decode cL_law 1534 = .ok (.aload_n 0, 1) := by decide +kernel
theorem dL_law_1535 : decode cL_law 1535 = .ok (.iload 4, 2) := by decide +kernel
theorem dL_law_1537 : decode cL_law 1537 = .ok (.iconst 1, 1) := by decide +kernel
theorem dL_law_1538 : decode cL_law 1538 = .ok (.iadd, 1) := by decide +kernel
theorem dL_law_1539 : decode cL_law 1539 = .ok (.iaload, 1) := by decide +kernel
theorem dL_law_1540 : decode cL_law 1540 = .ok (.invokevirtual 173, 3) := by decide +kernel
theorem dL_law_1543 : decode cL_law 1543 = .ok (.istore 6, 2) := by decide +kernel
theorem dL_law_1545 : decode cL_law 1545 = .ok (.aload_n 2, 1) := by decide +kernel
theorem dL_law_1546 : decode cL_law 1546 = .ok (.invokevirtual 108, 3) := by decide +kernel
theorem dL_law_1549 : decode cL_law 1549 = .ok (.iload 5, 2) := by decide +kernel
theorem dL_law_1551 : decode cL_law 1551 = .ok (.if_icmp .eq 5, 3) := by decide +kernel
theorem dL_law_1556 : decode cL_law 1556 = .ok (.iload 5, 2) := by decide +kernel
theorem dL_law_1558 : decode cL_law 1558 = .ok (.ifCond .ne 15, 3) := by decide +kernel
theorem dL_law_1561 : decode cL_law 1561 = .ok (.aload_n 3, 1) := by decide +kernel
theorem dL_law_1562 : decode cL_law 1562 = .ok (.iconst 0, 1) := by decide +kernel
theorem dL_law_1563 : decode cL_law 1563 = .ok (.laload, 1) := by decide +kernel
theorem dL_law_1564 : decode cL_law 1564 = .ok (.iload 6, 2) := by decide +kernel
theorem dL_law_1566 : decode cL_law 1566 = .ok (.i2l, 1) := by decide +kernel
theorem dL_law_1567 : decode cL_law 1567 = .ok (.lcmp, 1) := by decide +kernel
theorem dL_law_1568 : decode cL_law 1568 = .ok (.ifCond .eq 5, 3) := by decide +kernel
theorem dL_law_1573 : decode cL_law 1573 = .ok (.goto 359, 3) := by decide +kernel
theorem C_whole (C : Ok X cL_law wsL_law RL (some .boolean) 12 7) (hX : va_X b N xs (xS X) (xS X).heap) (hb : b < (xS X).heap.size ∧ b < gZ (xG X)) (hN : N ≤ 3072) (hi : 0 ≤ i ∧ i + 6 ≤ N) (hO : hasS S o (.inl (1, 1))) (hM : MoS S r) {f9 : Nat} (hf9 : f9 ≤ 11)
    (hL : Ct (xG X) (xL X) yL_whole wsL_whole 9 1 6 [.ref a, .int (I32 (sc xs (i + 1))), .ref o] S n mu la (Lp S c mu1 la1)) (hR : ∀ n1, Ct (xG X) (xL X) yX9_whole wsX9_whole f9 0 0 [.ref r, .int (I32 (sc xs (i + 1)))] S n1 mu1 la1 (Dt (some (.int (I32 v))) S n1 mu2 la2)) (hc : 0 ≤ c ∧ c ≤ 3) (h7 : mu2 r 7 = c) (ho : c = 0 → la2 o 0 = (I32 v).toInt64) (hk : k + 1 ≤ (xR X).cells ∧ sl + 6 ≤ (xR X).slots)
    (kk : ∀ n1, V X 1932 [some (.ref b), some (.ref a), some (.ref r), some (.ref o), some (.int (I32 i)), none, none] [] S n1 mu2 la2 (k + 1) (sl + 6)) : V X 1520 [some (.ref b), some (.ref a), some (.ref r), some (.ref o), some (.int (I32 i)), none, none] [] S n mu la k sl := by
  refine V_aload_n C dL_law_1520 rfl ?_
  refine V_aload_n C dL_law_1521 rfl ?_
  refine V_iload C dL_law_1522 rfl ?_
  refine V_iconst C dL_law_1524 ?_
  refine V_iadd C dL_law_1525 ?_
  refine V_sald C hX hb hN (by omega) dL_law_1526 ?_
  refine V_aload_n C dL_law_1527 rfl ?_
  refine V_callSH (nA := 3) C dL_law_1528 hL gL_law_L_whole rfl (by decide +kernel) rfl (by omega) (by decide) (Nat.le_of_ble_eq_true rfl) hk rfl ?_
  rintro _ S9 n1 mu9 la9 ⟨q0, q1, q2, q3⟩
  rw [q0, q1, q2, q3]
  refine V_istore C dL_law_1531 rfl (by decide) ?_
  refine V_aload_n C dL_law_1533 rfl ?_
  refine V_aload_n C dL_law_1534 rfl ?_
  refine V_iload C dL_law_1535 rfl ?_
  refine V_iconst C dL_law_1537 ?_
  refine V_iadd C dL_law_1538 ?_
  refine V_sald C hX hb hN (by omega) dL_law_1539 ?_
  refine V_callVD (nA := 1) C dL_law_1540 (hR n1) gL_law_X9_whole rfl hM.1 rfl (by decide +kernel) rfl (by omega) (by decide) (Nat.le_of_ble_eq_true rfl) hk rfl ?_
  refine V_istore C dL_law_1543 rfl (by decide) ?_
  refine V_aload_n C dL_law_1545 rfl ?_
  refine V_callVD (nA := 0) C dL_law_1546 (m_thrown C.gp hM) gL_law_X9_thrown rfl hM.1 rfl (by decide +kernel) rfl (by omega) (by decide) (Nat.le_of_ble_eq_true rfl) hk rfl ?_
  refine V_iload C dL_law_1549 rfl ?_
  refine V_icmp_eq C 1556 dL_law_1551 (by decide) (by omega) (by omega) (fun _ => ?_) (fun z => absurd h7 z)
  refine V_iload C dL_law_1556 rfl ?_
  have fin : V X 1573 [some (.ref b), some (.ref a), some (.ref r), some (.ref o), some (.int (I32 i)), some (.int (I32 c)), some (.int (I32 v))] [] S n1 mu2 la2 (k + 1) (sl + 6) := by
    refine V_goto C 1932 dL_law_1573 (by decide) ?_
    exact V_fgt (r' := [some (.ref b), some (.ref a), some (.ref r), some (.ref o), some (.int (I32 i)), none, none]) (fun q9 h9 => by simp only [rOf, List.mem_cons, List.not_mem_nil, or_false] at h9 ⊢; rcases h9 with h | h | h | h | h <;> simp [h]) (kk n1)
  refine V_if_ne C 1573 dL_law_1558 (by decide) (by omega) (fun _ => fin) (fun z => ?_)
  refine V_aload_n C dL_law_1561 rfl ?_
  refine V_iconst C dL_law_1562 ?_
  refine V_lald C dL_law_1563 hO (by decide) (by decide) ?_
  refine V_iload C dL_law_1564 rfl ?_
  refine V_i2l C dL_law_1566 ?_
  refine V_lcmp C dL_law_1567 ?_
  rw [show la2 o (0 : Int).toNat = (I32 v).toInt64 from ho z, lg_cmp_xx]
  exact V_if_eq C 1573 dL_law_1568 (by decide) (by omega) (fun _ => fin) (fun z9 => absurd rfl z9)
set_option maxRecDepth 20000 in
theorem ggL_law_L_tightIn : GoodIn wsL_law wsL_tightIn := goodIn_ca (goodIn_ca (goodIn_ca (goodIn_s _ [(1051, 1), (122, 1), (1052, 3), (2, 1), (1055, 1), (33, 1), (16, 1), (127, 15), (186, 3), (27, 1), (189, 2), (79, 1), (191, 6), (78, 1), (197, 1), (59, 3), (198, 3), (31, 1), (201, 1), (50, 1), (180, 2), (202, 4), (51, 1), (206, 7), (80, 1), (213, 8), (52, 1), (221, 6), (81, 1), (227, 2), (150, 1), (229, 5), (55, 1), (234, 4), (84, 1), (238, 4), (56, 1), (242, 4), (57, 1), (246, 4), (82, 2), (250, 8), (89, 1), (85, 1), (258, 7), (88, 1), (265, 11), (53, 1), (276, 4), (93, 2), (96, 1), (280, 8), (95, 1), (288, 24), (1021, 4), (1349, 6), (1379, 7), (1395, 27)] (by rfl) (by decide +kernel)) (goodIn_sub (fun _ h => List.mem_append_left _ (List.mem_append_left _ (List.mem_append_right _ h))) (by decide +kernel))) (goodIn_sub (fun _ h => List.mem_append_left _ (List.mem_append_right _ h)) (by decide +kernel))) (goodIn_sub (fun _ h => List.mem_append_right _ h) (by decide +kernel))
set_option maxRecDepth 20000 in
theorem gL_law_L_tightIn : GoodIn wsL_law (va_wsS RL 174 yL_tightIn wsL_tightIn) := goodIn_app (goodIn_of _ (by decide +kernel)) ggL_law_L_tightIn
set_option maxRecDepth 20000 in
theorem ggL_law_X9_tightIn : GoodIn wsL_law wsX9_tightIn := goodIn_s _ [(1059, 1), (316, 2), (5, 1), (318, 9), (764, 5), (107, 1), (110, 6), (769, 4), (591, 4), (505, 4), (102, 1), (773, 4), (533, 8), (777, 4), (108, 2), (781, 4), (501, 4), (785, 12), (116, 1), (797, 4), (1041, 4), (339, 4), (1355, 24)] (by rfl) (by decide +kernel)
set_option maxRecDepth 20000 in
theorem gL_law_X9_tightIn : GoodIn wsL_law (wsV RL 176 RX9 yX9_tightIn wsX9_tightIn) := goodIn_app (goodIn_of _ (by decide +kernel)) ggL_law_X9_tightIn
theorem dL_law_1576 : decode cL_law 1576 = .ok (.aload_n 1, 1) := by decide +kernel
theorem dL_law_1577 : decode cL_law 1577 = .ok (.aload_n 0, 1) := by decide +kernel
theorem dL_law_1578 : decode cL_law 1578 = .ok (.iload 4, 2) := by decide +kernel
theorem dL_law_1580 : decode cL_law 1580 = .ok (.iconst 1, 1) := by decide +kernel
theorem dL_law_1581 : decode cL_law 1581 = .ok (.iadd, 1) := by decide +kernel
theorem dL_law_1582 : decode cL_law 1582 = .ok (.iaload, 1) := by decide +kernel
theorem dL_law_1583 : decode cL_law 1583 = .ok (.aload_n 0, 1) := by decide +kernel
theorem dL_law_1584 : decode cL_law 1584 = .ok (.iload 4, 2) := by decide +kernel
theorem dL_law_1586 : decode cL_law 1586 = .ok (.iconst 2, 1) := by decide +kernel
theorem dL_law_1587 : decode cL_law 1587 = .ok (.iadd, 1) := by decide +kernel
theorem dL_law_1588 : decode cL_law 1588 = .ok (.iaload, 1) := by decide +kernel
theorem dL_law_1589 : decode cL_law 1589 = .ok (.aload_n 3, 1) := by decide +kernel
theorem dL_law_1590 : decode cL_law 1590 = .ok (.invokestatic 174, 3) := by decide +kernel
theorem dL_law_1593 : decode cL_law 1593 = .ok (.istore 5, 2) := by decide +kernel
theorem dL_law_1595 : decode cL_law 1595 = .ok (.aload_n 2, 1) := by decide +kernel
theorem dL_law_1596 : decode cL_law 1596 = .ok (.aload_n 0, 1) := by decide +kernel
theorem dL_law_1597 : decode cL_law 1597 = .ok (.iload 4, 2) := by decide +kernel
theorem dL_law_1599 : decode cL_law 1599 = .ok (.iconst 1, 1) := by decide +kernel
theorem dL_law_1600 : decode cL_law 1600 = .ok (.iadd, 1) := by decide +kernel
theorem dL_law_1601 : decode cL_law 1601 = .ok (.iaload, 1) := by decide +kernel
theorem dL_law_1602 : decode cL_law 1602 = .ok (.aload_n 0, 1) := by decide +kernel
theorem dL_law_1603 : decode cL_law 1603 = .ok (.iload 4, 2) := by decide +kernel
theorem dL_law_1605 : decode cL_law 1605 = .ok (.iconst 2, 1) := by decide +kernel
theorem dL_law_1606 : decode cL_law 1606 = .ok (.iadd, 1) := by decide +kernel
theorem dL_law_1607 : decode cL_law 1607 = .ok (.iaload, 1) := by decide +kernel
theorem dL_law_1608 : decode cL_law 1608 = .ok (.invokevirtual 176, 3) := by decide +kernel
theorem dL_law_1611 : decode cL_law 1611 = .ok (.istore 6, 2) := by decide +kernel
theorem dL_law_1613 : decode cL_law 1613 = .ok (.aload_n 2, 1) := by decide +kernel
theorem dL_law_1614 : decode cL_law 1614 = .ok (.invokevirtual 108, 3) := by decide +kernel
theorem dL_law_1617 : decode cL_law 1617 = .ok (.iload 5, 2) := by decide +kernel
theorem dL_law_1619 : decode cL_law 1619 = .ok (.if_icmp .eq 5, 3) := by decide +kernel
theorem dL_law_1624 : decode cL_law 1624 = .ok (.iload 5, 2) := by decide +kernel
theorem dL_law_1626 : decode cL_law 1626 = .ok (.ifCond .ne 15, 3) := by decide +kernel
theorem dL_law_1629 : decode cL_law 1629 = .ok (.aload_n 3, 1) := by decide +kernel
theorem dL_law_1630 : decode cL_law 1630 = .ok (.iconst 0, 1) := by decide +kernel
theorem dL_law_1631 : decode cL_law 1631 = .ok (.laload, 1) := by decide +kernel
theorem dL_law_1632 : decode cL_law 1632 = .ok (.iload 6, 2) := by decide +kernel
theorem dL_law_1634 : decode cL_law 1634 = .ok (.i2l, 1) := by decide +kernel
theorem dL_law_1635 : decode cL_law 1635 = .ok (.lcmp, 1) := by decide +kernel
theorem dL_law_1636 : decode cL_law 1636 = .ok (.ifCond .eq 5, 3) := by decide +kernel
theorem dL_law_1641 : decode cL_law 1641 = .ok (.goto 291, 3) := by decide +kernel
theorem C_tightIn (C : Ok X cL_law wsL_law RL (some .boolean) 12 7) (hX : va_X b N xs (xS X) (xS X).heap) (hb : b < (xS X).heap.size ∧ b < gZ (xG X)) (hN : N ≤ 3072) (hi : 0 ≤ i ∧ i + 6 ≤ N) (hO : hasS S o (.inl (1, 1))) (hM : MoS S r) {f9 : Nat} (hf9 : f9 ≤ 11)
    (hL : Ct (xG X) (xL X) yL_tightIn wsL_tightIn 9 1 6 [.ref a, .int (I32 (sc xs (i + 1))), .int (I32 (sc xs (i + 2))), .ref o] S n mu la (Lp S c mu1 la1)) (hR : ∀ n1, Ct (xG X) (xL X) yX9_tightIn wsX9_tightIn f9 0 0 [.ref r, .int (I32 (sc xs (i + 1))), .int (I32 (sc xs (i + 2)))] S n1 mu1 la1 (Dt (some (.int (I32 v))) S n1 mu2 la2)) (hc : 0 ≤ c ∧ c ≤ 3) (h7 : mu2 r 7 = c) (ho : c = 0 → la2 o 0 = (I32 v).toInt64) (hk : k + 1 ≤ (xR X).cells ∧ sl + 6 ≤ (xR X).slots)
    (kk : ∀ n1, V X 1932 [some (.ref b), some (.ref a), some (.ref r), some (.ref o), some (.int (I32 i)), none, none] [] S n1 mu2 la2 (k + 1) (sl + 6)) : V X 1576 [some (.ref b), some (.ref a), some (.ref r), some (.ref o), some (.int (I32 i)), none, none] [] S n mu la k sl := by
  refine V_aload_n C dL_law_1576 rfl ?_
  refine V_aload_n C dL_law_1577 rfl ?_
  refine V_iload C dL_law_1578 rfl ?_
  refine V_iconst C dL_law_1580 ?_
  refine V_iadd C dL_law_1581 ?_
  refine V_sald C hX hb hN (by omega) dL_law_1582 ?_
  refine V_aload_n C dL_law_1583 rfl ?_
  refine V_iload C dL_law_1584 rfl ?_
  refine V_iconst C dL_law_1586 ?_
  refine V_iadd C dL_law_1587 ?_
  refine V_sald C hX hb hN (by omega) dL_law_1588 ?_
  refine V_aload_n C dL_law_1589 rfl ?_
  refine V_callSH (nA := 4) C dL_law_1590 hL gL_law_L_tightIn rfl (by decide +kernel) rfl (by omega) (by decide) (Nat.le_of_ble_eq_true rfl) hk rfl ?_
  rintro _ S9 n1 mu9 la9 ⟨q0, q1, q2, q3⟩
  rw [q0, q1, q2, q3]
  refine V_istore C dL_law_1593 rfl (by decide) ?_
  refine V_aload_n C dL_law_1595 rfl ?_
  refine V_aload_n C dL_law_1596 rfl ?_
  refine V_iload C dL_law_1597 rfl ?_
  refine V_iconst C dL_law_1599 ?_
  refine V_iadd C dL_law_1600 ?_
  refine V_sald C hX hb hN (by omega) dL_law_1601 ?_
  refine V_aload_n C dL_law_1602 rfl ?_
  refine V_iload C dL_law_1603 rfl ?_
  refine V_iconst C dL_law_1605 ?_
  refine V_iadd C dL_law_1606 ?_
  refine V_sald C hX hb hN (by omega) dL_law_1607 ?_
  refine V_callVD (nA := 2) C dL_law_1608 (hR n1) gL_law_X9_tightIn rfl hM.1 rfl (by decide +kernel) rfl (by omega) (by decide) (Nat.le_of_ble_eq_true rfl) hk rfl ?_
  refine V_istore C dL_law_1611 rfl (by decide) ?_
  refine V_aload_n C dL_law_1613 rfl ?_
  refine V_callVD (nA := 0) C dL_law_1614 (m_thrown C.gp hM) gL_law_X9_thrown rfl hM.1 rfl (by decide +kernel) rfl (by omega) (by decide) (Nat.le_of_ble_eq_true rfl) hk rfl ?_
  refine V_iload C dL_law_1617 rfl ?_
  refine V_icmp_eq C 1624 dL_law_1619 (by decide) (by omega) (by omega) (fun _ => ?_) (fun z => absurd h7 z)
  refine V_iload C dL_law_1624 rfl ?_
  have fin : V X 1641 [some (.ref b), some (.ref a), some (.ref r), some (.ref o), some (.int (I32 i)), some (.int (I32 c)), some (.int (I32 v))] [] S n1 mu2 la2 (k + 1) (sl + 6) := by
    refine V_goto C 1932 dL_law_1641 (by decide) ?_
    exact V_fgt (r' := [some (.ref b), some (.ref a), some (.ref r), some (.ref o), some (.int (I32 i)), none, none]) (fun q9 h9 => by simp only [rOf, List.mem_cons, List.not_mem_nil, or_false] at h9 ⊢; rcases h9 with h | h | h | h | h <;> simp [h]) (kk n1)
  refine V_if_ne C 1641 dL_law_1626 (by decide) (by omega) (fun _ => fin) (fun z => ?_)
  refine V_aload_n C dL_law_1629 rfl ?_
  refine V_iconst C dL_law_1630 ?_
  refine V_lald C dL_law_1631 hO (by decide) (by decide) ?_
  refine V_iload C dL_law_1632 rfl ?_
  refine V_i2l C dL_law_1634 ?_
  refine V_lcmp C dL_law_1635 ?_
  rw [show la2 o (0 : Int).toNat = (I32 v).toInt64 from ho z, lg_cmp_xx]
  exact V_if_eq C 1641 dL_law_1636 (by decide) (by omega) (fun _ => fin) (fun z9 => absurd rfl z9)
set_option maxRecDepth 20000 in
theorem ggL_law_L_cellsIf : GoodIn wsL_law wsL_cellsIf := goodIn_ca (goodIn_ca (goodIn_ca (goodIn_s _ [(1062, 1), (386, 1), (122, 1), (350, 1), (1063, 3), (2, 1), (1066, 1), (415, 4), (16, 1), (391, 4), (419, 3), (31, 1), (422, 1), (50, 1), (180, 2), (133, 9), (1067, 4), (32, 2), (1071, 1), (169, 3), (51, 7), (161, 3), (149, 3), (164, 4), (423, 13), (206, 2), (436, 4), (221, 2), (440, 33), (231, 3), (473, 10), (186, 3), (27, 1), (189, 2), (79, 1), (191, 6), (78, 1), (197, 1), (59, 3), (198, 8), (208, 5), (80, 1), (213, 8), (223, 4), (81, 1), (227, 4), (234, 4), (84, 1), (238, 12), (82, 2), (250, 8), (89, 1), (85, 1), (258, 7), (88, 1), (265, 15), (93, 2), (96, 1), (280, 8), (95, 1), (288, 24), (483, 1), (751, 1), (867, 4), (1349, 6), (1379, 7), (1408, 8), (1395, 13), (1416, 6)] (by rfl) (by decide +kernel)) (goodIn_sub (fun _ h => List.mem_append_left _ (List.mem_append_left _ (List.mem_append_right _ h))) (by decide +kernel))) (goodIn_sub (fun _ h => List.mem_append_left _ (List.mem_append_right _ h)) (by decide +kernel))) (goodIn_sub (fun _ h => List.mem_append_right _ h) (by decide +kernel))
set_option maxRecDepth 20000 in
theorem gL_law_L_cellsIf : GoodIn wsL_law (va_wsS RL 177 yL_cellsIf wsL_cellsIf) := goodIn_app (goodIn_of _ (by decide +kernel)) ggL_law_L_cellsIf
set_option maxRecDepth 20000 in
theorem ggL_law_X9_cellsIf : GoodIn wsL_law wsX9_cellsIf := goodIn_s _ [(1075, 1), (493, 3), (5, 1), (496, 1), (404, 4), (102, 1), (319, 3), (497, 12), (322, 5), (1076, 4), (105, 1), (112, 1), (331, 3), (509, 4), (378, 1), (513, 51), (760, 9), (107, 1), (110, 2), (113, 3), (769, 4), (591, 4), (773, 8), (108, 2), (781, 16), (116, 1), (797, 4), (891, 4), (339, 4), (1355, 24)] (by rfl) (by decide +kernel)
set_option maxRecDepth 20000 in
theorem gL_law_X9_cellsIf : GoodIn wsL_law (wsV RL 179 RX9 yX9_cellsIf wsX9_cellsIf) := goodIn_app (goodIn_of _ (by decide +kernel)) ggL_law_X9_cellsIf
theorem dL_law_1644 : decode cL_law 1644 = .ok (.aload_n 1, 1) := by decide +kernel
theorem dL_law_1645 : decode cL_law 1645 = .ok (.aload_n 0, 1) := by decide +kernel
theorem dL_law_1646 : decode cL_law 1646 = .ok (.iload 4, 2) := by decide +kernel
theorem dL_law_1648 : decode cL_law 1648 = .ok (.iconst 1, 1) := by decide +kernel
theorem dL_law_1649 : decode cL_law 1649 = .ok (.iadd, 1) := by decide +kernel
theorem dL_law_1650 : decode cL_law 1650 = .ok (.iaload, 1) := by decide +kernel
theorem dL_law_1651 : decode cL_law 1651 = .ok (.aload_n 0, 1) := by decide +kernel
theorem dL_law_1652 : decode cL_law 1652 = .ok (.iload 4, 2) := by decide +kernel
theorem dL_law_1654 : decode cL_law 1654 = .ok (.iconst 2, 1) := by decide +kernel
theorem dL_law_1655 : decode cL_law 1655 = .ok (.iadd, 1) := by decide +kernel
theorem dL_law_1656 : decode cL_law 1656 = .ok (.iaload, 1) := by decide +kernel
theorem dL_law_1657 : decode cL_law 1657 = .ok (.aload_n 0, 1) := by decide +kernel
theorem dL_law_1658 : decode cL_law 1658 = .ok (.iload 4, 2) := by decide +kernel
theorem dL_law_1660 : decode cL_law 1660 = .ok (.iconst 3, 1) := by decide +kernel
theorem dL_law_1661 : decode cL_law 1661 = .ok (.iadd, 1) := by decide +kernel
theorem dL_law_1662 : decode cL_law 1662 = .ok (.iaload, 1) := by decide +kernel
theorem dL_law_1663 : decode cL_law 1663 = .ok (.aload_n 3, 1) := by decide +kernel
theorem dL_law_1664 : decode cL_law 1664 = .ok (.invokestatic 177, 3) := by decide +kernel
theorem dL_law_1667 : decode cL_law 1667 = .ok (.istore 5, 2) := by decide +kernel
theorem dL_law_1669 : decode cL_law 1669 = .ok (.aload_n 2, 1) := by decide +kernel
theorem dL_law_1670 : decode cL_law 1670 = .ok (.aload_n 0, 1) := by decide +kernel
theorem dL_law_1671 : decode cL_law 1671 = .ok (.iload 4, 2) := by decide +kernel
theorem dL_law_1673 : decode cL_law 1673 = .ok (.iconst 1, 1) := by decide +kernel
theorem dL_law_1674 : decode cL_law 1674 = .ok (.iadd, 1) := by decide +kernel
theorem dL_law_1675 : decode cL_law 1675 = .ok (.iaload, 1) := by decide +kernel
theorem dL_law_1676 : decode cL_law 1676 = .ok (.aload_n 0, 1) := by decide +kernel
theorem dL_law_1677 : decode cL_law 1677 = .ok (.iload 4, 2) := by decide +kernel
theorem dL_law_1679 : decode cL_law 1679 = .ok (.iconst 2, 1) := by decide +kernel
theorem dL_law_1680 : decode cL_law 1680 = .ok (.iadd, 1) := by decide +kernel
theorem dL_law_1681 : decode cL_law 1681 = .ok (.iaload, 1) := by decide +kernel
theorem dL_law_1682 : decode cL_law 1682 = .ok (.aload_n 0, 1) := by decide +kernel
theorem dL_law_1683 : decode cL_law 1683 = .ok (.iload 4, 2) := by decide +kernel
theorem dL_law_1685 : decode cL_law 1685 = .ok (.iconst 3, 1) := by decide +kernel
theorem dL_law_1686 : decode cL_law 1686 = .ok (.iadd, 1) := by decide +kernel
theorem dL_law_1687 : decode cL_law 1687 = .ok (.iaload, 1) := by decide +kernel
theorem dL_law_1688 : decode cL_law 1688 = .ok (.invokevirtual 179, 3) := by decide +kernel
theorem dL_law_1691 : decode cL_law 1691 = .ok (.istore 6, 2) := by decide +kernel
theorem dL_law_1693 : decode cL_law 1693 = .ok (.aload_n 2, 1) := by decide +kernel
theorem dL_law_1694 : decode cL_law 1694 = .ok (.invokevirtual 108, 3) := by decide +kernel
theorem dL_law_1697 : decode cL_law 1697 = .ok (.iload 5, 2) := by decide +kernel
theorem dL_law_1699 : decode cL_law 1699 = .ok (.if_icmp .eq 5, 3) := by decide +kernel
theorem dL_law_1704 : decode cL_law 1704 = .ok (.iload 5, 2) := by decide +kernel
theorem dL_law_1706 : decode cL_law 1706 = .ok (.ifCond .ne 15, 3) := by decide +kernel
theorem dL_law_1709 : decode cL_law 1709 = .ok (.aload_n 3, 1) := by decide +kernel
theorem dL_law_1710 : decode cL_law 1710 = .ok (.iconst 0, 1) := by decide +kernel
theorem dL_law_1711 : decode cL_law 1711 = .ok (.laload, 1) := by decide +kernel
theorem dL_law_1712 : decode cL_law 1712 = .ok (.iload 6, 2) := by decide +kernel
theorem dL_law_1714 : decode cL_law 1714 = .ok (.i2l, 1) := by decide +kernel
theorem dL_law_1715 : decode cL_law 1715 = .ok (.lcmp, 1) := by decide +kernel
theorem dL_law_1716 : decode cL_law 1716 = .ok (.ifCond .eq 5, 3) := by decide +kernel
theorem dL_law_1721 : decode cL_law 1721 = .ok (.goto 211, 3) := by decide +kernel
theorem C_cellsIf (C : Ok X cL_law wsL_law RL (some .boolean) 12 7) (hX : va_X b N xs (xS X) (xS X).heap) (hb : b < (xS X).heap.size ∧ b < gZ (xG X)) (hN : N ≤ 3072) (hi : 0 ≤ i ∧ i + 6 ≤ N) (hO : hasS S o (.inl (1, 1))) (hM : MoS S r) {f9 : Nat} (hf9 : f9 ≤ 11)
    (hL : Ct (xG X) (xL X) yL_cellsIf wsL_cellsIf 9 1 6 [.ref a, .int (I32 (sc xs (i + 1))), .int (I32 (sc xs (i + 2))), .int (I32 (sc xs (i + 3))), .ref o] S n mu la (Lp S c mu1 la1)) (hR : ∀ n1, Ct (xG X) (xL X) yX9_cellsIf wsX9_cellsIf f9 0 0 [.ref r, .int (I32 (sc xs (i + 1))), .int (I32 (sc xs (i + 2))), .int (I32 (sc xs (i + 3)))] S n1 mu1 la1 (Dt (some (.int (I32 v))) S n1 mu2 la2)) (hc : 0 ≤ c ∧ c ≤ 3) (h7 : mu2 r 7 = c) (ho : c = 0 → la2 o 0 = (I32 v).toInt64) (hk : k + 1 ≤ (xR X).cells ∧ sl + 6 ≤ (xR X).slots)
    (kk : ∀ n1, V X 1932 [some (.ref b), some (.ref a), some (.ref r), some (.ref o), some (.int (I32 i)), none, none] [] S n1 mu2 la2 (k + 1) (sl + 6)) : V X 1644 [some (.ref b), some (.ref a), some (.ref r), some (.ref o), some (.int (I32 i)), none, none] [] S n mu la k sl := by
  refine V_aload_n C dL_law_1644 rfl ?_
  refine V_aload_n C dL_law_1645 rfl ?_
  refine V_iload C dL_law_1646 rfl ?_
  refine V_iconst C dL_law_1648 ?_
  refine V_iadd C dL_law_1649 ?_
  refine V_sald C hX hb hN (by omega) dL_law_1650 ?_
  refine V_aload_n C dL_law_1651 rfl ?_
  refine V_iload C dL_law_1652 rfl ?_
  refine V_iconst C dL_law_1654 ?_
  refine V_iadd C dL_law_1655 ?_
  refine V_sald C hX hb hN (by omega) dL_law_1656 ?_
  refine V_aload_n C dL_law_1657 rfl ?_
  refine V_iload C dL_law_1658 rfl ?_
  refine V_iconst C dL_law_1660 ?_
  refine V_iadd C dL_law_1661 ?_
  refine V_sald C hX hb hN (by omega) dL_law_1662 ?_
  refine V_aload_n C dL_law_1663 rfl ?_
  refine V_callSH (nA := 5) C dL_law_1664 hL gL_law_L_cellsIf rfl (by decide +kernel) rfl (by omega) (by decide) (Nat.le_of_ble_eq_true rfl) hk rfl ?_
  rintro _ S9 n1 mu9 la9 ⟨q0, q1, q2, q3⟩
  rw [q0, q1, q2, q3]
  refine V_istore C dL_law_1667 rfl (by decide) ?_
  refine V_aload_n C dL_law_1669 rfl ?_
  refine V_aload_n C dL_law_1670 rfl ?_
  refine V_iload C dL_law_1671 rfl ?_
  refine V_iconst C dL_law_1673 ?_
  refine V_iadd C dL_law_1674 ?_
  refine V_sald C hX hb hN (by omega) dL_law_1675 ?_
  refine V_aload_n C dL_law_1676 rfl ?_
  refine V_iload C dL_law_1677 rfl ?_
  refine V_iconst C dL_law_1679 ?_
  refine V_iadd C dL_law_1680 ?_
  refine V_sald C hX hb hN (by omega) dL_law_1681 ?_
  refine V_aload_n C dL_law_1682 rfl ?_
  refine V_iload C dL_law_1683 rfl ?_
  refine V_iconst C dL_law_1685 ?_
  refine V_iadd C dL_law_1686 ?_
  refine V_sald C hX hb hN (by omega) dL_law_1687 ?_
  refine V_callVD (nA := 3) C dL_law_1688 (hR n1) gL_law_X9_cellsIf rfl hM.1 rfl (by decide +kernel) rfl (by omega) (by decide) (Nat.le_of_ble_eq_true rfl) hk rfl ?_
  refine V_istore C dL_law_1691 rfl (by decide) ?_
  refine V_aload_n C dL_law_1693 rfl ?_
  refine V_callVD (nA := 0) C dL_law_1694 (m_thrown C.gp hM) gL_law_X9_thrown rfl hM.1 rfl (by decide +kernel) rfl (by omega) (by decide) (Nat.le_of_ble_eq_true rfl) hk rfl ?_
  refine V_iload C dL_law_1697 rfl ?_
  refine V_icmp_eq C 1704 dL_law_1699 (by decide) (by omega) (by omega) (fun _ => ?_) (fun z => absurd h7 z)
  refine V_iload C dL_law_1704 rfl ?_
  have fin : V X 1721 [some (.ref b), some (.ref a), some (.ref r), some (.ref o), some (.int (I32 i)), some (.int (I32 c)), some (.int (I32 v))] [] S n1 mu2 la2 (k + 1) (sl + 6) := by
    refine V_goto C 1932 dL_law_1721 (by decide) ?_
    exact V_fgt (r' := [some (.ref b), some (.ref a), some (.ref r), some (.ref o), some (.int (I32 i)), none, none]) (fun q9 h9 => by simp only [rOf, List.mem_cons, List.not_mem_nil, or_false] at h9 ⊢; rcases h9 with h | h | h | h | h <;> simp [h]) (kk n1)
  refine V_if_ne C 1721 dL_law_1706 (by decide) (by omega) (fun _ => fin) (fun z => ?_)
  refine V_aload_n C dL_law_1709 rfl ?_
  refine V_iconst C dL_law_1710 ?_
  refine V_lald C dL_law_1711 hO (by decide) (by decide) ?_
  refine V_iload C dL_law_1712 rfl ?_
  refine V_i2l C dL_law_1714 ?_
  refine V_lcmp C dL_law_1715 ?_
  rw [show la2 o (0 : Int).toNat = (I32 v).toInt64 from ho z, lg_cmp_xx]
  exact V_if_eq C 1721 dL_law_1716 (by decide) (by omega) (fun _ => fin) (fun z9 => absurd rfl z9)
end LC
