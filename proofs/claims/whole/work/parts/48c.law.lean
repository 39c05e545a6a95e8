/-! THE LAW: cases 6 to 11 -/
section LC
variable {X : Cx} {S : Sh} {n : Nat} {mu mu1 mu2 : Mem} {la la1 la2 : Lam} {k sl a r o b N : Nat} {xs : Nat → Int32} {ks : List Sk} {i c v : Int}
set_option maxRecDepth 20000 in
theorem ggL_law_L_raise : GoodIn wsL_law wsL_raise := goodIn_ca (goodIn_ca (goodIn_ca (goodIn_s _ [(624, 1), (386, 1), (350, 1), (625, 3), (2, 1), (628, 1), (20, 1), (16, 1), (629, 8), (391, 4), (419, 3), (31, 1), (422, 1), (50, 1), (180, 2), (133, 12), (19, 1), (145, 11), (67, 1), (156, 3), (15, 1), (159, 1), (38, 2), (160, 1), (41, 1), (43, 1), (45, 1), (161, 11), (51, 7), (172, 4), (44, 1), (176, 4), (483, 1), (199, 3), (637, 4), (432, 4), (206, 2), (456, 4), (182, 4), (28, 1), (186, 3), (27, 1), (189, 2), (79, 1), (191, 6), (78, 1), (197, 1), (59, 3), (198, 1), (202, 4), (208, 5), (80, 1), (213, 14), (81, 1), (227, 11), (84, 1), (238, 12), (82, 2), (250, 8), (89, 1), (85, 1), (258, 7), (88, 1), (265, 15), (93, 2), (96, 1), (280, 8), (95, 1), (288, 24), (1349, 6), (1379, 7), (1408, 8), (1386, 3), (1395, 13), (1416, 6)] (by rfl) (by decide +kernel)) (goodIn_sub (fun _ h => List.mem_append_left _ (List.mem_append_left _ (List.mem_append_right _ h))) (by decide +kernel))) (goodIn_sub (fun _ h => List.mem_append_left _ (List.mem_append_right _ h)) (by decide +kernel))) (goodIn_sub (fun _ h => List.mem_append_right _ h) (by decide +kernel))
set_option maxRecDepth 20000 in
theorem gL_law_L_raise : GoodIn wsL_law (va_wsS RL 128 yL_raise wsL_raise) := goodIn_app (goodIn_of _ (by decide +kernel)) ggL_law_L_raise
set_option maxRecDepth 20000 in
theorem ggL_law_X9_raise : GoodIn wsL_law wsX9_raise := goodIn_s _ [(644, 1), (404, 3), (5, 1), (407, 1), (102, 1), (319, 8), (497, 12), (327, 4), (104, 1), (331, 3), (529, 4), (595, 4), (334, 5), (103, 1), (339, 4), (1355, 24)] (by rfl) (by decide +kernel)
set_option maxRecDepth 20000 in
theorem gL_law_X9_raise : GoodIn wsL_law (wsV RL 131 RX9 yX9_raise wsX9_raise) := goodIn_app (goodIn_of _ (by decide +kernel)) ggL_law_X9_raise
theorem dL_law_640 : decode cL_law 640 = .ok (.aload_n 1, 1) := by decide +kernel
theorem dL_law_641 : decode cL_law 641 = .ok (.aload_n 0, 1) := by decide +kernel
theorem dL_law_642 : decode cL_law 642 = .ok (.iload 4, 2) := by decide +kernel
theorem dL_law_644 : decode cL_law 644 = .ok (.iconst 1, 1) := by decide +kernel
theorem dL_law_645 : decode cL_law 645 = .ok (.iadd, 1) := by decide +kernel
theorem dL_law_646 : decode cL_law 646 = .ok (.iaload, 1) := by decide +kernel
theorem dL_law_647 : decode cL_law 647 = .ok (.aload_n 3, 1) := by decide +kernel
theorem dL_law_648 : decode cL_law 648 = .ok (.invokestatic 128, 3) := by decide +kernel
theorem dL_law_651 : decode cL_law 651 = .ok (.istore 5, 2) := by decide +kernel
theorem dL_law_653 : decode cL_law 653 = .ok (.aload_n 2, 1) := by decide +kernel
theorem dL_law_654 : decode cL_law 654 = .ok (.aload_n 0, 1) := by decide +kernel
theorem dL_law_655 : decode cL_law 655 = .ok (.iload 4, 2) := by decide +kernel
theorem dL_law_657 : decode cL_law 657 = .ok (.iconst 1, 1) := by decide +kernel
theorem dL_law_658 : decode cL_law 658 = .ok (.iadd, 1) := by decide +kernel
theorem dL_law_659 : decode cL_law 659 = .ok (.iaload, 1) := by decide +kernel
theorem dL_law_660 : decode cL_law 660 = .ok (.invokevirtual 131, 3) := by decide +kernel
theorem dL_law_663 : decode cL_law 663 = .ok (.istore 6, 2) := by decide +kernel
theorem dL_law_665 : decode cL_law 665 = .ok (.aload_n 2, 1) := by decide +kernel
theorem dL_law_666 : decode cL_law 666 = .ok (.invokevirtual 108, 3) := by decide +kernel
theorem dL_law_669 : decode cL_law 669 = .ok (.iload 5, 2) := by decide +kernel
theorem dL_law_671 : decode cL_law 671 = .ok (.if_icmp .eq 5, 3) := by decide +kernel
theorem dL_law_676 : decode cL_law 676 = .ok (.iload 5, 2) := by decide +kernel
theorem dL_law_678 : decode cL_law 678 = .ok (.ifCond .ne 15, 3) := by decide +kernel
theorem dL_law_681 : decode cL_law 681 = .ok (.aload_n 3, 1) := by decide +kernel
theorem dL_law_682 : decode cL_law 682 = .ok (.iconst 0, 1) := by decide +kernel
theorem dL_law_683 : decode cL_law 683 = .ok (.laload, 1) := by decide +kernel
theorem dL_law_684 : decode cL_law 684 = .ok (.iload 6, 2) := by decide +kernel
theorem dL_law_686 : decode cL_law 686 = .ok (.i2l, 1) := by decide +kernel
theorem dL_law_687 : decode cL_law 687 = .ok (.lcmp, 1) := by decide +kernel
theorem dL_law_688 : decode cL_law 688 = .ok (.ifCond .eq 5, 3) := by decide +kernel
theorem dL_law_693 : decode cL_law 693 = .ok (.goto 1239, 3) := by decide +kernel
theorem C_raise (C : Ok X cL_law wsL_law RL (some .boolean) 12 7) (hX : va_X b N xs (xS X) (xS X).heap) (hb : b < (xS X).heap.size ∧ b < gZ (xG X)) (hN : N ≤ 3072) (hi : 0 ≤ i ∧ i + 6 ≤ N) (hO : hasS S o (.inl (1, 1))) (hM : MoS S r) {f9 : Nat} (hf9 : f9 ≤ 11)
    (hL : Ct (xG X) (xL X) yL_raise wsL_raise 9 1 6 [.ref a, .int (I32 (sc xs (i + 1))), .ref o] S n mu la (Lp S c mu1 la1)) (hR : ∀ n1, Ct (xG X) (xL X) yX9_raise wsX9_raise f9 0 0 [.ref r, .int (I32 (sc xs (i + 1)))] S n1 mu1 la1 (Dt (some (.int (I32 v))) S n1 mu2 la2)) (hc : 0 ≤ c ∧ c ≤ 3) (h7 : mu2 r 7 = c) (ho : c = 0 → la2 o 0 = (I32 v).toInt64) (hk : k + 1 ≤ (xR X).cells ∧ sl + 6 ≤ (xR X).slots)
    (kk : ∀ n1, V X 1932 [some (.ref b), some (.ref a), some (.ref r), some (.ref o), some (.int (I32 i)), none, none] [] S n1 mu2 la2 (k + 1) (sl + 6)) : V X 640 [some (.ref b), some (.ref a), some (.ref r), some (.ref o), some (.int (I32 i)), none, none] [] S n mu la k sl := by
  refine V_aload_n C dL_law_640 rfl ?_
  refine V_aload_n C dL_law_641 rfl ?_
  refine V_iload C dL_law_642 rfl ?_
  refine V_iconst C dL_law_644 ?_
  refine V_iadd C dL_law_645 ?_
  refine V_sald C hX hb hN (by omega) dL_law_646 ?_
  refine V_aload_n C dL_law_647 rfl ?_
  refine V_callSH (nA := 3) C dL_law_648 hL gL_law_L_raise rfl (by decide +kernel) rfl (by omega) (by decide) (Nat.le_of_ble_eq_true rfl) hk rfl ?_
  rintro _ S9 n1 mu9 la9 ⟨q0, q1, q2, q3⟩
  rw [q0, q1, q2, q3]
  refine V_istore C dL_law_651 rfl (by decide) ?_
  refine V_aload_n C dL_law_653 rfl ?_
  refine V_aload_n C dL_law_654 rfl ?_
  refine V_iload C dL_law_655 rfl ?_
  refine V_iconst C dL_law_657 ?_
  refine V_iadd C dL_law_658 ?_
  refine V_sald C hX hb hN (by omega) dL_law_659 ?_
  refine V_callVD (nA := 1) C dL_law_660 (hR n1) gL_law_X9_raise rfl hM.1 rfl (by decide +kernel) rfl (by omega) (by decide) (Nat.le_of_ble_eq_true rfl) hk rfl ?_
  refine V_istore C dL_law_663 rfl (by decide) ?_
  refine V_aload_n C dL_law_665 rfl ?_
  refine V_callVD (nA := 0) C dL_law_666 (m_thrown C.gp hM) gL_law_X9_thrown rfl hM.1 rfl (by decide +kernel) rfl (by omega) (by decide) (Nat.le_of_ble_eq_true rfl) hk rfl ?_
  refine V_iload C dL_law_669 rfl ?_
  refine V_icmp_eq C 676 dL_law_671 (by decide) (by omega) (by omega) (fun _ => ?_) (fun z => absurd h7 z)
  refine V_iload C dL_law_676 rfl ?_
  have fin : V X 693 [some (.ref b), some (.ref a), some (.ref r), some (.ref o), some (.int (I32 i)), some (.int (I32 c)), some (.int (I32 v))] [] S n1 mu2 la2 (k + 1) (sl + 6) := by
    refine V_goto C 1932 dL_law_693 (by decide) ?_
    exact V_fgt (r' := [some (.ref b), some (.ref a), some (.ref r), some (.ref o), some (.int (I32 i)), none, none]) (fun q9 h9 => by simp only [rOf, List.mem_cons, List.not_mem_nil, or_false] at h9 ⊢; rcases h9 with h | h | h | h | h <;> simp [h]) (kk n1)
  refine V_if_ne C 693 dL_law_678 (by decide) (by omega) (fun _ => fin) (fun z => ?_)
  refine V_aload_n C dL_law_681 rfl ?_
  refine V_iconst C dL_law_682 ?_
  refine V_lald C dL_law_683 hO (by decide) (by decide) ?_
  refine V_iload C dL_law_684 rfl ?_
  refine V_i2l C dL_law_686 ?_
  refine V_lcmp C dL_law_687 ?_
  rw [show la2 o (0 : Int).toNat = (I32 v).toInt64 from ho z, lg_cmp_xx]
  exact V_if_eq C 693 dL_law_688 (by decide) (by omega) (fun _ => fin) (fun z9 => absurd rfl z9)
set_option maxRecDepth 20000 in
theorem ggL_law_L_close : GoodIn wsL_law wsL_close := goodIn_ca (goodIn_ca (goodIn_ca (goodIn_s _ [(647, 1), (386, 1), (648, 3), (2, 1), (651, 1), (20, 1), (16, 1), (633, 4), (391, 4), (133, 12), (19, 1), (145, 11), (67, 1), (156, 3), (15, 1), (159, 1), (38, 2), (160, 1), (41, 1), (43, 1), (45, 1), (161, 10), (31, 1), (171, 1), (50, 8), (172, 4), (44, 1), (176, 6), (419, 4), (652, 1), (428, 8), (206, 2), (436, 4), (221, 2), (440, 16), (182, 4), (28, 1), (186, 3), (27, 1), (189, 2), (79, 1), (191, 6), (78, 1), (197, 1), (59, 3), (198, 8), (208, 5), (80, 1), (213, 8), (223, 4), (81, 1), (227, 11), (84, 1), (238, 12), (82, 2), (250, 8), (89, 1), (85, 1), (258, 7), (88, 1), (265, 15), (93, 2), (96, 1), (280, 8), (95, 1), (288, 24), (1349, 6), (1379, 10), (1408, 8), (1395, 13), (1416, 6)] (by rfl) (by decide +kernel)) (goodIn_sub (fun _ h => List.mem_append_left _ (List.mem_append_left _ (List.mem_append_right _ h))) (by decide +kernel))) (goodIn_sub (fun _ h => List.mem_append_left _ (List.mem_append_right _ h)) (by decide +kernel))) (goodIn_sub (fun _ h => List.mem_append_right _ h) (by decide +kernel))
set_option maxRecDepth 20000 in
theorem gL_law_L_close : GoodIn wsL_law (va_wsS RL 132 yL_close wsL_close) := goodIn_app (goodIn_of _ (by decide +kernel)) ggL_law_L_close
set_option maxRecDepth 20000 in
theorem ggL_law_X9_close : GoodIn wsL_law wsX9_close := goodIn_s _ [(656, 1), (327, 3), (5, 1), (330, 1), (104, 1), (102, 1), (331, 3), (657, 4), (378, 1), (404, 4), (319, 3), (497, 12), (513, 32), (379, 4), (322, 5), (334, 5), (103, 1), (339, 4), (1355, 24)] (by rfl) (by decide +kernel)
set_option maxRecDepth 20000 in
theorem gL_law_X9_close : GoodIn wsL_law (wsV RL 134 RX9 yX9_close wsX9_close) := goodIn_app (goodIn_of _ (by decide +kernel)) ggL_law_X9_close
theorem dL_law_696 : decode cL_law 696 = .ok (.aload_n 1, 1) := by decide +kernel
theorem dL_law_697 : decode cL_law 697 = .ok (.aload_n 0, 1) := by decide +kernel
theorem dL_law_698 : decode cL_law 698 = .ok (.iload 4, 2) := by decide +kernel
theorem dL_law_700 : decode cL_law 700 = .ok (.iconst 1, 1) := by decide +kernel
theorem dL_law_701 : decode cL_law 701 = .ok (.iadd, 1) := by decide +kernel
theorem dL_law_702 : decode cL_law 702 = .ok (.iaload, 1) := by decide +kernel
theorem dL_law_703 : decode cL_law 703 = .ok (.aload_n 3, 1) := by decide +kernel
theorem dL_law_704 : decode cL_law 704 = .ok (.invokestatic 132, 3) := by decide +kernel
theorem dL_law_707 : decode cL_law 707 = .ok (.istore 5, 2) := by decide +kernel
theorem dL_law_709 : decode cL_law 709 = .ok (.aload_n 2, 1) := by decide +kernel
theorem dL_law_710 : decode cL_law 710 = .ok (.aload_n 0, 1) := by decide +kernel
theorem dL_law_711 : decode cL_law 711 = .ok (.iload 4, 2) := by decide +kernel
theorem dL_law_713 : decode cL_law 713 = .ok (.iconst 1, 1) := by decide +kernel
theorem dL_law_714 : decode cL_law 714 = .ok (.iadd, 1) := by decide +kernel
theorem dL_law_715 : decode cL_law 715 = .ok (.iaload, 1) := by decide +kernel
theorem dL_law_716 : decode cL_law 716 = .ok (.invokevirtual 134, 3) := by decide +kernel
theorem dL_law_719 : decode cL_law 719 = .ok (.istore 6, 2) := by decide +kernel
theorem dL_law_721 : decode cL_law 721 = .ok (.aload_n 2, 1) := by decide +kernel
theorem dL_law_722 : decode cL_law 722 = .ok (.invokevirtual 108, 3) := by decide +kernel
theorem dL_law_725 : decode cL_law 725 = .ok (.iload 5, 2) := by decide +kernel
theorem dL_law_727 : decode cL_law 727 = .ok (.if_icmp .eq 5, 3) := by decide +kernel
theorem dL_law_732 : decode cL_law 732 = .ok (.iload 5, 2) := by decide +kernel
theorem dL_law_734 : decode cL_law 734 = .ok (.ifCond .ne 15, 3) := by decide +kernel
theorem dL_law_737 : decode cL_law 737 = .ok (.aload_n 3, 1) := by decide +kernel
theorem dL_law_738 : decode cL_law 738 = .ok (.iconst 0, 1) := by decide +kernel
theorem dL_law_739 : decode cL_law 739 = .ok (.laload, 1) := by decide +kernel
theorem dL_law_740 : decode cL_law 740 = .ok (.iload 6, 2) := by decide +kernel
theorem dL_law_742 : decode cL_law 742 = .ok (.i2l, 1) := by decide +kernel
theorem dL_law_743 : decode cL_law 743 = .ok (.lcmp, 1) := by decide +kernel
theorem dL_law_744 : decode cL_law 744 = .ok (.ifCond .eq 5, 3) := by decide +kernel
theorem dL_law_749 : decode cL_law 749 = .ok (.goto 1183, 3) := by decide +kernel
theorem C_close (C : Ok X cL_law wsL_law RL (some .boolean) 12 7) (hX : va_X b N xs (xS X) (xS X).heap) (hb : b < (xS X).heap.size ∧ b < gZ (xG X)) (hN : N ≤ 3072) (hi : 0 ≤ i ∧ i + 6 ≤ N) (hO : hasS S o (.inl (1, 1))) (hM : MoS S r) {f9 : Nat} (hf9 : f9 ≤ 11)
    (hL : Ct (xG X) (xL X) yL_close wsL_close 9 1 6 [.ref a, .int (I32 (sc xs (i + 1))), .ref o] S n mu la (Lp S c mu1 la1)) (hR : ∀ n1, Ct (xG X) (xL X) yX9_close wsX9_close f9 0 0 [.ref r, .int (I32 (sc xs (i + 1)))] S n1 mu1 la1 (Dt (some (.int (I32 v))) S n1 mu2 la2)) (hc : 0 ≤ c ∧ c ≤ 3) (h7 : mu2 r 7 = c) (ho : c = 0 → la2 o 0 = (I32 v).toInt64) (hk : k + 1 ≤ (xR X).cells ∧ sl + 6 ≤ (xR X).slots)
    (kk : ∀ n1, V X 1932 [some (.ref b), some (.ref a), some (.ref r), some (.ref o), some (.int (I32 i)), none, none] [] S n1 mu2 la2 (k + 1) (sl + 6)) : V X 696 [some (.ref b), some (.ref a), some (.ref r), some (.ref o), some (.int (I32 i)), none, none] [] S n mu la k sl := by
  refine V_aload_n C dL_law_696 rfl ?_
  refine V_aload_n C dL_law_697 rfl ?_
  refine V_iload C dL_law_698 rfl ?_
  refine V_iconst C dL_law_700 ?_
  refine V_iadd C dL_law_701 ?_
  refine V_sald C hX hb hN (by omega) dL_law_702 ?_
  refine V_aload_n C dL_law_703 rfl ?_
  refine V_callSH (nA := 3) C dL_law_704 hL gL_law_L_close rfl (by decide +kernel) rfl (by omega) (by decide) (Nat.le_of_ble_eq_true rfl) hk rfl ?_
  rintro _ S9 n1 mu9 la9 ⟨q0, q1, q2, q3⟩
  rw [q0, q1, q2, q3]
  refine V_istore C dL_law_707 rfl (by decide) ?_
  refine V_aload_n C dL_law_709 rfl ?_
  refine V_aload_n C dL_law_710 rfl ?_
  refine V_iload C dL_law_711 rfl ?_
  refine V_iconst C dL_law_713 ?_
  refine V_iadd C dL_law_714 ?_
  refine V_sald C hX hb hN (by omega) dL_law_715 ?_
  refine V_callVD (nA := 1) C dL_law_716 (hR n1) gL_law_X9_close rfl hM.1 rfl (by decide +kernel) rfl (by omega) (by decide) (Nat.le_of_ble_eq_true rfl) hk rfl ?_
  refine V_istore C dL_law_719 rfl (by decide) ?_
  refine V_aload_n C dL_law_721 rfl ?_
  refine V_callVD (nA := 0) C dL_law_722 (m_thrown C.gp hM) gL_law_X9_thrown rfl hM.1 rfl (by decide +kernel) rfl (by omega) (by decide) (Nat.le_of_ble_eq_true rfl) hk rfl ?_
  refine V_iload C dL_law_725 rfl ?_
  refine V_icmp_eq C 732 dL_law_727 (by decide) (by omega) (by omega) (fun _ => ?_) (fun z => absurd h7 z)
  refine V_iload C dL_law_732 rfl ?_
  have fin : V X 749 [some (.ref b), some (.ref a), some (.ref r), some (.ref o), some (.int (I32 i)), some (.int (I32 c)), some (.int (I32 v))] [] S n1 mu2 la2 (k + 1) (sl + 6) := by
    refine V_goto C 1932 dL_law_749 (by decide) ?_
    exact V_fgt (r' := [some (.ref b), some (.ref a), some (.ref r), some (.ref o), some (.int (I32 i)), none, none]) (fun q9 h9 => by simp only [rOf, List.mem_cons, List.not_mem_nil, or_false] at h9 ⊢; rcases h9 with h | h | h | h | h <;> simp [h]) (kk n1)
  refine V_if_ne C 749 dL_law_734 (by decide) (by omega) (fun _ => fin) (fun z => ?_)
  refine V_aload_n C dL_law_737 rfl ?_
  refine V_iconst C dL_law_738 ?_
  refine V_lald C dL_law_739 hO (by decide) (by decide) ?_
  refine V_iload C dL_law_740 rfl ?_
  refine V_i2l C dL_law_742 ?_
  refine V_lcmp C dL_law_743 ?_
  rw [show la2 o (0 : Int).toNat = (I32 v).toInt64 from ho z, lg_cmp_xx]
  exact V_if_eq C 749 dL_law_744 (by decide) (by omega) (fun _ => fin) (fun z9 => absurd rfl z9)
set_option maxRecDepth 20000 in
theorem ggL_law_L_activate : GoodIn wsL_law wsL_activate := goodIn_ca (goodIn_ca (goodIn_ca (goodIn_s _ [(663, 1), (386, 1), (350, 1), (664, 3), (2, 1), (667, 1), (20, 1), (16, 1), (668, 4), (633, 4), (391, 4), (419, 3), (31, 1), (422, 1), (50, 1), (180, 2), (133, 12), (19, 1), (145, 11), (67, 1), (156, 3), (15, 1), (159, 1), (38, 2), (160, 1), (41, 1), (43, 1), (45, 1), (161, 11), (51, 7), (172, 4), (44, 1), (176, 4), (483, 1), (199, 3), (672, 1), (449, 3), (673, 1), (453, 3), (206, 2), (1349, 6), (1379, 7), (1408, 8), (1386, 3)] (by rfl) (by decide +kernel)) (goodIn_sub (fun _ h => List.mem_append_left _ (List.mem_append_left _ (List.mem_append_right _ h))) (by decide +kernel))) (goodIn_sub (fun _ h => List.mem_append_left _ (List.mem_append_right _ h)) (by decide +kernel))) (goodIn_sub (fun _ h => List.mem_append_right _ h) (by decide +kernel))
set_option maxRecDepth 20000 in
theorem gL_law_L_activate : GoodIn wsL_law (va_wsS RL 135 yL_activate wsL_activate) := goodIn_app (goodIn_of _ (by decide +kernel)) ggL_law_L_activate
set_option maxRecDepth 20000 in
theorem ggL_law_X9_activate : GoodIn wsL_law wsX9_activate := goodIn_s _ [(677, 1), (404, 3), (5, 1), (407, 1), (102, 1), (319, 8), (497, 12), (327, 4), (104, 1), (331, 3), (529, 4), (334, 5), (103, 1), (339, 4), (1355, 24)] (by rfl) (by decide +kernel)
set_option maxRecDepth 20000 in
theorem gL_law_X9_activate : GoodIn wsL_law (wsV RL 137 RX9 yX9_activate wsX9_activate) := goodIn_app (goodIn_of _ (by decide +kernel)) ggL_law_X9_activate
theorem dL_law_752 : decode cL_law 752 = .ok (.aload_n 1, 1) := by decide +kernel
theorem dL_law_753 : decode cL_law 753 = .ok (.aload_n 0, 1) := by decide +kernel
theorem dL_law_754 : decode cL_law 754 = .ok (.iload 4, 2) := by decide +kernel
theorem dL_law_756 : decode cL_law 756 = .ok (.iconst 1, 1) := by decide +kernel
theorem dL_law_757 : decode cL_law 757 = .ok (.iadd, 1) := by decide +kernel
theorem dL_law_758 : decode cL_law 758 = .ok (.iaload, 1) := by decide +kernel
theorem dL_law_759 : decode cL_law 759 = .ok (.aload_n 3, 1) := by decide +kernel
theorem dL_law_760 : decode cL_law 760 = .ok (.invokestatic 135, 3) := by decide +kernel
theorem dL_law_763 : decode cL_law 763 = .ok (.istore 5, 2) := by decide +kernel
theorem dL_law_765 : decode cL_law 765 = .ok (.aload_n 2, 1) := by decide +kernel
theorem dL_law_766 : decode cL_law 766 = .ok (.aload_n 0, 1) := by decide +kernel
theorem dL_law_767 : decode cL_law 767 = .ok (.iload 4, 2) := by decide +kernel
theorem dL_law_769 : decode cL_law 769 = .ok (.iconst 1, 1) := by decide +kernel
theorem dL_law_770 : decode cL_law 770 = .ok (.iadd, 1) := by decide +kernel
theorem dL_law_771 : decode cL_law 771 = .ok (.iaload, 1) := by decide +kernel
theorem dL_law_772 : decode cL_law 772 = .ok (.invokevirtual 137, 3) := by decide +kernel
theorem dL_law_775 : decode cL_law 775 = .ok (.istore 6, 2) := by decide +kernel
theorem dL_law_777 : decode cL_law 777 = .ok (.aload_n 2, 1) := by decide +kernel
theorem dL_law_778 : decode cL_law 778 = .ok (.invokevirtual 108, 3) := by decide +kernel
theorem dL_law_781 : decode cL_law 781 = .ok (.iload 5, 2) := by decide +kernel
theorem dL_law_783 : decode cL_law 783 = .ok (.if_icmp .eq 5, 3) := by decide +kernel
theorem dL_law_788 : decode cL_law 788 = .ok (.iload 5, 2) := by decide +kernel
theorem dL_law_790 : decode cL_law 790 = .ok (.ifCond .ne 15, 3) := by decide +kernel
theorem dL_law_793 : decode cL_law 793 = .ok (.aload_n 3, 1) := by decide +kernel
theorem dL_law_794 : decode cL_law 794 = .ok (.iconst 0, 1) := by decide +kernel
theorem dL_law_795 : decode cL_law 795 = .ok (.laload, 1) := by decide +kernel
theorem dL_law_796 : decode cL_law 796 = .ok (.iload 6, 2) := by decide +kernel
theorem dL_law_798 : decode cL_law 798 = .ok (.i2l, 1) := by decide +kernel
theorem dL_law_799 : decode cL_law 799 = .ok (.lcmp, 1) := by decide +kernel
theorem dL_law_800 : decode cL_law 800 = .ok (.ifCond .eq 5, 3) := by decide +kernel
theorem dL_law_805 : decode cL_law 805 = .ok (.goto 1127, 3) := by decide +kernel
theorem C_activate (C : Ok X cL_law wsL_law RL (some .boolean) 12 7) (hX : va_X b N xs (xS X) (xS X).heap) (hb : b < (xS X).heap.size ∧ b < gZ (xG X)) (hN : N ≤ 3072) (hi : 0 ≤ i ∧ i + 6 ≤ N) (hO : hasS S o (.inl (1, 1))) (hM : MoS S r) {f9 : Nat} (hf9 : f9 ≤ 11)
    (hL : Ct (xG X) (xL X) yL_activate wsL_activate 9 1 6 [.ref a, .int (I32 (sc xs (i + 1))), .ref o] S n mu la (Lp S c mu1 la1)) (hR : ∀ n1, Ct (xG X) (xL X) yX9_activate wsX9_activate f9 0 0 [.ref r, .int (I32 (sc xs (i + 1)))] S n1 mu1 la1 (Dt (some (.int (I32 v))) S n1 mu2 la2)) (hc : 0 ≤ c ∧ c ≤ 3) (h7 : mu2 r 7 = c) (ho : c = 0 → la2 o 0 = (I32 v).toInt64) (hk : k + 1 ≤ (xR X).cells ∧ sl + 6 ≤ (xR X).slots)
    (kk : ∀ n1, V X 1932 [some (.ref b), some (.ref a), some (.ref r), some (.ref o), some (.int (I32 i)), none, none] [] S n1 mu2 la2 (k + 1) (sl + 6)) : V X 752 [some (.ref b), some (.ref a), some (.ref r), some (.ref o), some (.int (I32 i)), none, none] [] S n mu la k sl := by
  refine V_aload_n C dL_law_752 rfl ?_
  refine V_aload_n C dL_law_753 rfl ?_
  refine V_iload C dL_law_754 rfl ?_
  refine V_iconst C dL_law_756 ?_
  refine V_iadd C dL_law_757 ?_
  refine V_sald C hX hb hN (by omega) dL_law_758 ?_
  refine V_aload_n C dL_law_759 rfl ?_
  refine V_callSH (nA := 3) C dL_law_760 hL gL_law_L_activate rfl (by decide +kernel) rfl (by omega) (by decide) (Nat.le_of_ble_eq_true rfl) hk rfl ?_
  rintro _ S9 n1 mu9 la9 ⟨q0, q1, q2, q3⟩
  rw [q0, q1, q2, q3]
  refine V_istore C dL_law_763 rfl (by decide) ?_
  refine V_aload_n C dL_law_765 rfl ?_
  refine V_aload_n C dL_law_766 rfl ?_
  refine V_iload C dL_law_767 rfl ?_
  refine V_iconst C dL_law_769 ?_
  refine V_iadd C dL_law_770 ?_
  refine V_sald C hX hb hN (by omega) dL_law_771 ?_
  refine V_callVD (nA := 1) C dL_law_772 (hR n1) gL_law_X9_activate rfl hM.1 rfl (by decide +kernel) rfl (by omega) (by decide) (Nat.le_of_ble_eq_true rfl) hk rfl ?_
  refine V_istore C dL_law_775 rfl (by decide) ?_
  refine V_aload_n C dL_law_777 rfl ?_
  refine V_callVD (nA := 0) C dL_law_778 (m_thrown C.gp hM) gL_law_X9_thrown rfl hM.1 rfl (by decide +kernel) rfl (by omega) (by decide) (Nat.le_of_ble_eq_true rfl) hk rfl ?_
  refine V_iload C dL_law_781 rfl ?_
  refine V_icmp_eq C 788 dL_law_783 (by decide) (by omega) (by omega) (fun _ => ?_) (fun z => absurd h7 z)
  refine V_iload C dL_law_788 rfl ?_
  have fin : V X 805 [some (.ref b), some (.ref a), some (.ref r), some (.ref o), some (.int (I32 i)), some (.int (I32 c)), some (.int (I32 v))] [] S n1 mu2 la2 (k + 1) (sl + 6) := by
    refine V_goto C 1932 dL_law_805 (by decide) ?_
    exact V_fgt (r' := [some (.ref b), some (.ref a), some (.ref r), some (.ref o), some (.int (I32 i)), none, none]) (fun q9 h9 => by simp only [rOf, List.mem_cons, List.not_mem_nil, or_false] at h9 ⊢; rcases h9 with h | h | h | h | h <;> simp [h]) (kk n1)
  refine V_if_ne C 805 dL_law_790 (by decide) (by omega) (fun _ => fin) (fun z => ?_)
  refine V_aload_n C dL_law_793 rfl ?_
  refine V_iconst C dL_law_794 ?_
  refine V_lald C dL_law_795 hO (by decide) (by decide) ?_
  refine V_iload C dL_law_796 rfl ?_
  refine V_i2l C dL_law_798 ?_
  refine V_lcmp C dL_law_799 ?_
  rw [show la2 o (0 : Int).toNat = (I32 v).toInt64 from ho z, lg_cmp_xx]
  exact V_if_eq C 805 dL_law_800 (by decide) (by omega) (fun _ => fin) (fun z9 => absurd rfl z9)
set_option maxRecDepth 20000 in
theorem ggL_law_L_moveTab : GoodIn wsL_law wsL_moveTab := goodIn_ca (goodIn_ca (goodIn_ca (goodIn_s _ [(680, 1), (386, 1), (350, 1), (122, 1), (681, 3), (2, 1), (684, 1), (20, 1), (16, 1), (685, 4), (668, 4), (633, 4), (391, 4), (419, 3), (31, 1), (422, 1), (50, 1), (180, 2), (483, 1), (199, 3), (484, 1), (218, 3), (52, 1), (130, 15), (19, 1), (145, 11), (67, 1), (156, 3), (15, 1), (159, 1), (38, 2), (160, 1), (41, 1), (43, 1), (45, 1), (161, 11), (51, 1), (53, 5), (172, 4), (44, 1), (176, 4), (689, 1), (203, 3), (690, 4), (432, 4), (206, 2), (456, 4), (182, 4), (28, 1), (186, 3), (27, 1), (189, 2), (79, 1), (191, 6), (78, 1), (197, 1), (59, 3), (198, 1), (202, 1), (208, 5), (80, 1), (213, 5), (221, 6), (81, 1), (227, 11), (84, 1), (238, 12), (82, 2), (250, 8), (89, 1), (85, 1), (258, 7), (88, 1), (265, 15), (93, 2), (96, 1), (280, 8), (95, 1), (288, 24), (1349, 6), (1379, 7), (1408, 8), (1386, 3), (1395, 13), (1416, 6)] (by rfl) (by decide +kernel)) (goodIn_sub (fun _ h => List.mem_append_left _ (List.mem_append_left _ (List.mem_append_right _ h))) (by decide +kernel))) (goodIn_sub (fun _ h => List.mem_append_left _ (List.mem_append_right _ h)) (by decide +kernel))) (goodIn_sub (fun _ h => List.mem_append_right _ h) (by decide +kernel))
set_option maxRecDepth 20000 in
theorem gL_law_L_moveTab : GoodIn wsL_law (va_wsS RL 138 yL_moveTab wsL_moveTab) := goodIn_app (goodIn_of _ (by decide +kernel)) ggL_law_L_moveTab
set_option maxRecDepth 20000 in
theorem ggL_law_X9_moveTab : GoodIn wsL_law wsX9_moveTab := goodIn_s _ [(697, 1), (102, 1), (404, 3), (5, 1), (407, 1), (319, 8), (497, 12), (521, 4), (327, 4), (104, 1), (331, 3), (517, 4), (334, 5), (103, 1), (339, 4), (1355, 24)] (by rfl) (by decide +kernel)
set_option maxRecDepth 20000 in
theorem gL_law_X9_moveTab : GoodIn wsL_law (wsV RL 140 RX9 yX9_moveTab wsX9_moveTab) := goodIn_app (goodIn_of _ (by decide +kernel)) ggL_law_X9_moveTab
theorem dL_law_808 : decode cL_law 808 = .ok (.aload_n 1, 1) := by decide +kernel
theorem dL_law_809 : decode cL_law 809 = .ok (.aload_n 0, 1) := by decide +kernel
theorem dL_law_810 : decode cL_law 810 = .ok (.iload 4, 2) := by decide +kernel
theorem dL_law_812 : decode cL_law 812 = .ok (.iconst 1, 1) := by decide +kernel
theorem dL_law_813 : decode cL_law 813 = .ok (.iadd, 1) := by decide +kernel
theorem dL_law_814 : decode cL_law 814 = .ok (.iaload, 1) := by decide +kernel
theorem dL_law_815 : decode cL_law 815 = .ok (.aload_n 0, 1) := by decide +kernel
theorem dL_law_816 : decode cL_law 816 = .ok (.iload 4, 2) := by decide +kernel
theorem dL_law_818 : decode cL_law 818 = .ok (.iconst 2, 1) := by decide +kernel
theorem dL_law_819 : decode cL_law 819 = .ok (.iadd, 1) := by decide +kernel
theorem dL_law_820 : decode cL_law 820 = .ok (.iaload, 1) := by decide +kernel
theorem dL_law_821 : decode cL_law 821 = .ok (.aload_n 3, 1) := by decide +kernel
theorem dL_law_822 : decode cL_law 822 = .ok (.invokestatic 138, 3) := by decide +kernel
theorem dL_law_825 : decode cL_law 825 = .ok (.istore 5, 2) := by decide +kernel
theorem dL_law_827 : decode cL_law 827 = .ok (.aload_n 2, 1) := by decide +kernel
theorem dL_law_828 : decode cL_law 828 = .ok (.aload_n 0, 1) := by decide +kernel
theorem dL_law_829 : decode cL_law 829 = .ok (.iload 4, 2) := by decide +kernel
theorem dL_law_831 : decode cL_law 831 = .ok (.iconst 1, 1) := by decide +kernel
theorem dL_law_832 : decode cL_law 832 = .ok (.iadd, 1) := by decide +kernel
theorem dL_law_833 : decode cL_law 833 = .ok (.iaload, 1) := by decide +kernel
theorem dL_law_834 : decode cL_law 834 = .ok (.aload_n 0, 1) := by decide +kernel
theorem dL_law_835 : decode cL_law 835 = .ok (.iload 4, 2) := by decide +kernel
theorem dL_law_837 : decode cL_law 837 = .ok (.iconst 2, 1) := by decide +kernel
theorem dL_law_838 : decode cL_law 838 = .ok (.iadd, 1) := by decide +kernel
theorem dL_law_839 : decode cL_law 839 = .ok (.iaload, 1) := by decide +kernel
theorem dL_law_840 : decode cL_law 840 = .ok (.invokevirtual 140, 3) := by decide +kernel
theorem dL_law_843 : decode cL_law 843 = .ok (.istore 6, 2) := by decide +kernel
theorem dL_law_845 : decode cL_law 845 = .ok (.aload_n 2, 1) := by decide +kernel
theorem dL_law_846 : decode cL_law 846 = .ok (.invokevirtual 108, 3) := by decide +kernel
theorem dL_law_849 : decode cL_law 849 = .ok (.iload 5, 2) := by decide +kernel
theorem dL_law_851 : decode cL_law 851 = .ok (.if_icmp .eq 5, 3) := by decide +kernel
theorem dL_law_856 : decode cL_law 856 = .ok (.iload 5, 2) := by decide +kernel
theorem dL_law_858 : decode cL_law 858 = .ok (.ifCond .ne 15, 3) := by decide +kernel
theorem dL_law_861 : decode cL_law 861 = .ok (.aload_n 3, 1) := by decide +kernel
theorem dL_law_862 : decode cL_law 862 = .ok (.iconst 0, 1) := by decide +kernel
theorem dL_law_863 : decode cL_law 863 = .ok (.laload, 1) := by decide +kernel
theorem dL_law_864 : decode cL_law 864 = .ok (.iload 6, 2) := by decide +kernel
theorem dL_law_866 : decode cL_law 866 = .ok (.i2l, 1) := by decide +kernel
theorem dL_law_867 : decode cL_law 867 = .ok (.lcmp, 1) := by decide +kernel
theorem dL_law_868 : decode cL_law 868 = .ok (.ifCond .eq 5, 3) := by decide +kernel
theorem dL_law_873 : decode cL_law 873 = .ok (.goto 1059, 3) := by decide +kernel
theorem C_moveTab (C : Ok X cL_law wsL_law RL (some .boolean) 12 7) (hX : va_X b N xs (xS X) (xS X).heap) (hb : b < (xS X).heap.size ∧ b < gZ (xG X)) (hN : N ≤ 3072) (hi : 0 ≤ i ∧ i + 6 ≤ N) (hO : hasS S o (.inl (1, 1))) (hM : MoS S r) {f9 : Nat} (hf9 : f9 ≤ 11)
    (hL : Ct (xG X) (xL X) yL_moveTab wsL_moveTab 9 1 6 [.ref a, .int (I32 (sc xs (i + 1))), .int (I32 (sc xs (i + 2))), .ref o] S n mu la (Lp S c mu1 la1)) (hR : ∀ n1, Ct (xG X) (xL X) yX9_moveTab wsX9_moveTab f9 0 0 [.ref r, .int (I32 (sc xs (i + 1))), .int (I32 (sc xs (i + 2)))] S n1 mu1 la1 (Dt (some (.int (I32 v))) S n1 mu2 la2)) (hc : 0 ≤ c ∧ c ≤ 3) (h7 : mu2 r 7 = c) (ho : c = 0 → la2 o 0 = (I32 v).toInt64) (hk : k + 1 ≤ (xR X).cells ∧ sl + 6 ≤ (xR X).slots)
    (kk : ∀ n1, V X 1932 [some (.ref b), some (.ref a), some (.ref r), some (.ref o), some (.int (I32 i)), none, none] [] S n1 mu2 la2 (k + 1) (sl + 6)) : V X 808 [some (.ref b), some (.ref a), some (.ref r), some (.ref o), some (.int (I32 i)), none, none] [] S n mu la k sl := by
  refine V_aload_n C dL_law_808 rfl ?_
  refine V_aload_n C dL_law_809 rfl ?_
  refine V_iload C dL_law_810 rfl ?_
  refine V_iconst C dL_law_812 ?_
  refine V_iadd C dL_law_813 ?_
  refine V_sald C hX hb hN (by omega) dL_law_814 ?_
  refine V_aload_n C dL_law_815 rfl ?_
  refine V_iload C dL_law_816 rfl ?_
  refine V_iconst C dL_law_818 ?_
  refine V_iadd C dL_law_819 ?_
  refine V_sald C hX hb hN (by omega) dL_law_820 ?_
  refine V_aload_n C dL_law_821 rfl ?_
  refine V_callSH (nA := 4) C dL_law_822 hL gL_law_L_moveTab rfl (by decide +kernel) rfl (by omega) (by decide) (Nat.le_of_ble_eq_true rfl) hk rfl ?_
  rintro _ S9 n1 mu9 la9 ⟨q0, q1, q2, q3⟩
  rw [q0, q1, q2, q3]
  refine V_istore C dL_law_825 rfl (by decide) ?_
  refine V_aload_n C dL_law_827 rfl ?_
  refine V_aload_n C dL_law_828 rfl ?_
  refine V_iload C dL_law_829 rfl ?_
  refine V_iconst C dL_law_831 ?_
  refine V_iadd C dL_law_832 ?_
  refine V_sald C hX hb hN (by omega) dL_law_833 ?_
  refine V_aload_n C dL_law_834 rfl ?_
  refine V_iload C dL_law_835 rfl ?_
  refine V_iconst C dL_law_837 ?_
  refine V_iadd C dL_law_838 ?_
  refine V_sald C hX hb hN (by omega) dL_law_839 ?_
  refine V_callVD (nA := 2) C dL_law_840 (hR n1) gL_law_X9_moveTab rfl hM.1 rfl (by decide +kernel) rfl (by omega) (by decide) (Nat.le_of_ble_eq_true rfl) hk rfl ?_
  refine V_istore C dL_law_843 rfl (by decide) ?_
  refine V_aload_n C dL_law_845 rfl ?_
  refine V_callVD (nA := 0) C dL_law_846 (m_thrown C.gp hM) gL_law_X9_thrown rfl hM.1 rfl (by decide +kernel) rfl (by omega) (by decide) (Nat.le_of_ble_eq_true rfl) hk rfl ?_
  refine V_iload C dL_law_849 rfl ?_
  refine V_icmp_eq C 856 dL_law_851 (by decide) (by omega) (by omega) (fun _ => ?_) (fun z => absurd h7 z)
  refine V_iload C dL_law_856 rfl ?_
  have fin : V X 873 [some (.ref b), some (.ref a), some (.ref r), some (.ref o), some (.int (I32 i)), some (.int (I32 c)), some (.int (I32 v))] [] S n1 mu2 la2 (k + 1) (sl + 6) := by
    refine V_goto C 1932 dL_law_873 (by decide) ?_
    exact V_fgt (r' := [some (.ref b), some (.ref a), some (.ref r), some (.ref o), some (.int (I32 i)), none, none]) (fun q9 h9 => by simp only [rOf, List.mem_cons, List.not_mem_nil, or_false] at h9 ⊢; rcases h9 with h | h | h | h | h <;> simp [h]) (kk n1)
  refine V_if_ne C 873 dL_law_858 (by decide) (by omega) (fun _ => fin) (fun z => ?_)
  refine V_aload_n C dL_law_861 rfl ?_
  refine V_iconst C dL_law_862 ?_
  refine V_lald C dL_law_863 hO (by decide) (by decide) ?_
  refine V_iload C dL_law_864 rfl ?_
  refine V_i2l C dL_law_866 ?_
  refine V_lcmp C dL_law_867 ?_
  rw [show la2 o (0 : Int).toNat = (I32 v).toInt64 from ho z, lg_cmp_xx]
  exact V_if_eq C 873 dL_law_868 (by decide) (by omega) (fun _ => fin) (fun z9 => absurd rfl z9)
set_option maxRecDepth 20000 in
theorem ggL_law_L_setShare : GoodIn wsL_law wsL_setShare := goodIn_ca (goodIn_ca (goodIn_ca (goodIn_s _ [(700, 1), (386, 1), (122, 1), (350, 1), (701, 3), (2, 1), (704, 1), (20, 1), (16, 1), (705, 5), (391, 4), (483, 1), (199, 2), (31, 1), (201, 1), (50, 1), (180, 2), (710, 1), (221, 2), (133, 12), (19, 1), (145, 11), (67, 1), (156, 3), (15, 1), (159, 1), (38, 2), (160, 1), (41, 1), (43, 1), (45, 1), (161, 11), (51, 7), (172, 4), (44, 1), (176, 4), (711, 1), (273, 3), (712, 4), (206, 2), (182, 4), (28, 1), (186, 3), (27, 1), (189, 2), (79, 1), (191, 6), (78, 1), (197, 1), (59, 3), (198, 1), (202, 4), (208, 5), (80, 1), (213, 8), (223, 4), (81, 1), (227, 11), (84, 1), (238, 12), (82, 2), (250, 8), (89, 1), (85, 1), (258, 7), (88, 1), (265, 8), (276, 4), (93, 2), (96, 1), (280, 8), (95, 1), (288, 24), (1349, 6), (1379, 7), (1408, 8), (1386, 3), (1395, 13), (1416, 6)] (by rfl) (by decide +kernel)) (goodIn_sub (fun _ h => List.mem_append_left _ (List.mem_append_left _ (List.mem_append_right _ h))) (by decide +kernel))) (goodIn_sub (fun _ h => List.mem_append_left _ (List.mem_append_right _ h)) (by decide +kernel))) (goodIn_sub (fun _ h => List.mem_append_right _ h) (by decide +kernel))
set_option maxRecDepth 20000 in
theorem gL_law_L_setShare : GoodIn wsL_law (va_wsS RL 141 yL_setShare wsL_setShare) := goodIn_app (goodIn_of _ (by decide +kernel)) ggL_law_L_setShare
set_option maxRecDepth 20000 in
theorem ggL_law_X9_setShare : GoodIn wsL_law wsX9_setShare := goodIn_s _ [(719, 1), (327, 3), (5, 1), (330, 1), (104, 1), (102, 1), (331, 3), (720, 5), (378, 1), (404, 4), (319, 3), (497, 12), (529, 4), (379, 4), (322, 5), (334, 5), (103, 1), (339, 4), (1355, 24)] (by rfl) (by decide +kernel)
set_option maxRecDepth 20000 in
theorem gL_law_X9_setShare : GoodIn wsL_law (wsV RL 143 RX9 yX9_setShare wsX9_setShare) := goodIn_app (goodIn_of _ (by decide +kernel)) ggL_law_X9_setShare
theorem dL_law_876 : decode cL_law 876 = .ok (.aload_n 1, 1) := by decide +kernel
theorem dL_law_877 : decode cL_law 877 = .ok (.aload_n 0, 1) := by decide +kernel
theorem dL_law_878 : decode cL_law 878 = .ok (.iload 4, 2) := by decide +kernel
theorem dL_law_880 : decode cL_law 880 = .ok (.iconst 1, 1) := by decide +kernel
theorem dL_law_881 : decode cL_law 881 = .ok (.iadd, 1) := by decide +kernel
theorem dL_law_882 : decode cL_law 882 = .ok (.iaload, 1) := by decide +kernel
theorem dL_law_883 : decode cL_law 883 = .ok (.aload_n 0, 1) := by decide +kernel
theorem dL_law_884 : decode cL_law 884 = .ok (.iload 4, 2) := by decide +kernel
theorem dL_law_886 : decode cL_law 886 = .ok (.iconst 2, 1) := by decide +kernel
theorem dL_law_887 : decode cL_law 887 = .ok (.iadd, 1) := by decide +kernel
theorem dL_law_888 : decode cL_law 888 = .ok (.iaload, 1) := by decide +kernel
theorem dL_law_889 : decode cL_law 889 = .ok (.aload_n 3, 1) := by decide +kernel
theorem dL_law_890 : decode cL_law 890 = .ok (.invokestatic 141, 3) := by decide +kernel
theorem dL_law_893 : decode cL_law 893 = .ok (.istore 5, 2) := by decide +kernel
theorem dL_law_895 : decode cL_law 895 = .ok (.aload_n 2, 1) := by decide +kernel
theorem dL_law_896 : decode cL_law 896 = .ok (.aload_n 0, 1) := by decide +kernel
theorem dL_law_897 : decode cL_law 897 = .ok (.iload 4, 2) := by decide +kernel
theorem dL_law_899 : decode cL_law 899 = .ok (.iconst 1, 1) := by decide +kernel
theorem dL_law_900 : decode cL_law 900 = .ok (.iadd, 1) := by decide +kernel
theorem dL_law_901 : decode cL_law 901 = .ok (.iaload, 1) := by decide +kernel
theorem dL_law_902 : decode cL_law 902 = .ok (.aload_n 0, 1) := by decide +kernel
theorem dL_law_903 : decode cL_law 903 = .ok (.iload 4, 2) := by decide +kernel
theorem dL_law_905 : decode cL_law 905 = .ok (.iconst 2, 1) := by decide +kernel
theorem dL_law_906 : decode cL_law 906 = .ok (.iadd, 1) := by decide +kernel
theorem dL_law_907 : decode cL_law 907 = .ok (.iaload, 1) := by decide +kernel
theorem dL_law_908 : decode cL_law 908 = .ok (.invokevirtual 143, 3) := by decide +kernel
theorem dL_law_911 : decode cL_law 911 = .ok (.istore 6, 2) := by decide +kernel
theorem dL_law_913 : decode cL_law 913 = .ok (.aload_n 2, 1) := by decide +kernel
theorem dL_law_914 : decode cL_law 914 = .ok (.invokevirtual 108, 3) := by decide +kernel
theorem dL_law_917 : decode cL_law 917 = .ok (.iload 5, 2) := by decide +kernel
theorem dL_law_919 : decode cL_law 919 = .ok (.if_icmp .eq 5, 3) := by decide +kernel
theorem dL_law_924 : decode cL_law 924 = .ok (.iload 5, 2) := by decide +kernel
theorem dL_law_926 : decode cL_law 926 = .ok (.ifCond .ne 15, 3) := by decide +kernel
theorem dL_law_929 : decode cL_law 929 = .ok (.aload_n 3, 1) := by decide +kernel
theorem dL_law_930 : decode cL_law 930 = .ok (.iconst 0, 1) := by decide +kernel
theorem dL_law_931 : decode cL_law 931 = .ok (.laload, 1) := by decide +kernel
theorem dL_law_932 : decode cL_law 932 = .ok (.iload 6, 2) := by decide +kernel
theorem dL_law_934 : decode cL_law 934 = .ok (.i2l, 1) := by decide +kernel
theorem dL_law_935 : decode cL_law 935 = .ok (.lcmp, 1) := by decide +kernel
theorem dL_law_936 : decode cL_law 936 = .ok (.ifCond .eq 5, 3) := by decide +kernel
theorem dL_law_941 : decode cL_law 941 = .ok (.goto 991, 3) := by decide +kernel
theorem C_setShare (C : Ok X cL_law wsL_law RL (some .boolean) 12 7) (hX : va_X b N xs (xS X) (xS X).heap) (hb : b < (xS X).heap.size ∧ b < gZ (xG X)) (hN : N ≤ 3072) (hi : 0 ≤ i ∧ i + 6 ≤ N) (hO : hasS S o (.inl (1, 1))) (hM : MoS S r) {f9 : Nat} (hf9 : f9 ≤ 11)
    (hL : Ct (xG X) (xL X) yL_setShare wsL_setShare 9 1 6 [.ref a, .int (I32 (sc xs (i + 1))), .int (I32 (sc xs (i + 2))), .ref o] S n mu la (Lp S c mu1 la1)) (hR : ∀ n1, Ct (xG X) (xL X) yX9_setShare wsX9_setShare f9 0 0 [.ref r, .int (I32 (sc xs (i + 1))), .int (I32 (sc xs (i + 2)))] S n1 mu1 la1 (Dt (some (.int (I32 v))) S n1 mu2 la2)) (hc : 0 ≤ c ∧ c ≤ 3) (h7 : mu2 r 7 = c) (ho : c = 0 → la2 o 0 = (I32 v).toInt64) (hk : k + 1 ≤ (xR X).cells ∧ sl + 6 ≤ (xR X).slots)
    (kk : ∀ n1, V X 1932 [some (.ref b), some (.ref a), some (.ref r), some (.ref o), some (.int (I32 i)), none, none] [] S n1 mu2 la2 (k + 1) (sl + 6)) : V X 876 [some (.ref b), some (.ref a), some (.ref r), some (.ref o), some (.int (I32 i)), none, none] [] S n mu la k sl := by
  refine V_aload_n C dL_law_876 rfl ?_
  refine V_aload_n C dL_law_877 rfl ?_
  refine V_iload C dL_law_878 rfl ?_
  refine V_iconst C dL_law_880 ?_
  refine V_iadd C dL_law_881 ?_
  refine V_sald C hX hb hN (by omega) dL_law_882 ?_
  refine V_aload_n C dL_law_883 rfl ?_
  refine V_iload C dL_law_884 rfl ?_
  refine V_iconst C dL_law_886 ?_
  refine V_iadd C dL_law_887 ?_
  refine V_sald C hX hb hN (by omega) dL_law_888 ?_
  refine V_aload_n C dL_law_889 rfl ?_
  refine V_callSH (nA := 4) C dL_law_890 hL gL_law_L_setShare rfl (by decide +kernel) rfl (by omega) (by decide) (Nat.le_of_ble_eq_true rfl) hk rfl ?_
  rintro _ S9 n1 mu9 la9 ⟨q0, q1, q2, q3⟩
  rw [q0, q1, q2, q3]
  refine V_istore C dL_law_893 rfl (by decide) ?_
  refine V_aload_n C dL_law_895 rfl ?_
  refine V_aload_n C dL_law_896 rfl ?_
  refine V_iload C dL_law_897 rfl ?_
  refine V_iconst C dL_law_899 ?_
  refine V_iadd C dL_law_900 ?_
  refine V_sald C hX hb hN (by omega) dL_law_901 ?_
  refine V_aload_n C dL_law_902 rfl ?_
  refine V_iload C dL_law_903 rfl ?_
  refine V_iconst C dL_law_905 ?_
  refine V_iadd C dL_law_906 ?_
  refine V_sald C hX hb hN (by omega) dL_law_907 ?_
  refine V_callVD (nA := 2) C dL_law_908 (hR n1) gL_law_X9_setShare rfl hM.1 rfl (by decide +kernel) rfl (by omega) (by decide) (Nat.le_of_ble_eq_true rfl) hk rfl ?_
  refine V_istore C dL_law_911 rfl (by decide) ?_
  refine V_aload_n C dL_law_913 rfl ?_
  refine V_callVD (nA := 0) C dL_law_914 (m_thrown C.gp hM) gL_law_X9_thrown rfl hM.1 rfl (by decide +kernel) rfl (by omega) (by decide) (Nat.le_of_ble_eq_true rfl) hk rfl ?_
  refine V_iload C dL_law_917 rfl ?_
  refine V_icmp_eq C 924 dL_law_919 (by decide) (by omega) (by omega) (fun _ => ?_) (fun z => absurd h7 z)
  refine V_iload C dL_law_924 rfl ?_
  have fin : V X 941 [some (.ref b), some (.ref a), some (.ref r), some (.ref o), some (.int (I32 i)), some (.int (I32 c)), some (.int (I32 v))] [] S n1 mu2 la2 (k + 1) (sl + 6) := by
    refine V_goto C 1932 dL_law_941 (by decide) ?_
    exact V_fgt (r' := [some (.ref b), some (.ref a), some (.ref r), some (.ref o), some (.int (I32 i)), none, none]) (fun q9 h9 => by simp only [rOf, List.mem_cons, List.not_mem_nil, or_false] at h9 ⊢; rcases h9 with h | h | h | h | h <;> simp [h]) (kk n1)
  refine V_if_ne C 941 dL_law_926 (by decide) (by omega) (fun _ => fin) (fun z => ?_)
  refine V_aload_n C dL_law_929 rfl ?_
  refine V_iconst C dL_law_930 ?_
  refine V_lald C dL_law_931 hO (by decide) (by decide) ?_
  refine V_iload C dL_law_932 rfl ?_
  refine V_i2l C dL_law_934 ?_
  refine V_lcmp C dL_law_935 ?_
  rw [show la2 o (0 : Int).toNat = (I32 v).toInt64 from ho z, lg_cmp_xx]
  exact V_if_eq C 941 dL_law_936 (by decide) (by omega) (fun _ => fin) (fun z9 => absurd rfl z9)
set_option maxRecDepth 20000 in
theorem ggL_law_L_drag : GoodIn wsL_law wsL_drag := goodIn_ca (goodIn_ca (goodIn_ca (goodIn_s _ [(727, 1), (386, 1), (122, 1), (350, 1), (728, 3), (2, 1), (731, 1), (20, 1), (16, 1), (28, 1), (732, 4), (391, 4), (483, 1), (199, 2), (31, 1), (201, 1), (50, 1), (180, 2), (710, 1), (221, 2), (736, 3), (27, 1), (739, 1), (85, 1), (689, 1), (203, 3), (51, 1), (740, 1), (441, 3), (741, 1), (231, 3), (55, 1), (742, 4), (258, 4), (83, 1), (268, 4), (81, 1), (133, 12), (19, 1), (145, 11), (67, 1), (156, 3), (15, 1), (159, 1), (38, 2), (160, 1), (41, 1), (43, 1), (45, 1), (161, 11), (52, 3), (56, 2), (172, 4), (44, 1), (176, 4), (746, 4), (484, 1), (218, 3), (750, 1), (214, 3), (78, 1), (751, 1), (712, 4), (206, 2), (182, 9), (79, 1), (191, 7), (59, 3), (198, 1), (202, 1), (208, 5), (80, 1), (213, 1), (217, 1), (223, 8), (234, 4), (84, 1), (238, 12), (82, 1), (250, 8), (89, 1), (262, 3), (88, 1), (265, 3), (272, 8), (93, 2), (96, 1), (280, 8), (95, 1), (288, 24), (1349, 6), (1379, 7), (1408, 8), (1395, 13), (1386, 3), (1416, 6)] (by rfl) (by decide +kernel)) (goodIn_sub (fun _ h => List.mem_append_left _ (List.mem_append_left _ (List.mem_append_right _ h))) (by decide +kernel))) (goodIn_sub (fun _ h => List.mem_append_left _ (List.mem_append_right _ h)) (by decide +kernel))) (goodIn_sub (fun _ h => List.mem_append_right _ h) (by decide +kernel))
set_option maxRecDepth 20000 in
theorem gL_law_L_drag : GoodIn wsL_law (va_wsS RL 144 yL_drag wsL_drag) := goodIn_app (goodIn_of _ (by decide +kernel)) ggL_law_L_drag
set_option maxRecDepth 20000 in
theorem ggL_law_X9_drag : GoodIn wsL_law wsX9_drag := goodIn_s _ [(755, 1), (404, 3), (5, 1), (407, 1), (102, 1), (319, 8), (756, 4), (114, 1), (501, 4), (497, 4), (505, 4), (760, 9), (107, 1), (110, 4), (115, 1), (769, 4), (591, 4), (773, 4), (533, 8), (777, 4), (108, 2), (781, 16), (116, 1), (797, 8), (327, 4), (104, 1), (331, 3), (529, 4), (334, 5), (103, 1), (339, 4), (1355, 24)] (by rfl) (by decide +kernel)
set_option maxRecDepth 20000 in
theorem gL_law_X9_drag : GoodIn wsL_law (wsV RL 146 RX9 yX9_drag wsX9_drag) := goodIn_app (goodIn_of _ (by decide +kernel)) ggL_law_X9_drag
theorem dL_law_944 : decode cL_law 944 = .ok (.aload_n 1, 1) := by decide +kernel
theorem dL_law_945 : decode cL_law 945 = .ok (.aload_n 0, 1) := by decide +kernel
theorem dL_law_946 : decode cL_law 946 = .ok (.iload 4, 2) := by decide +kernel
theorem dL_law_948 : decode cL_law 948 = .ok (.iconst 1, 1) := by decide +kernel
theorem dL_law_949 : decode cL_law 949 = .ok (.iadd, 1) := by decide +kernel
theorem dL_law_950 : decode cL_law 950 = .ok (.iaload, 1) := by decide +kernel
theorem dL_law_951 : decode cL_law 951 = .ok (.aload_n 0, 1) := by decide +kernel
theorem dL_law_952 : decode cL_law 952 = .ok (.iload 4, 2) := by decide +kernel
theorem dL_law_954 : decode cL_law 954 = .ok (.iconst 2, 1) := by decide +kernel
theorem dL_law_955 : decode cL_law 955 = .ok (.iadd, 1) := by decide +kernel
theorem dL_law_956 : decode cL_law 956 = .ok (.iaload, 1) := by decide +kernel
theorem dL_law_957 : decode cL_law 957 = .ok (.aload_n 3, 1) := by decide +kernel
theorem dL_law_958 : decode cL_law 958 = .ok (.invokestatic 144, 3) := by decide +kernel
theorem dL_law_961 : decode cL_law 961 = .ok (.istore 5, 2) := by decide +kernel
theorem dL_law_963 : decode cL_law 963 = .ok (.aload_n 2, 1) := by decide +kernel
theorem dL_law_964 : decode cL_law 964 = .ok (.aload_n 0, 1) := by decide +kernel
theorem dL_law_965 : decode cL_law 965 = .ok (.iload 4, 2) := by decide +kernel
theorem dL_law_967 : decode cL_law 967 = .ok (.iconst 1, 1) := by decide +kernel
theorem dL_law_968 : decode cL_law 968 = .ok (.iadd, 1) := by decide +kernel
theorem dL_law_969 : decode cL_law 969 = .ok (.iaload, 1) := by decide +kernel
theorem dL_law_970 : decode cL_law 970 = .ok (.aload_n 0, 1) := by decide +kernel
theorem dL_law_971 : decode cL_law 971 = .ok (.iload 4, 2) := by decide +kernel
theorem dL_law_973 : decode cL_law 973 = .ok (.iconst 2, 1) := by decide +kernel
theorem dL_law_974 : decode cL_law 974 = .ok (.iadd, 1) := by decide +kernel
theorem dL_law_975 : decode cL_law 975 = .ok (.iaload, 1) := by decide +kernel
theorem dL_law_976 : decode cL_law 976 = .ok (.invokevirtual 146, 3) := by decide +kernel
theorem dL_law_979 : decode cL_law 979 = .ok (.istore 6, 2) := by decide +kernel
theorem dL_law_981 : decode cL_law 981 = .ok (.aload_n 2, 1) := by decide +kernel
theorem dL_law_982 : decode cL_law 982 = .ok (.invokevirtual 108, 3) := by decide +kernel
theorem dL_law_985 : decode cL_law 985 = .ok (.iload 5, 2) := by decide +kernel
theorem dL_law_987 : decode cL_law 987 = .ok (.if_icmp .eq 5, 3) := by decide +kernel
theorem dL_law_992 : decode cL_law 992 = .ok (.iload 5, 2) := by decide +kernel
theorem dL_law_994 : decode cL_law 994 = .ok (.ifCond .ne 15, 3) := by decide +kernel
theorem dL_law_997 : decode cL_law 997 = .ok (.aload_n 3, 1) := by decide +kernel
theorem dL_law_998 : decode cL_law 998 = .ok (.iconst 0, 1) := by decide +kernel
theorem dL_law_999 : decode cL_law 999 = .ok (.laload, 1) := by decide +kernel
theorem dL_law_1000 : decode cL_law 1000 = .ok (.iload 6, 2) := by decide +kernel
theorem dL_law_1002 : decode cL_law 1002 = .ok (.i2l, 1) := by decide +kernel
theorem dL_law_1003 : decode cL_law 1003 = .ok (.lcmp, 1) := by decide +kernel
theorem dL_law_1004 : decode cL_law 1004 = .ok (.ifCond .eq 5, 3) := by decide +kernel
theorem dL_law_1009 : decode cL_law 1009 = .ok (.goto 923, 3) := by decide +kernel
theorem C_drag (C : Ok X cL_law wsL_law RL (some .boolean) 12 7) (hX : va_X b N xs (xS X) (xS X).heap) (hb : b < (xS X).heap.size ∧ b < gZ (xG X)) (hN : N ≤ 3072) (hi : 0 ≤ i ∧ i + 6 ≤ N) (hO : hasS S o (.inl (1, 1))) (hM : MoS S r) {f9 : Nat} (hf9 : f9 ≤ 11)
    (hL : Ct (xG X) (xL X) yL_drag wsL_drag 9 1 6 [.ref a, .int (I32 (sc xs (i + 1))), .int (I32 (sc xs (i + 2))), .ref o] S n mu la (Lp S c mu1 la1)) (hR : ∀ n1, Ct (xG X) (xL X) yX9_drag wsX9_drag f9 0 0 [.ref r, .int (I32 (sc xs (i + 1))), .int (I32 (sc xs (i + 2)))] S n1 mu1 la1 (Dt (some (.int (I32 v))) S n1 mu2 la2)) (hc : 0 ≤ c ∧ c ≤ 3) (h7 : mu2 r 7 = c) (ho : c = 0 → la2 o 0 = (I32 v).toInt64) (hk : k + 1 ≤ (xR X).cells ∧ sl + 6 ≤ (xR X).slots)
    (kk : ∀ n1, V X 1932 [some (.ref b), some (.ref a), some (.ref r), some (.ref o), some (.int (I32 i)), none, none] [] S n1 mu2 la2 (k + 1) (sl + 6)) : V X 944 [some (.ref b), some (.ref a), some (.ref r), some (.ref o), some (.int (I32 i)), none, none] [] S n mu la k sl := by
  refine V_aload_n C dL_law_944 rfl ?_
  refine V_aload_n C dL_law_945 rfl ?_
  refine V_iload C dL_law_946 rfl ?_
  refine V_iconst C dL_law_948 ?_
  refine V_iadd C dL_law_949 ?_
  refine V_sald C hX hb hN (by omega) dL_law_950 ?_
  refine V_aload_n C dL_law_951 rfl ?_
  refine V_iload C dL_law_952 rfl ?_
  refine V_iconst C dL_law_954 ?_
  refine V_iadd C dL_law_955 ?_
  refine V_sald C hX hb hN (by omega) dL_law_956 ?_
  refine V_aload_n C dL_law_957 rfl ?_
  refine V_callSH (nA := 4) C dL_law_958 hL gL_law_L_drag rfl (by decide +kernel) rfl (by omega) (by decide) (Nat.le_of_ble_eq_true rfl) hk rfl ?_
  rintro _ S9 n1 mu9 la9 ⟨q0, q1, q2, q3⟩
  rw [q0, q1, q2, q3]
  refine V_istore C dL_law_961 rfl (by decide) ?_
  refine V_aload_n C dL_law_963 rfl ?_
  refine V_aload_n C dL_law_964 rfl ?_
  refine V_iload C dL_law_965 rfl ?_
  refine V_iconst C dL_law_967 ?_
  refine V_iadd C dL_law_968 ?_
  refine V_sald C hX hb hN (by omega) dL_law_969 ?_
  refine V_aload_n C dL_law_970 rfl ?_
  refine V_iload C dL_law_971 rfl ?_
  refine V_iconst C dL_law_973 ?_
  refine V_iadd C dL_law_974 ?_
  refine V_sald C hX hb hN (by omega) dL_law_975 ?_
  refine V_callVD (nA := 2) C dL_law_976 (hR n1) gL_law_X9_drag rfl hM.1 rfl (by decide +kernel) rfl (by omega) (by decide) (Nat.le_of_ble_eq_true rfl) hk rfl ?_
  refine V_istore C dL_law_979 rfl (by decide) ?_
  refine V_aload_n C dL_law_981 rfl ?_
  refine V_callVD (nA := 0) C dL_law_982 (m_thrown C.gp hM) gL_law_X9_thrown rfl hM.1 rfl (by decide +kernel) rfl (by omega) (by decide) (Nat.le_of_ble_eq_true rfl) hk rfl ?_
  refine V_iload C dL_law_985 rfl ?_
  refine V_icmp_eq C 992 dL_law_987 (by decide) (by omega) (by omega) (fun _ => ?_) (fun z => absurd h7 z)
  refine V_iload C dL_law_992 rfl ?_
  have fin : V X 1009 [some (.ref b), some (.ref a), some (.ref r), some (.ref o), some (.int (I32 i)), some (.int (I32 c)), some (.int (I32 v))] [] S n1 mu2 la2 (k + 1) (sl + 6) := by
    refine V_goto C 1932 dL_law_1009 (by decide) ?_
    exact V_fgt (r' := [some (.ref b), some (.ref a), some (.ref r), some (.ref o), some (.int (I32 i)), none, none]) (fun q9 h9 => by simp only [rOf, List.mem_cons, List.not_mem_nil, or_false] at h9 ⊢; rcases h9 with h | h | h | h | h <;> simp [h]) (kk n1)
  refine V_if_ne C 1009 dL_law_994 (by decide) (by omega) (fun _ => fin) (fun z => ?_)
  refine V_aload_n C dL_law_997 rfl ?_
  refine V_iconst C dL_law_998 ?_
  refine V_lald C dL_law_999 hO (by decide) (by decide) ?_
  refine V_iload C dL_law_1000 rfl ?_
  refine V_i2l C dL_law_1002 ?_
  refine V_lcmp C dL_law_1003 ?_
  rw [show la2 o (0 : Int).toNat = (I32 v).toInt64 from ho z, lg_cmp_xx]
  exact V_if_eq C 1009 dL_law_1004 (by decide) (by omega) (fun _ => fin) (fun z9 => absurd rfl z9)
end LC
