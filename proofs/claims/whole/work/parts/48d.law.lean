/-! THE LAW: cases 12 to 17 -/
section LC
variable {X : Cx} {S : Sh} {n : Nat} {mu mu1 mu2 : Mem} {la la1 la2 : Lam} {k sl a r o b N : Nat} {xs : Nat → Int32} {ks : List Sk} {i c v : Int}
set_option maxRecDepth 20000 in
theorem ggL_law_L_save : GoodIn wsL_law wsL_save := goodIn_ca (goodIn_ca (goodIn_ca (goodIn_s _ [(807, 1), (122, 1), (808, 3), (2, 1), (811, 1), (20, 1), (16, 1), (812, 3), (130, 15), (19, 1), (145, 11), (67, 1), (156, 3), (15, 1), (159, 1), (38, 2), (160, 1), (41, 1), (43, 1), (45, 1), (161, 10), (31, 1), (171, 1), (50, 8), (172, 4), (44, 1), (176, 6), (815, 5), (206, 2), (1349, 6), (1386, 3), (1379, 7), (1408, 8)] (by rfl) (by decide +kernel)) (goodIn_sub (fun _ h => List.mem_append_left _ (List.mem_append_left _ (List.mem_append_right _ h))) (by decide +kernel))) (goodIn_sub (fun _ h => List.mem_append_left _ (List.mem_append_right _ h)) (by decide +kernel))) (goodIn_sub (fun _ h => List.mem_append_right _ h) (by decide +kernel))
set_option maxRecDepth 20000 in
theorem gL_law_L_save : GoodIn wsL_law (va_wsS RL 147 yL_save wsL_save) := goodIn_app (goodIn_of _ (by decide +kernel)) ggL_law_L_save
set_option maxRecDepth 20000 in
theorem ggL_law_X9_save : GoodIn wsL_law wsX9_save := goodIn_s _ [(823, 1), (327, 3), (5, 1), (330, 1), (104, 1), (102, 1), (331, 3), (824, 4), (378, 1), (319, 3), (379, 4), (322, 5), (334, 5), (103, 1), (339, 4), (1355, 24)] (by rfl) (by decide +kernel)
set_option maxRecDepth 20000 in
theorem gL_law_X9_save : GoodIn wsL_law (wsV RL 149 RX9 yX9_save wsX9_save) := goodIn_app (goodIn_of _ (by decide +kernel)) ggL_law_X9_save
theorem dL_law_1012 : decode cL_law 1012 = .ok (.aload_n 1, 1) := by decide +kernel
theorem dL_law_1013 : decode cL_law 1013 = .ok (.aload_n 0, 1) := by decide +kernel
theorem dL_law_1014 : decode cL_law 1014 = .ok (.iload 4, 2) := by decide +kernel
theorem dL_law_1016 : decode cL_law 1016 = .ok (.iconst 1, 1) := by decide +kernel
theorem dL_law_1017 : decode cL_law 1017 = .ok (.iadd, 1) := by decide +kernel
theorem dL_law_1018 : decode cL_law 1018 = .ok (.iaload, 1) := by decide +kernel
theorem dL_law_1019 : decode cL_law 1019 = .ok (.aload_n 3, 1) := by decide +kernel
theorem dL_law_1020 : decode cL_law 1020 = .ok (.invokestatic 147, 3) := by decide +kernel
theorem dL_law_1023 : decode cL_law 1023 = .ok (.istore 5, 2) := by decide +kernel
theorem dL_law_1025 : decode cL_law 1025 = .ok (.aload_n 2, 1) := by decide +kernel
theorem dL_law_1026 : decode cL_law 1026 = .ok (.aload_n 0, 1) := by decide +kernel
theorem dL_law_1027 : decode cL_law 1027 = .ok (.iload 4, 2) := by decide +kernel
theorem dL_law_1029 : decode cL_law 1029 = .ok (.iconst 1, 1) := by decide +kernel
theorem dL_law_1030 : decode cL_law 1030 = .ok (.iadd, 1) := by decide +kernel
theorem dL_law_1031 : decode cL_law 1031 = .ok (.iaload, 1) := by decide +kernel
theorem dL_law_1032 : decode cL_law 1032 = .ok (.invokevirtual 149, 3) := by decide +kernel
theorem dL_law_1035 : decode cL_law 1035 = .ok (.istore 6, 2) := by decide +kernel
theorem dL_law_1037 : decode cL_law 1037 = .ok (.aload_n 2, 1) := by decide +kernel
theorem dL_law_1038 : decode cL_law 1038 = .ok (.invokevirtual 108, 3) := by decide +kernel
theorem dL_law_1041 : decode cL_law 1041 = .ok (.iload 5, 2) := by decide +kernel
theorem dL_law_1043 : decode cL_law 1043 = .ok (.if_icmp .eq 5, 3) := by decide +kernel
theorem dL_law_1048 : decode cL_law 1048 = .ok (.iload 5, 2) := by decide +kernel
theorem dL_law_1050 : decode cL_law 1050 = .ok (.ifCond .ne 15, 3) := by decide +kernel
theorem dL_law_1053 : decode cL_law 1053 = .ok (.aload_n 3, 1) := by decide +kernel
theorem dL_law_1054 : decode cL_law 1054 = .ok (.iconst 0, 1) := by decide +kernel
theorem dL_law_1055 : decode cL_law 1055 = .ok (.laload, 1) := by decide +kernel
theorem dL_law_1056 : decode cL_law 1056 = .ok (.iload 6, 2) := by decide +kernel
theorem dL_law_1058 : decode cL_law 1058 = .ok (.i2l, 1) := by decide +kernel
theorem dL_law_1059 : decode cL_law 1059 = .ok (.lcmp, 1) := by decide +kernel
theorem dL_law_1060 : decode cL_law 1060 = .ok (.ifCond .eq 5, 3) := by decide +kernel
theorem dL_law_1065 : decode cL_law 1065 = .ok (.goto 867, 3) := by decide +kernel
theorem C_save (C : Ok X cL_law wsL_law RL (some .boolean) 12 7) (hX : va_X b N xs (xS X) (xS X).heap) (hb : b < (xS X).heap.size ∧ b < gZ (xG X)) (hN : N ≤ 3072) (hi : 0 ≤ i ∧ i + 6 ≤ N) (hO : hasS S o (.inl (1, 1))) (hM : MoS S r) {f9 : Nat} (hf9 : f9 ≤ 11)
    (hL : Ct (xG X) (xL X) yL_save wsL_save 9 1 6 [.ref a, .int (I32 (sc xs (i + 1))), .ref o] S n mu la (Lp S c mu1 la1)) (hR : ∀ n1, Ct (xG X) (xL X) yX9_save wsX9_save f9 0 0 [.ref r, .int (I32 (sc xs (i + 1)))] S n1 mu1 la1 (Dt (some (.int (I32 v))) S n1 mu2 la2)) (hc : 0 ≤ c ∧ c ≤ 3) (h7 : mu2 r 7 = c) (ho : c = 0 → la2 o 0 = (I32 v).toInt64) (hk : k + 1 ≤ (xR X).cells ∧ sl + 6 ≤ (xR X).slots)
    (kk : ∀ n1, V X 1932 [some (.ref b), some (.ref a), some (.ref r), some (.ref o), some (.int (I32 i)), none, none] [] S n1 mu2 la2 (k + 1) (sl + 6)) : V X 1012 [some (.ref b), some (.ref a), some (.ref r), some (.ref o), some (.int (I32 i)), none, none] [] S n mu la k sl := by
  refine V_aload_n C dL_law_1012 rfl ?_
  refine V_aload_n C dL_law_1013 rfl ?_
  refine V_iload C dL_law_1014 rfl ?_
  refine V_iconst C dL_law_1016 ?_
  refine V_iadd C dL_law_1017 ?_
  refine V_sald C hX hb hN (by omega) dL_law_1018 ?_
  refine V_aload_n C dL_law_1019 rfl ?_
  refine V_callSH (nA := 3) C dL_law_1020 hL gL_law_L_save rfl (by decide +kernel) rfl (by omega) (by decide) (Nat.le_of_ble_eq_true rfl) hk rfl ?_
  rintro _ S9 n1 mu9 la9 ⟨q0, q1, q2, q3⟩
  rw [q0, q1, q2, q3]
  refine V_istore C dL_law_1023 rfl (by decide) ?_
  refine V_aload_n C dL_law_1025 rfl ?_
  refine V_aload_n C dL_law_1026 rfl ?_
  refine V_iload C dL_law_1027 rfl ?_
  refine V_iconst C dL_law_1029 ?_
  refine V_iadd C dL_law_1030 ?_
  refine V_sald C hX hb hN (by omega) dL_law_1031 ?_
  refine V_callVD (nA := 1) C dL_law_1032 (hR n1) gL_law_X9_save rfl hM.1 rfl (by decide +kernel) rfl (by omega) (by decide) (Nat.le_of_ble_eq_true rfl) hk rfl ?_
  refine V_istore C dL_law_1035 rfl (by decide) ?_
  refine V_aload_n C dL_law_1037 rfl ?_
  refine V_callVD (nA := 0) C dL_law_1038 (m_thrown C.gp hM) gL_law_X9_thrown rfl hM.1 rfl (by decide +kernel) rfl (by omega) (by decide) (Nat.le_of_ble_eq_true rfl) hk rfl ?_
  refine V_iload C dL_law_1041 rfl ?_
  refine V_icmp_eq C 1048 dL_law_1043 (by decide) (by omega) (by omega) (fun _ => ?_) (fun z => absurd h7 z)
  refine V_iload C dL_law_1048 rfl ?_
  have fin : V X 1065 [some (.ref b), some (.ref a), some (.ref r), some (.ref o), some (.int (I32 i)), some (.int (I32 c)), some (.int (I32 v))] [] S n1 mu2 la2 (k + 1) (sl + 6) := by
    refine V_goto C 1932 dL_law_1065 (by decide) ?_
    exact V_fgt (r' := [some (.ref b), some (.ref a), some (.ref r), some (.ref o), some (.int (I32 i)), none, none]) (fun q9 h9 => by simp only [rOf, List.mem_cons, List.not_mem_nil, or_false] at h9 ⊢; rcases h9 with h | h | h | h | h <;> simp [h]) (kk n1)
  refine V_if_ne C 1065 dL_law_1050 (by decide) (by omega) (fun _ => fin) (fun z => ?_)
  refine V_aload_n C dL_law_1053 rfl ?_
  refine V_iconst C dL_law_1054 ?_
  refine V_lald C dL_law_1055 hO (by decide) (by decide) ?_
  refine V_iload C dL_law_1056 rfl ?_
  refine V_i2l C dL_law_1058 ?_
  refine V_lcmp C dL_law_1059 ?_
  rw [show la2 o (0 : Int).toNat = (I32 v).toInt64 from ho z, lg_cmp_xx]
  exact V_if_eq C 1065 dL_law_1060 (by decide) (by omega) (fun _ => fin) (fun z9 => absurd rfl z9)
set_option maxRecDepth 20000 in
theorem ggL_law_L_bringBack : GoodIn wsL_law wsL_bringBack := goodIn_ca (goodIn_ca (goodIn_ca (goodIn_s _ [(830, 1), (122, 1), (350, 1), (831, 3), (2, 1), (834, 1), (20, 1), (16, 1), (835, 4), (130, 3), (815, 1), (177, 2), (15, 1), (179, 1), (45, 1), (180, 2), (133, 12), (19, 1), (145, 11), (67, 1), (156, 4), (38, 2), (160, 1), (41, 1), (43, 1), (161, 10), (31, 1), (171, 1), (50, 8), (172, 4), (44, 1), (176, 1), (839, 4), (182, 4), (28, 1), (186, 3), (27, 1), (189, 2), (79, 1), (191, 6), (78, 1), (197, 1), (59, 3), (198, 15), (80, 1), (213, 14), (81, 1), (227, 11), (84, 1), (238, 12), (82, 2), (250, 8), (89, 1), (85, 1), (258, 7), (88, 1), (265, 15), (93, 2), (96, 1), (280, 8), (95, 1), (288, 24), (843, 4), (419, 4), (1349, 6), (1379, 10), (1408, 8), (1395, 13), (1416, 6)] (by rfl) (by decide +kernel)) (goodIn_sub (fun _ h => List.mem_append_left _ (List.mem_append_left _ (List.mem_append_right _ h))) (by decide +kernel))) (goodIn_sub (fun _ h => List.mem_append_left _ (List.mem_append_right _ h)) (by decide +kernel))) (goodIn_sub (fun _ h => List.mem_append_right _ h) (by decide +kernel))
set_option maxRecDepth 20000 in
theorem gL_law_L_bringBack : GoodIn wsL_law (va_wsS RL 150 yL_bringBack wsL_bringBack) := goodIn_app (goodIn_of _ (by decide +kernel)) ggL_law_L_bringBack
set_option maxRecDepth 20000 in
theorem ggL_law_X9_bringBack : GoodIn wsL_law wsX9_bringBack := goodIn_s _ [(850, 1), (327, 3), (5, 1), (330, 1), (104, 1), (102, 1), (331, 3), (851, 4), (378, 1), (319, 3), (501, 4), (379, 4), (322, 5), (334, 5), (103, 1), (339, 4), (1355, 24)] (by rfl) (by decide +kernel)
set_option maxRecDepth 20000 in
theorem gL_law_X9_bringBack : GoodIn wsL_law (wsV RL 152 RX9 yX9_bringBack wsX9_bringBack) := goodIn_app (goodIn_of _ (by decide +kernel)) ggL_law_X9_bringBack
theorem dL_law_1068 : decode cL_law 1068 = .ok (.aload_n 1, 1) := by decide +kernel
theorem dL_law_1069 : decode cL_law 1069 = .ok (.aload_n 0, 1) := by decide +kernel
theorem dL_law_1070 : decode cL_law 1070 = .ok (.iload 4, 2) := by decide +kernel
theorem dL_law_1072 : decode cL_law 1072 = .ok (.iconst 1, 1) := by decide +kernel
theorem dL_law_1073 : decode cL_law 1073 = .ok (.iadd, 1) := by decide +kernel
theorem dL_law_1074 : decode cL_law 1074 = .ok (.iaload, 1) := by decide +kernel
theorem dL_law_1075 : decode cL_law 1075 = .ok (.aload_n 3, 1) := by decide +kernel
theorem dL_law_1076 : decode cL_law 1076 = .ok (.invokestatic 150, 3) := by decide +kernel
theorem dL_law_1079 : decode cL_law 1079 = .ok (.istore 5, 2) := by decide +kernel
theorem dL_law_1081 : decode cL_law 1081 = .ok (.aload_n 2, 1) := by decide +kernel
theorem dL_law_1082 : decode cL_law 1082 = .ok (.aload_n 0, 1) := by decide +kernel
theorem dL_law_1083 : decode cL_law 1083 = .ok (.iload 4, 2) := by decide +kernel
theorem dL_law_1085 : decode cL_law 1085 = .ok (.iconst 1, 1) := by decide +kernel
theorem dL_law_1086 : decode cL_law 1086 = .ok (.iadd, 1) := by decide +kernel
theorem dL_law_1087 : decode cL_law 1087 = .ok (.iaload, 1) := by decide +kernel
theorem dL_law_1088 : decode cL_law 1088 = .ok (.invokevirtual 152, 3) := by decide +kernel
theorem dL_law_1091 : decode cL_law 1091 = .ok (.istore 6, 2) := by decide +kernel
theorem dL_law_1093 : decode cL_law 1093 = .ok (.aload_n 2, 1) := by decide +kernel
theorem dL_law_1094 : decode cL_law 1094 = .ok (.invokevirtual 108, 3) := by decide +kernel
theorem dL_law_1097 : decode cL_law 1097 = .ok (.iload 5, 2) := by decide +kernel
theorem dL_law_1099 : decode cL_law 1099 = .ok (.if_icmp .eq 5, 3) := by decide +kernel
theorem dL_law_1104 : decode cL_law 1104 = .ok (.iload 5, 2) := by decide +kernel
theorem dL_law_1106 : decode cL_law 1106 = .ok (.ifCond .ne 15, 3) := by decide +kernel
theorem dL_law_1109 : decode cL_law 1109 = .ok (.aload_n 3, 1) := by decide +kernel
theorem dL_law_1110 : decode cL_law 1110 = .ok (.iconst 0, 1) := by decide +kernel
theorem dL_law_1111 : decode cL_law 1111 = .ok (.laload, 1) := by decide +kernel
theorem dL_law_1112 : decode cL_law 1112 = .ok (.iload 6, 2) := by decide +kernel
theorem dL_law_1114 : decode cL_law 1114 = .ok (.i2l, 1) := by decide +kernel
theorem dL_law_1115 : decode cL_law 1115 = .ok (.lcmp, 1) := by decide +kernel
theorem dL_law_1116 : decode cL_law 1116 = .ok (.ifCond .eq 5, 3) := by decide +kernel
theorem dL_law_1121 : decode cL_law 1121 = .ok (.goto 811, 3) := by decide +kernel
theorem C_bringBack (C : Ok X cL_law wsL_law RL (some .boolean) 12 7) (hX : va_X b N xs (xS X) (xS X).heap) (hb : b < (xS X).heap.size ∧ b < gZ (xG X)) (hN : N ≤ 3072) (hi : 0 ≤ i ∧ i + 6 ≤ N) (hO : hasS S o (.inl (1, 1))) (hM : MoS S r) {f9 : Nat} (hf9 : f9 ≤ 11)
    (hL : Ct (xG X) (xL X) yL_bringBack wsL_bringBack 9 1 6 [.ref a, .int (I32 (sc xs (i + 1))), .ref o] S n mu la (Lp S c mu1 la1)) (hR : ∀ n1, Ct (xG X) (xL X) yX9_bringBack wsX9_bringBack f9 0 0 [.ref r, .int (I32 (sc xs (i + 1)))] S n1 mu1 la1 (Dt (some (.int (I32 v))) S n1 mu2 la2)) (hc : 0 ≤ c ∧ c ≤ 3) (h7 : mu2 r 7 = c) (ho : c = 0 → la2 o 0 = (I32 v).toInt64) (hk : k + 1 ≤ (xR X).cells ∧ sl + 6 ≤ (xR X).slots)
    (kk : ∀ n1, V X 1932 [some (.ref b), some (.ref a), some (.ref r), some (.ref o), some (.int (I32 i)), none, none] [] S n1 mu2 la2 (k + 1) (sl + 6)) : V X 1068 [some (.ref b), some (.ref a), some (.ref r), some (.ref o), some (.int (I32 i)), none, none] [] S n mu la k sl := by
  refine V_aload_n C dL_law_1068 rfl ?_
  refine V_aload_n C dL_law_1069 rfl ?_
  refine V_iload C dL_law_1070 rfl ?_
  refine V_iconst C dL_law_1072 ?_
  refine V_iadd C dL_law_1073 ?_
  refine V_sald C hX hb hN (by omega) dL_law_1074 ?_
  refine V_aload_n C dL_law_1075 rfl ?_
  refine V_callSH (nA := 3) C dL_law_1076 hL gL_law_L_bringBack rfl (by decide +kernel) rfl (by omega) (by decide) (Nat.le_of_ble_eq_true rfl) hk rfl ?_
  rintro _ S9 n1 mu9 la9 ⟨q0, q1, q2, q3⟩
  rw [q0, q1, q2, q3]
  refine V_istore C dL_law_1079 rfl (by decide) ?_
  refine V_aload_n C dL_law_1081 rfl ?_
  refine V_aload_n C dL_law_1082 rfl ?_
  refine V_iload C dL_law_1083 rfl ?_
  refine V_iconst C dL_law_1085 ?_
  refine V_iadd C dL_law_1086 ?_
  refine V_sald C hX hb hN (by omega) dL_law_1087 ?_
  refine V_callVD (nA := 1) C dL_law_1088 (hR n1) gL_law_X9_bringBack rfl hM.1 rfl (by decide +kernel) rfl (by omega) (by decide) (Nat.le_of_ble_eq_true rfl) hk rfl ?_
  refine V_istore C dL_law_1091 rfl (by decide) ?_
  refine V_aload_n C dL_law_1093 rfl ?_
  refine V_callVD (nA := 0) C dL_law_1094 (m_thrown C.gp hM) gL_law_X9_thrown rfl hM.1 rfl (by decide +kernel) rfl (by omega) (by decide) (Nat.le_of_ble_eq_true rfl) hk rfl ?_
  refine V_iload C dL_law_1097 rfl ?_
  refine V_icmp_eq C 1104 dL_law_1099 (by decide) (by omega) (by omega) (fun _ => ?_) (fun z => absurd h7 z)
  refine V_iload C dL_law_1104 rfl ?_
  have fin : V X 1121 [some (.ref b), some (.ref a), some (.ref r), some (.ref o), some (.int (I32 i)), some (.int (I32 c)), some (.int (I32 v))] [] S n1 mu2 la2 (k + 1) (sl + 6) := by
    refine V_goto C 1932 dL_law_1121 (by decide) ?_
    exact V_fgt (r' := [some (.ref b), some (.ref a), some (.ref r), some (.ref o), some (.int (I32 i)), none, none]) (fun q9 h9 => by simp only [rOf, List.mem_cons, List.not_mem_nil, or_false] at h9 ⊢; rcases h9 with h | h | h | h | h <;> simp [h]) (kk n1)
  refine V_if_ne C 1121 dL_law_1106 (by decide) (by omega) (fun _ => fin) (fun z => ?_)
  refine V_aload_n C dL_law_1109 rfl ?_
  refine V_iconst C dL_law_1110 ?_
  refine V_lald C dL_law_1111 hO (by decide) (by decide) ?_
  refine V_iload C dL_law_1112 rfl ?_
  refine V_i2l C dL_law_1114 ?_
  refine V_lcmp C dL_law_1115 ?_
  rw [show la2 o (0 : Int).toNat = (I32 v).toInt64 from ho z, lg_cmp_xx]
  exact V_if_eq C 1121 dL_law_1116 (by decide) (by omega) (fun _ => fin) (fun z9 => absurd rfl z9)
set_option maxRecDepth 20000 in
theorem ggL_law_L_pane : GoodIn wsL_law wsL_pane := goodIn_ca (goodIn_ca (goodIn_ca (goodIn_s _ [(857, 1), (386, 1), (122, 1), (858, 3), (2, 1), (861, 1), (16, 1), (391, 4), (130, 12), (395, 3), (15, 1), (398, 1), (41, 1), (180, 2), (419, 3), (31, 1), (422, 1), (50, 1), (483, 1), (199, 3), (862, 4), (28, 1), (866, 1), (305, 2), (27, 1), (307, 1), (82, 1), (751, 1), (259, 3), (83, 1), (867, 4), (227, 2), (150, 1), (229, 1), (258, 1), (672, 1), (449, 3), (54, 1), (689, 1), (203, 3), (51, 1), (484, 1), (218, 3), (52, 1), (710, 1), (221, 2), (711, 1), (273, 3), (53, 1), (871, 4), (84, 1), (1349, 6), (1379, 7), (1408, 8), (1395, 13)] (by rfl) (by decide +kernel)) (goodIn_sub (fun _ h => List.mem_append_left _ (List.mem_append_left _ (List.mem_append_right _ h))) (by decide +kernel))) (goodIn_sub (fun _ h => List.mem_append_left _ (List.mem_append_right _ h)) (by decide +kernel))) (goodIn_sub (fun _ h => List.mem_append_right _ h) (by decide +kernel))
set_option maxRecDepth 20000 in
theorem gL_law_L_pane : GoodIn wsL_law (va_wsS RL 153 yL_pane wsL_pane) := goodIn_app (goodIn_of _ (by decide +kernel)) ggL_law_L_pane
set_option maxRecDepth 20000 in
theorem ggL_law_X9_pane : GoodIn wsL_law wsX9_pane := goodIn_s _ [(878, 1), (404, 3), (5, 1), (407, 1), (102, 1), (319, 8), (760, 9), (107, 1), (110, 6), (769, 4), (591, 4), (505, 4), (773, 4), (533, 8), (777, 4), (108, 2), (781, 4), (501, 4), (785, 12), (116, 1), (797, 4), (879, 4), (497, 4), (517, 8), (883, 12), (339, 4), (1355, 24)] (by rfl) (by decide +kernel)
set_option maxRecDepth 20000 in
theorem gL_law_X9_pane : GoodIn wsL_law (wsV RL 155 RX9 yX9_pane wsX9_pane) := goodIn_app (goodIn_of _ (by decide +kernel)) ggL_law_X9_pane
theorem dL_law_1124 : decode cL_law 1124 = .ok (.aload_n 1, 1) := by decide +kernel
theorem dL_law_1125 : decode cL_law 1125 = .ok (.aload_n 0, 1) := by decide +kernel
theorem dL_law_1126 : decode cL_law 1126 = .ok (.iload 4, 2) := by decide +kernel
theorem dL_law_1128 : decode cL_law 1128 = .ok (.iconst 1, 1) := by decide +kernel
theorem dL_law_1129 : decode cL_law 1129 = .ok (.iadd, 1) := by decide +kernel
theorem dL_law_1130 : decode cL_law 1130 = .ok (.iaload, 1) := by decide +kernel
theorem dL_law_1131 : decode cL_law 1131 = .ok (.aload_n 0, 1) := by decide +kernel
theorem dL_law_1132 : decode cL_law 1132 = .ok (.iload 4, 2) := by decide +kernel
theorem dL_law_1134 : decode cL_law 1134 = .ok (.iconst 2, 1) := by decide +kernel
theorem dL_law_1135 : decode cL_law 1135 = .ok (.iadd, 1) := by decide +kernel
theorem dL_law_1136 : decode cL_law 1136 = .ok (.iaload, 1) := by decide +kernel
theorem dL_law_1137 : decode cL_law 1137 = .ok (.aload_n 3, 1) := by decide +kernel
theorem dL_law_1138 : decode cL_law 1138 = .ok (.invokestatic 153, 3) := by decide +kernel
theorem dL_law_1141 : decode cL_law 1141 = .ok (.istore 5, 2) := by decide +kernel
theorem dL_law_1143 : decode cL_law 1143 = .ok (.aload_n 2, 1) := by decide +kernel
theorem dL_law_1144 : decode cL_law 1144 = .ok (.aload_n 0, 1) := by decide +kernel
theorem dL_law_1145 : decode cL_law 1145 = .ok (.iload 4, 2) := by decide +kernel
theorem dL_law_1147 : decode cL_law 1147 = .ok (.iconst 1, 1) := by decide +kernel
theorem dL_law_1148 : decode cL_law 1148 = .ok (.iadd, 1) := by decide +kernel
theorem dL_law_1149 : decode cL_law 1149 = .ok (.iaload, 1) := by decide +kernel
theorem dL_law_1150 : decode cL_law 1150 = .ok (.aload_n 0, 1) := by decide +kernel
theorem dL_law_1151 : decode cL_law 1151 = .ok (.iload 4, 2) := by decide +kernel
theorem dL_law_1153 : decode cL_law 1153 = .ok (.iconst 2, 1) := by decide +kernel
theorem dL_law_1154 : decode cL_law 1154 = .ok (.iadd, 1) := by decide +kernel
theorem dL_law_1155 : decode cL_law 1155 = .ok (.iaload, 1) := by decide +kernel
theorem dL_law_1156 : decode cL_law 1156 = .ok (.invokevirtual 155, 3) := by decide +kernel
theorem dL_law_1159 : decode cL_law 1159 = .ok (.istore 6, 2) := by decide +kernel
theorem dL_law_1161 : decode cL_law 1161 = .ok (.aload_n 2, 1) := by decide +kernel
theorem dL_law_1162 : decode cL_law 1162 = .ok (.invokevirtual 108, 3) := by decide +kernel
theorem dL_law_1165 : decode cL_law 1165 = .ok (.iload 5, 2) := by decide +kernel
theorem dL_law_1167 : decode cL_law 1167 = .ok (.if_icmp .eq 5, 3) := by decide +kernel
theorem dL_law_1172 : decode cL_law 1172 = .ok (.iload 5, 2) := by decide +kernel
theorem dL_law_1174 : decode cL_law 1174 = .ok (.ifCond .ne 15, 3) := by decide +kernel
theorem dL_law_1177 : decode cL_law 1177 = .ok (.aload_n 3, 1) := by decide +kernel
theorem dL_law_1178 : decode cL_law 1178 = .ok (.iconst 0, 1) := by decide +kernel
theorem dL_law_1179 : decode cL_law 1179 = .ok (.laload, 1) := by decide +kernel
theorem dL_law_1180 : decode cL_law 1180 = .ok (.iload 6, 2) := by decide +kernel
theorem dL_law_1182 : decode cL_law 1182 = .ok (.i2l, 1) := by decide +kernel
theorem dL_law_1183 : decode cL_law 1183 = .ok (.lcmp, 1) := by decide +kernel
theorem dL_law_1184 : decode cL_law 1184 = .ok (.ifCond .eq 5, 3) := by decide +kernel
theorem dL_law_1189 : decode cL_law 1189 = .ok (.goto 743, 3) := by decide +kernel
theorem C_pane (C : Ok X cL_law wsL_law RL (some .boolean) 12 7) (hX : va_X b N xs (xS X) (xS X).heap) (hb : b < (xS X).heap.size ∧ b < gZ (xG X)) (hN : N ≤ 3072) (hi : 0 ≤ i ∧ i + 6 ≤ N) (hO : hasS S o (.inl (1, 1))) (hM : MoS S r) {f9 : Nat} (hf9 : f9 ≤ 11)
    (hL : Ct (xG X) (xL X) yL_pane wsL_pane 9 1 6 [.ref a, .int (I32 (sc xs (i + 1))), .int (I32 (sc xs (i + 2))), .ref o] S n mu la (Lp S c mu1 la1)) (hR : ∀ n1, Ct (xG X) (xL X) yX9_pane wsX9_pane f9 0 0 [.ref r, .int (I32 (sc xs (i + 1))), .int (I32 (sc xs (i + 2)))] S n1 mu1 la1 (Dt (some (.int (I32 v))) S n1 mu2 la2)) (hc : 0 ≤ c ∧ c ≤ 3) (h7 : mu2 r 7 = c) (ho : c = 0 → la2 o 0 = (I32 v).toInt64) (hk : k + 1 ≤ (xR X).cells ∧ sl + 6 ≤ (xR X).slots)
    (kk : ∀ n1, V X 1932 [some (.ref b), some (.ref a), some (.ref r), some (.ref o), some (.int (I32 i)), none, none] [] S n1 mu2 la2 (k + 1) (sl + 6)) : V X 1124 [some (.ref b), some (.ref a), some (.ref r), some (.ref o), some (.int (I32 i)), none, none] [] S n mu la k sl := by
  refine V_aload_n C dL_law_1124 rfl ?_
  refine V_aload_n C dL_law_1125 rfl ?_
  refine V_iload C dL_law_1126 rfl ?_
  refine V_iconst C dL_law_1128 ?_
  refine V_iadd C dL_law_1129 ?_
  refine V_sald C hX hb hN (by omega) dL_law_1130 ?_
  refine V_aload_n C dL_law_1131 rfl ?_
  refine V_iload C dL_law_1132 rfl ?_
  refine V_iconst C dL_law_1134 ?_
  refine V_iadd C dL_law_1135 ?_
  refine V_sald C hX hb hN (by omega) dL_law_1136 ?_
  refine V_aload_n C dL_law_1137 rfl ?_
  refine V_callSH (nA := 4) C dL_law_1138 hL gL_law_L_pane rfl (by decide +kernel) rfl (by omega) (by decide) (Nat.le_of_ble_eq_true rfl) hk rfl ?_
  rintro _ S9 n1 mu9 la9 ⟨q0, q1, q2, q3⟩
  rw [q0, q1, q2, q3]
  refine V_istore C dL_law_1141 rfl (by decide) ?_
  refine V_aload_n C dL_law_1143 rfl ?_
  refine V_aload_n C dL_law_1144 rfl ?_
  refine V_iload C dL_law_1145 rfl ?_
  refine V_iconst C dL_law_1147 ?_
  refine V_iadd C dL_law_1148 ?_
  refine V_sald C hX hb hN (by omega) dL_law_1149 ?_
  refine V_aload_n C dL_law_1150 rfl ?_
  refine V_iload C dL_law_1151 rfl ?_
  refine V_iconst C dL_law_1153 ?_
  refine V_iadd C dL_law_1154 ?_
  refine V_sald C hX hb hN (by omega) dL_law_1155 ?_
  refine V_callVD (nA := 2) C dL_law_1156 (hR n1) gL_law_X9_pane rfl hM.1 rfl (by decide +kernel) rfl (by omega) (by decide) (Nat.le_of_ble_eq_true rfl) hk rfl ?_
  refine V_istore C dL_law_1159 rfl (by decide) ?_
  refine V_aload_n C dL_law_1161 rfl ?_
  refine V_callVD (nA := 0) C dL_law_1162 (m_thrown C.gp hM) gL_law_X9_thrown rfl hM.1 rfl (by decide +kernel) rfl (by omega) (by decide) (Nat.le_of_ble_eq_true rfl) hk rfl ?_
  refine V_iload C dL_law_1165 rfl ?_
  refine V_icmp_eq C 1172 dL_law_1167 (by decide) (by omega) (by omega) (fun _ => ?_) (fun z => absurd h7 z)
  refine V_iload C dL_law_1172 rfl ?_
  have fin : V X 1189 [some (.ref b), some (.ref a), some (.ref r), some (.ref o), some (.int (I32 i)), some (.int (I32 c)), some (.int (I32 v))] [] S n1 mu2 la2 (k + 1) (sl + 6) := by
    refine V_goto C 1932 dL_law_1189 (by decide) ?_
    exact V_fgt (r' := [some (.ref b), some (.ref a), some (.ref r), some (.ref o), some (.int (I32 i)), none, none]) (fun q9 h9 => by simp only [rOf, List.mem_cons, List.not_mem_nil, or_false] at h9 ⊢; rcases h9 with h | h | h | h | h <;> simp [h]) (kk n1)
  refine V_if_ne C 1189 dL_law_1174 (by decide) (by omega) (fun _ => fin) (fun z => ?_)
  refine V_aload_n C dL_law_1177 rfl ?_
  refine V_iconst C dL_law_1178 ?_
  refine V_lald C dL_law_1179 hO (by decide) (by decide) ?_
  refine V_iload C dL_law_1180 rfl ?_
  refine V_i2l C dL_law_1182 ?_
  refine V_lcmp C dL_law_1183 ?_
  rw [show la2 o (0 : Int).toNat = (I32 v).toInt64 from ho z, lg_cmp_xx]
  exact V_if_eq C 1189 dL_law_1184 (by decide) (by omega) (fun _ => fin) (fun z9 => absurd rfl z9)
set_option maxRecDepth 20000 in
theorem ggL_law_L_split : GoodIn wsL_law wsL_split := goodIn_ca (goodIn_ca (goodIn_ca (goodIn_s _ [(897, 1), (386, 1), (122, 1), (898, 3), (2, 1), (901, 1), (16, 1), (391, 4), (902, 3), (130, 12), (483, 1), (199, 2), (31, 1), (201, 1), (50, 1), (180, 2), (710, 1), (221, 2), (905, 4), (28, 1), (741, 1), (231, 3), (55, 1), (484, 1), (218, 3), (52, 1), (689, 1), (203, 3), (51, 1), (909, 1), (269, 2), (27, 1), (271, 1), (81, 1), (751, 1), (259, 3), (83, 1), (736, 4), (85, 1), (1349, 6), (1379, 7), (1408, 8), (1395, 13)] (by rfl) (by decide +kernel)) (goodIn_sub (fun _ h => List.mem_append_left _ (List.mem_append_left _ (List.mem_append_right _ h))) (by decide +kernel))) (goodIn_sub (fun _ h => List.mem_append_left _ (List.mem_append_right _ h)) (by decide +kernel))) (goodIn_sub (fun _ h => List.mem_append_right _ h) (by decide +kernel))
set_option maxRecDepth 20000 in
theorem gL_law_L_split : GoodIn wsL_law (va_wsS RL 156 yL_split wsL_split) := goodIn_app (goodIn_of _ (by decide +kernel)) ggL_law_L_split
set_option maxRecDepth 20000 in
theorem ggL_law_X9_split : GoodIn wsL_law wsX9_split := goodIn_s _ [(913, 1), (404, 3), (5, 1), (407, 1), (102, 1), (319, 8), (760, 9), (107, 1), (110, 6), (769, 4), (591, 4), (505, 4), (773, 4), (533, 8), (777, 4), (108, 2), (781, 4), (501, 4), (785, 12), (116, 1), (797, 4), (914, 8), (497, 4), (339, 4), (1355, 24)] (by rfl) (by decide +kernel)
set_option maxRecDepth 20000 in
theorem gL_law_X9_split : GoodIn wsL_law (wsV RL 158 RX9 yX9_split wsX9_split) := goodIn_app (goodIn_of _ (by decide +kernel)) ggL_law_X9_split
theorem dL_law_1192 : decode cL_law 1192 = .ok (.aload_n 1, 1) := by decide +kernel
theorem dL_law_1193 : decode cL_law 1193 = .ok (.aload_n 0, 1) := by decide +kernel
theorem dL_law_1194 : decode cL_law 1194 = .ok (.iload 4, 2) := by decide +kernel
theorem dL_law_1196 : decode cL_law 1196 = .ok (.iconst 1, 1) := by decide +kernel
theorem dL_law_1197 : decode cL_law 1197 = .ok (.iadd, 1) := by decide +kernel
theorem dL_law_1198 : decode cL_law 1198 = .ok (.iaload, 1) := by decide +kernel
theorem dL_law_1199 : decode cL_law 1199 = .ok (.aload_n 0, 1) := by decide +kernel
theorem dL_law_1200 : decode cL_law 1200 = .ok (.iload 4, 2) := by decide +kernel
theorem dL_law_1202 : decode cL_law 1202 = .ok (.iconst 2, 1) := by decide +kernel
theorem dL_law_1203 : decode cL_law 1203 = .ok (.iadd, 1) := by decide +kernel
theorem dL_law_1204 : decode cL_law 1204 = .ok (.iaload, 1) := by decide +kernel
theorem dL_law_1205 : decode cL_law 1205 = .ok (.aload_n 0, 1) := by decide +kernel
theorem dL_law_1206 : decode cL_law 1206 = .ok (.iload 4, 2) := by decide +kernel
theorem dL_law_1208 : decode cL_law 1208 = .ok (.iconst 3, 1) := by decide +kernel
theorem dL_law_1209 : decode cL_law 1209 = .ok (.iadd, 1) := by decide +kernel
theorem dL_law_1210 : decode cL_law 1210 = .ok (.iaload, 1) := by decide +kernel
theorem dL_law_1211 : decode cL_law 1211 = .ok (.aload_n 3, 1) := by decide +kernel
theorem dL_law_1212 : decode cL_law 1212 = .ok (.invokestatic 156, 3) := by decide +kernel
theorem dL_law_1215 : decode cL_law 1215 = .ok (.istore 5, 2) := by decide +kernel
theorem dL_law_1217 : decode cL_law 1217 = .ok (.aload_n 2, 1) := by decide +kernel
theorem dL_law_1218 : decode cL_law 1218 = .ok (.aload_n 0, 1) := by decide +kernel
theorem dL_law_1219 : decode cL_law 1219 = .ok (.iload 4, 2) := by decide +kernel
theorem dL_law_1221 : decode cL_law 1221 = .ok (.iconst 1, 1) := by decide +kernel
theorem dL_law_1222 : decode cL_law 1222 = .ok (.iadd, 1) := by decide +kernel
theorem dL_law_1223 : decode cL_law 1223 = .ok (.iaload, 1) := by decide +kernel
theorem dL_law_1224 : decode cL_law 1224 = .ok (.aload_n 0, 1) := by decide +kernel
theorem dL_law_1225 : decode cL_law 1225 = .ok (.iload 4, 2) := by decide +kernel
theorem dL_law_1227 : decode cL_law 1227 = .ok (.iconst 2, 1) := by decide +kernel
theorem dL_law_1228 : decode cL_law 1228 = .ok (.iadd, 1) := by decide +kernel
theorem dL_law_1229 : decode cL_law 1229 = .ok (.iaload, 1) := by decide +kernel
theorem dL_law_1230 : decode cL_law 1230 = .ok (.aload_n 0, 1) := by decide +kernel
theorem dL_law_1231 : decode cL_law 1231 = .ok (.iload 4, 2) := by decide +kernel
theorem dL_law_1233 : decode cL_law 1233 = .ok (.iconst 3, 1) := by decide +kernel
theorem dL_law_1234 : decode cL_law 1234 = .ok (.iadd, 1) := by decide +kernel
theorem dL_law_1235 : decode cL_law 1235 = .ok (.iaload, 1) := by decide +kernel
theorem dL_law_1236 : decode cL_law 1236 = .ok (.invokevirtual 158, 3) := by decide +kernel
theorem dL_law_1239 : decode cL_law 1239 = .ok (.istore 6, 2) := by decide +kernel
theorem dL_law_1241 : decode cL_law 1241 = .ok (.aload_n 2, 1) := by decide +kernel
theorem dL_law_1242 : decode cL_law 1242 = .ok (.invokevirtual 108, 3) := by decide +kernel
theorem dL_law_1245 : decode cL_law 1245 = .ok (.iload 5, 2) := by decide +kernel
theorem dL_law_1247 : decode cL_law 1247 = .ok (.if_icmp .eq 5, 3) := by decide +kernel
theorem dL_law_1252 : decode cL_law 1252 = .ok (.iload 5, 2) := by decide +kernel
theorem dL_law_1254 : decode cL_law 1254 = .ok (.ifCond .ne 15, 3) := by decide +kernel
theorem dL_law_1257 : decode cL_law 1257 = .ok (.aload_n 3, 1) := by decide +kernel
theorem dL_law_1258 : decode cL_law 1258 = .ok (.iconst 0, 1) := by decide +kernel
theorem dL_law_1259 : decode cL_law 1259 = .ok (.laload, 1) := by decide +kernel
theorem dL_law_1260 : decode cL_law 1260 = .ok (.iload 6, 2) := by decide +kernel
theorem dL_law_1262 : decode cL_law 1262 = .ok (.i2l, 1) := by decide +kernel
theorem dL_law_1263 : decode cL_law 1263 = .ok (.lcmp, 1) := by decide +kernel
theorem dL_law_1264 : decode cL_law 1264 = .ok (.ifCond .eq 5, 3) := by decide +kernel
theorem dL_law_1269 : decode cL_law 1269 = .ok (.goto 663, 3) := by decide +kernel
theorem C_split (C : Ok X cL_law wsL_law RL (some .boolean) 12 7) (hX : va_X b N xs (xS X) (xS X).heap) (hb : b < (xS X).heap.size ∧ b < gZ (xG X)) (hN : N ≤ 3072) (hi : 0 ≤ i ∧ i + 6 ≤ N) (hO : hasS S o (.inl (1, 1))) (hM : MoS S r) {f9 : Nat} (hf9 : f9 ≤ 11)
    (hL : Ct (xG X) (xL X) yL_split wsL_split 9 1 6 [.ref a, .int (I32 (sc xs (i + 1))), .int (I32 (sc xs (i + 2))), .int (I32 (sc xs (i + 3))), .ref o] S n mu la (Lp S c mu1 la1)) (hR : ∀ n1, Ct (xG X) (xL X) yX9_split wsX9_split f9 0 0 [.ref r, .int (I32 (sc xs (i + 1))), .int (I32 (sc xs (i + 2))), .int (I32 (sc xs (i + 3)))] S n1 mu1 la1 (Dt (some (.int (I32 v))) S n1 mu2 la2)) (hc : 0 ≤ c ∧ c ≤ 3) (h7 : mu2 r 7 = c) (ho : c = 0 → la2 o 0 = (I32 v).toInt64) (hk : k + 1 ≤ (xR X).cells ∧ sl + 6 ≤ (xR X).slots)
    (kk : ∀ n1, V X 1932 [some (.ref b), some (.ref a), some (.ref r), some (.ref o), some (.int (I32 i)), none, none] [] S n1 mu2 la2 (k + 1) (sl + 6)) : V X 1192 [some (.ref b), some (.ref a), some (.ref r), some (.ref o), some (.int (I32 i)), none, none] [] S n mu la k sl := by
  refine V_aload_n C dL_law_1192 rfl ?_
  refine V_aload_n C dL_law_1193 rfl ?_
  refine V_iload C dL_law_1194 rfl ?_
  refine V_iconst C dL_law_1196 ?_
  refine V_iadd C dL_law_1197 ?_
  refine V_sald C hX hb hN (by omega) dL_law_1198 ?_
  refine V_aload_n C dL_law_1199 rfl ?_
  refine V_iload C dL_law_1200 rfl ?_
  refine V_iconst C dL_law_1202 ?_
  refine V_iadd C dL_law_1203 ?_
  refine V_sald C hX hb hN (by omega) dL_law_1204 ?_
  refine V_aload_n C dL_law_1205 rfl ?_
  refine V_iload C dL_law_1206 rfl ?_
  refine V_iconst C dL_law_1208 ?_
  refine V_iadd C dL_law_1209 ?_
  refine V_sald C hX hb hN (by omega) dL_law_1210 ?_
  refine V_aload_n C dL_law_1211 rfl ?_
  refine V_callSH (nA := 5) C dL_law_1212 hL gL_law_L_split rfl (by decide +kernel) rfl (by omega) (by decide) (Nat.le_of_ble_eq_true rfl) hk rfl ?_
  rintro _ S9 n1 mu9 la9 ⟨q0, q1, q2, q3⟩
  rw [q0, q1, q2, q3]
  refine V_istore C dL_law_1215 rfl (by decide) ?_
  refine V_aload_n C dL_law_1217 rfl ?_
  refine V_aload_n C dL_law_1218 rfl ?_
  refine V_iload C dL_law_1219 rfl ?_
  refine V_iconst C dL_law_1221 ?_
  refine V_iadd C dL_law_1222 ?_
  refine V_sald C hX hb hN (by omega) dL_law_1223 ?_
  refine V_aload_n C dL_law_1224 rfl ?_
  refine V_iload C dL_law_1225 rfl ?_
  refine V_iconst C dL_law_1227 ?_
  refine V_iadd C dL_law_1228 ?_
  refine V_sald C hX hb hN (by omega) dL_law_1229 ?_
  refine V_aload_n C dL_law_1230 rfl ?_
  refine V_iload C dL_law_1231 rfl ?_
  refine V_iconst C dL_law_1233 ?_
  refine V_iadd C dL_law_1234 ?_
  refine V_sald C hX hb hN (by omega) dL_law_1235 ?_
  refine V_callVD (nA := 3) C dL_law_1236 (hR n1) gL_law_X9_split rfl hM.1 rfl (by decide +kernel) rfl (by omega) (by decide) (Nat.le_of_ble_eq_true rfl) hk rfl ?_
  refine V_istore C dL_law_1239 rfl (by decide) ?_
  refine V_aload_n C dL_law_1241 rfl ?_
  refine V_callVD (nA := 0) C dL_law_1242 (m_thrown C.gp hM) gL_law_X9_thrown rfl hM.1 rfl (by decide +kernel) rfl (by omega) (by decide) (Nat.le_of_ble_eq_true rfl) hk rfl ?_
  refine V_iload C dL_law_1245 rfl ?_
  refine V_icmp_eq C 1252 dL_law_1247 (by decide) (by omega) (by omega) (fun _ => ?_) (fun z => absurd h7 z)
  refine V_iload C dL_law_1252 rfl ?_
  have fin : V X 1269 [some (.ref b), some (.ref a), some (.ref r), some (.ref o), some (.int (I32 i)), some (.int (I32 c)), some (.int (I32 v))] [] S n1 mu2 la2 (k + 1) (sl + 6) := by
    refine V_goto C 1932 dL_law_1269 (by decide) ?_
    exact V_fgt (r' := [some (.ref b), some (.ref a), some (.ref r), some (.ref o), some (.int (I32 i)), none, none]) (fun q9 h9 => by simp only [rOf, List.mem_cons, List.not_mem_nil, or_false] at h9 ⊢; rcases h9 with h | h | h | h | h <;> simp [h]) (kk n1)
  refine V_if_ne C 1269 dL_law_1254 (by decide) (by omega) (fun _ => fin) (fun z => ?_)
  refine V_aload_n C dL_law_1257 rfl ?_
  refine V_iconst C dL_law_1258 ?_
  refine V_lald C dL_law_1259 hO (by decide) (by decide) ?_
  refine V_iload C dL_law_1260 rfl ?_
  refine V_i2l C dL_law_1262 ?_
  refine V_lcmp C dL_law_1263 ?_
  rw [show la2 o (0 : Int).toNat = (I32 v).toInt64 from ho z, lg_cmp_xx]
  exact V_if_eq C 1269 dL_law_1264 (by decide) (by omega) (fun _ => fin) (fun z9 => absurd rfl z9)
set_option maxRecDepth 20000 in
theorem ggL_law_L_paneAt : GoodIn wsL_law wsL_paneAt := goodIn_ca (goodIn_ca (goodIn_ca (goodIn_s _ [(924, 1), (386, 1), (925, 3), (2, 1), (928, 1), (16, 1), (28, 1), (133, 9), (484, 1), (218, 2), (31, 1), (220, 1), (52, 1), (180, 2), (750, 1), (214, 2), (27, 1), (216, 1), (78, 1), (929, 4), (304, 4), (82, 1), (258, 4), (83, 1), (672, 1), (449, 3), (54, 1), (933, 4), (190, 1), (79, 1), (221, 2), (937, 1), (1349, 6), (1379, 7), (1408, 8), (1395, 13)] (by rfl) (by decide +kernel)) (goodIn_sub (fun _ h => List.mem_append_left _ (List.mem_append_left _ (List.mem_append_right _ h))) (by decide +kernel))) (goodIn_sub (fun _ h => List.mem_append_left _ (List.mem_append_right _ h)) (by decide +kernel))) (goodIn_sub (fun _ h => List.mem_append_right _ h) (by decide +kernel))
set_option maxRecDepth 20000 in
theorem gL_law_L_paneAt : GoodIn wsL_law (va_wsS RL 159 yL_paneAt wsL_paneAt) := goodIn_app (goodIn_of _ (by decide +kernel)) ggL_law_L_paneAt
set_option maxRecDepth 20000 in
theorem ggL_law_X9_paneAt : GoodIn wsL_law wsX9_paneAt := goodIn_s _ [(941, 1), (102, 1), (319, 2), (5, 1), (321, 6), (760, 9), (107, 1), (110, 6), (769, 4), (591, 4), (505, 4), (773, 4), (533, 8), (777, 4), (108, 2), (781, 4), (501, 4), (785, 12), (116, 1), (797, 4), (942, 4), (339, 4), (1355, 24)] (by rfl) (by decide +kernel)
set_option maxRecDepth 20000 in
theorem gL_law_X9_paneAt : GoodIn wsL_law (wsV RL 161 RX9 yX9_paneAt wsX9_paneAt) := goodIn_app (goodIn_of _ (by decide +kernel)) ggL_law_X9_paneAt
theorem dL_law_1272 : decode cL_law 1272 = .ok (.aload_n 1, 1) := by decide +kernel
theorem dL_law_1273 : decode cL_law 1273 = .ok (.aload_n 0, 1) := by decide +kernel
theorem dL_law_1274 : decode cL_law 1274 = .ok (.iload 4, 2) := by decide +kernel
theorem dL_law_1276 : decode cL_law 1276 = .ok (.iconst 1, 1) := by decide +kernel
theorem dL_law_1277 : decode cL_law 1277 = .ok (.iadd, 1) := by decide +kernel
theorem dL_law_1278 : decode cL_law 1278 = .ok (.iaload, 1) := by decide +kernel
theorem dL_law_1279 : decode cL_law 1279 = .ok (.aload_n 0, 1) := by decide +kernel
theorem dL_law_1280 : decode cL_law 1280 = .ok (.iload 4, 2) := by decide +kernel
theorem dL_law_1282 : decode cL_law 1282 = .ok (.iconst 2, 1) := by decide +kernel
theorem dL_law_1283 : decode cL_law 1283 = .ok (.iadd, 1) := by decide +kernel
theorem dL_law_1284 : decode cL_law 1284 = .ok (.iaload, 1) := by decide +kernel
theorem dL_law_1285 : decode cL_law 1285 = .ok (.aload_n 3, 1) := by decide +kernel
theorem dL_law_1286 : decode cL_law 1286 = .ok (.invokestatic 159, 3) := by decide +kernel
theorem dL_law_1289 : decode cL_law 1289 = .ok (.istore 5, 2) := by decide +kernel
theorem dL_law_1291 : decode cL_law 1291 = .ok (.aload_n 2, 1) := by decide +kernel
theorem dL_law_1292 : decode cL_law 1292 = .ok (.aload_n 0, 1) := by decide +kernel
theorem dL_law_1293 : decode cL_law 1293 = .ok (.iload 4, 2) := by decide +kernel
theorem dL_law_1295 : decode cL_law 1295 = .ok (.iconst 1, 1) := by decide +kernel
theorem dL_law_1296 : decode cL_law 1296 = .ok (.iadd, 1) := by decide +kernel
theorem dL_law_1297 : decode cL_law 1297 = .ok (.iaload, 1) := by decide +kernel
theorem dL_law_1298 : decode cL_law 1298 = .ok (.aload_n 0, 1) := by decide +kernel
theorem dL_law_1299 : decode cL_law 1299 = .ok (.iload 4, 2) := by decide +kernel
theorem dL_law_1301 : decode cL_law 1301 = .ok (.iconst 2, 1) := by decide +kernel
theorem dL_law_1302 : decode cL_law 1302 = .ok (.iadd, 1) := by decide +kernel
theorem dL_law_1303 : decode cL_law 1303 = .ok (.iaload, 1) := by decide +kernel
theorem dL_law_1304 : decode cL_law 1304 = .ok (.invokevirtual 161, 3) := by decide +kernel
theorem dL_law_1307 : decode cL_law 1307 = .ok (.istore 6, 2) := by decide +kernel
theorem dL_law_1309 : decode cL_law 1309 = .ok (.aload_n 2, 1) := by decide +kernel
theorem dL_law_1310 : decode cL_law 1310 = .ok (.invokevirtual 108, 3) := by decide +kernel
theorem dL_law_1313 : decode cL_law 1313 = .ok (.iload 5, 2) := by decide +kernel
theorem dL_law_1315 : decode cL_law 1315 = .ok (.if_icmp .eq 5, 3) := by decide +kernel
theorem dL_law_1320 : decode cL_law 1320 = .ok (.iload 5, 2) := by decide +kernel
theorem dL_law_1322 : decode cL_law 1322 = .ok (.ifCond .ne 15, 3) := by decide +kernel
theorem dL_law_1325 : decode cL_law 1325 = .ok (.aload_n 3, 1) := by decide +kernel
theorem dL_law_1326 : decode cL_law 1326 = .ok (.iconst 0, 1) := by decide +kernel
theorem dL_law_1327 : decode cL_law 1327 = .ok (.laload, 1) := by decide +kernel
theorem dL_law_1328 : decode cL_law 1328 = .ok (.iload 6, 2) := by decide +kernel
theorem dL_law_1330 : decode cL_law 1330 = .ok (.i2l, 1) := by decide +kernel
theorem dL_law_1331 : decode cL_law 1331 = .ok (.lcmp, 1) := by decide +kernel
theorem dL_law_1332 : decode cL_law 1332 = .ok (.ifCond .eq 5, 3) := by decide +kernel
theorem dL_law_1337 : decode cL_law 1337 = .ok (.goto 595, 3) := by decide +kernel
theorem C_paneAt (C : Ok X cL_law wsL_law RL (some .boolean) 12 7) (hX : va_X b N xs (xS X) (xS X).heap) (hb : b < (xS X).heap.size ∧ b < gZ (xG X)) (hN : N ≤ 3072) (hi : 0 ≤ i ∧ i + 6 ≤ N) (hO : hasS S o (.inl (1, 1))) (hM : MoS S r) {f9 : Nat} (hf9 : f9 ≤ 11)
    (hL : Ct (xG X) (xL X) yL_paneAt wsL_paneAt 9 1 6 [.ref a, .int (I32 (sc xs (i + 1))), .int (I32 (sc xs (i + 2))), .ref o] S n mu la (Lp S c mu1 la1)) (hR : ∀ n1, Ct (xG X) (xL X) yX9_paneAt wsX9_paneAt f9 0 0 [.ref r, .int (I32 (sc xs (i + 1))), .int (I32 (sc xs (i + 2)))] S n1 mu1 la1 (Dt (some (.int (I32 v))) S n1 mu2 la2)) (hc : 0 ≤ c ∧ c ≤ 3) (h7 : mu2 r 7 = c) (ho : c = 0 → la2 o 0 = (I32 v).toInt64) (hk : k + 1 ≤ (xR X).cells ∧ sl + 6 ≤ (xR X).slots)
    (kk : ∀ n1, V X 1932 [some (.ref b), some (.ref a), some (.ref r), some (.ref o), some (.int (I32 i)), none, none] [] S n1 mu2 la2 (k + 1) (sl + 6)) : V X 1272 [some (.ref b), some (.ref a), some (.ref r), some (.ref o), some (.int (I32 i)), none, none] [] S n mu la k sl := by
  refine V_aload_n C dL_law_1272 rfl ?_
  refine V_aload_n C dL_law_1273 rfl ?_
  refine V_iload C dL_law_1274 rfl ?_
  refine V_iconst C dL_law_1276 ?_
  refine V_iadd C dL_law_1277 ?_
  refine V_sald C hX hb hN (by omega) dL_law_1278 ?_
  refine V_aload_n C dL_law_1279 rfl ?_
  refine V_iload C dL_law_1280 rfl ?_
  refine V_iconst C dL_law_1282 ?_
  refine V_iadd C dL_law_1283 ?_
  refine V_sald C hX hb hN (by omega) dL_law_1284 ?_
  refine V_aload_n C dL_law_1285 rfl ?_
  refine V_callSH (nA := 4) C dL_law_1286 hL gL_law_L_paneAt rfl (by decide +kernel) rfl (by omega) (by decide) (Nat.le_of_ble_eq_true rfl) hk rfl ?_
  rintro _ S9 n1 mu9 la9 ⟨q0, q1, q2, q3⟩
  rw [q0, q1, q2, q3]
  refine V_istore C dL_law_1289 rfl (by decide) ?_
  refine V_aload_n C dL_law_1291 rfl ?_
  refine V_aload_n C dL_law_1292 rfl ?_
  refine V_iload C dL_law_1293 rfl ?_
  refine V_iconst C dL_law_1295 ?_
  refine V_iadd C dL_law_1296 ?_
  refine V_sald C hX hb hN (by omega) dL_law_1297 ?_
  refine V_aload_n C dL_law_1298 rfl ?_
  refine V_iload C dL_law_1299 rfl ?_
  refine V_iconst C dL_law_1301 ?_
  refine V_iadd C dL_law_1302 ?_
  refine V_sald C hX hb hN (by omega) dL_law_1303 ?_
  refine V_callVD (nA := 2) C dL_law_1304 (hR n1) gL_law_X9_paneAt rfl hM.1 rfl (by decide +kernel) rfl (by omega) (by decide) (Nat.le_of_ble_eq_true rfl) hk rfl ?_
  refine V_istore C dL_law_1307 rfl (by decide) ?_
  refine V_aload_n C dL_law_1309 rfl ?_
  refine V_callVD (nA := 0) C dL_law_1310 (m_thrown C.gp hM) gL_law_X9_thrown rfl hM.1 rfl (by decide +kernel) rfl (by omega) (by decide) (Nat.le_of_ble_eq_true rfl) hk rfl ?_
  refine V_iload C dL_law_1313 rfl ?_
  refine V_icmp_eq C 1320 dL_law_1315 (by decide) (by omega) (by omega) (fun _ => ?_) (fun z => absurd h7 z)
  refine V_iload C dL_law_1320 rfl ?_
  have fin : V X 1337 [some (.ref b), some (.ref a), some (.ref r), some (.ref o), some (.int (I32 i)), some (.int (I32 c)), some (.int (I32 v))] [] S n1 mu2 la2 (k + 1) (sl + 6) := by
    refine V_goto C 1932 dL_law_1337 (by decide) ?_
    exact V_fgt (r' := [some (.ref b), some (.ref a), some (.ref r), some (.ref o), some (.int (I32 i)), none, none]) (fun q9 h9 => by simp only [rOf, List.mem_cons, List.not_mem_nil, or_false] at h9 ⊢; rcases h9 with h | h | h | h | h <;> simp [h]) (kk n1)
  refine V_if_ne C 1337 dL_law_1322 (by decide) (by omega) (fun _ => fin) (fun z => ?_)
  refine V_aload_n C dL_law_1325 rfl ?_
  refine V_iconst C dL_law_1326 ?_
  refine V_lald C dL_law_1327 hO (by decide) (by decide) ?_
  refine V_iload C dL_law_1328 rfl ?_
  refine V_i2l C dL_law_1330 ?_
  refine V_lcmp C dL_law_1331 ?_
  rw [show la2 o (0 : Int).toNat = (I32 v).toInt64 from ho z, lg_cmp_xx]
  exact V_if_eq C 1337 dL_law_1332 (by decide) (by omega) (fun _ => fin) (fun z9 => absurd rfl z9)
set_option maxRecDepth 20000 in
theorem ggL_law_L_tab : GoodIn wsL_law wsL_tab := goodIn_ca (goodIn_ca (goodIn_ca (goodIn_r _ [948, 386, 122, 949, 950, 951, 2, 952, 16, 391, 392, 393, 394, 953, 954, 955, 133, 134, 135, 136, 137, 138, 139, 140, 141, 483, 199, 200, 31, 201, 50, 180, 181, 740, 441, 442, 443, 51, 1349, 1350, 1351, 1352, 1353, 1354, 1379, 1380, 1381, 1382, 1383, 1384, 1385, 1408, 1409, 1410, 1411, 1412, 1413, 1414, 1415] (by decide +kernel) (by decide +kernel)) (goodIn_sub (fun _ h => List.mem_append_left _ (List.mem_append_left _ (List.mem_append_right _ h))) (by decide +kernel))) (goodIn_sub (fun _ h => List.mem_append_left _ (List.mem_append_right _ h)) (by decide +kernel))) (goodIn_sub (fun _ h => List.mem_append_right _ h) (by decide +kernel))
set_option maxRecDepth 20000 in
theorem gL_law_L_tab : GoodIn wsL_law (va_wsS RL 162 yL_tab wsL_tab) := goodIn_app (goodIn_of _ (by decide +kernel)) ggL_law_L_tab
set_option maxRecDepth 20000 in
theorem ggL_law_X9_tab : GoodIn wsL_law wsX9_tab := goodIn_r _ [959, 404, 405, 406, 5, 407, 102, 319, 320, 321, 322, 323, 324, 325, 326, 960, 961, 962, 963, 501, 502, 503, 504, 541, 542, 543, 544, 517, 518, 519, 520, 339, 340, 341, 342, 1355, 1356, 1357, 1358, 1359, 1360, 1361, 1362, 1363, 1364, 1365, 1366, 1367, 1368, 1369, 1370, 1371, 1372, 1373, 1374, 1375, 1376, 1377, 1378] (by decide +kernel) (by decide +kernel)
set_option maxRecDepth 20000 in
theorem gL_law_X9_tab : GoodIn wsL_law (wsV RL 164 RX9 yX9_tab wsX9_tab) := goodIn_app (goodIn_of _ (by decide +kernel)) ggL_law_X9_tab
theorem dL_law_1340 : decode cL_law 1340 = .ok (.aload_n 1, 1) := by decide +kernel
theorem dL_law_1341 : decode cL_law 1341 = .ok (.aload_n 0, 1) := by decide +kernel
theorem dL_law_1342 : decode cL_law 1342 = .ok (.iload 4, 2) := by decide +kernel
theorem dL_law_1344 : decode cL_law 1344 = .ok (.iconst 1, 1) := by decide +kernel
theorem dL_law_1345 : decode cL_law 1345 = .ok (.iadd, 1) := by decide +kernel
theorem dL_law_1346 : decode cL_law 1346 = .ok (.iaload, 1) := by decide +kernel
theorem dL_law_1347 : decode cL_law 1347 = .ok (.aload_n 0, 1) := by decide +kernel
theorem dL_law_1348 : decode cL_law 1348 = .ok (.iload 4, 2) := by decide +kernel
theorem dL_law_1350 : decode cL_law 1350 = .ok (.iconst 2, 1) := by decide +kernel
theorem dL_law_1351 : decode cL_law 1351 = .ok (.iadd, 1) := by decide +kernel
theorem dL_law_1352 : decode cL_law 1352 = .ok (.iaload, 1) := by decide +kernel
theorem dL_law_1353 : decode cL_law 1353 = .ok (.aload_n 3, 1) := by decide +kernel
theorem dL_law_1354 : decode cL_law 1354 = .ok (.invokestatic 162, 3) := by decide +kernel
theorem dL_law_1357 : decode cL_law 1357 = .ok (.istore 5, 2) := by decide +kernel
theorem dL_law_1359 : decode cL_law 1359 = .ok (.aload_n 2, 1) := by decide +kernel
theorem dL_law_1360 : decode cL_law 1360 = .ok (.aload_n 0, 1) := by decide +kernel
theorem dL_law_1361 : decode cL_law 1361 = .ok (.iload 4, 2) := by decide +kernel
theorem dL_law_1363 : decode cL_law 1363 = .ok (.iconst 1, 1) := by decide +kernel
theorem dL_law_1364 : decode cL_law 1364 = .ok (.iadd, 1) := by decide +kernel
theorem dL_law_1365 : decode cL_law 1365 = .ok (.iaload, 1) := by decide +kernel
theorem dL_law_1366 : decode cL_law 1366 = .ok (.aload_n 0, 1) := by decide +kernel
theorem dL_law_1367 : decode cL_law 1367 = .ok (.iload 4, 2) := by decide +kernel
theorem dL_law_1369 : decode cL_law 1369 = .ok (.iconst 2, 1) := by decide +kernel
theorem dL_law_1370 : decode cL_law 1370 = .ok (.iadd, 1) := by decide +kernel
theorem dL_law_1371 : decode cL_law 1371 = .ok (.iaload, 1) := by decide +kernel
theorem dL_law_1372 : decode cL_law 1372 = .ok (.invokevirtual 164, 3) := by decide +kernel
theorem dL_law_1375 : decode cL_law 1375 = .ok (.istore 6, 2) := by decide +kernel
theorem dL_law_1377 : decode cL_law 1377 = .ok (.aload_n 2, 1) := by decide +kernel
theorem dL_law_1378 : decode cL_law 1378 = .ok (.invokevirtual 108, 3) := by decide +kernel
theorem dL_law_1381 : decode cL_law 1381 = .ok (.iload 5, 2) := by decide +kernel
theorem dL_law_1383 : decode cL_law 1383 = .ok (.if_icmp .eq 5, 3) := by decide +kernel
theorem dL_law_1388 : decode cL_law 1388 = .ok (.iload 5, 2) := by decide +kernel
theorem dL_law_1390 : decode cL_law 1390 = .ok (.ifCond .ne 15, 3) := by decide +kernel
theorem dL_law_1393 : decode cL_law 1393 = .ok (.aload_n 3, 1) := by decide +kernel
theorem dL_law_1394 : decode cL_law 1394 = .ok (.iconst 0, 1) := by decide +kernel
theorem dL_law_1395 : decode cL_law 1395 = .ok (.laload, 1) := by decide +kernel
theorem dL_law_1396 : decode cL_law 1396 = .ok (.iload 6, 2) := by decide +kernel
theorem dL_law_1398 : decode cL_law 1398 = .ok (.i2l, 1) := by decide +kernel
theorem dL_law_1399 : decode cL_law 1399 = .ok (.lcmp, 1) := by decide +kernel
theorem dL_law_1400 : decode cL_law 1400 = .ok (.ifCond .eq 5, 3) := by decide +kernel
theorem dL_law_1405 : decode cL_law 1405 = .ok (.goto 527, 3) := by decide +kernel
theorem C_tab (C : Ok X cL_law wsL_law RL (some .boolean) 12 7) (hX : va_X b N xs (xS X) (xS X).heap) (hb : b < (xS X).heap.size ∧ b < gZ (xG X)) (hN : N ≤ 3072) (hi : 0 ≤ i ∧ i + 6 ≤ N) (hO : hasS S o (.inl (1, 1))) (hM : MoS S r) {f9 : Nat} (hf9 : f9 ≤ 11)
    (hL : Ct (xG X) (xL X) yL_tab wsL_tab 9 1 6 [.ref a, .int (I32 (sc xs (i + 1))), .int (I32 (sc xs (i + 2))), .ref o] S n mu la (Lp S c mu1 la1)) (hR : ∀ n1, Ct (xG X) (xL X) yX9_tab wsX9_tab f9 0 0 [.ref r, .int (I32 (sc xs (i + 1))), .int (I32 (sc xs (i + 2)))] S n1 mu1 la1 (Dt (some (.int (I32 v))) S n1 mu2 la2)) (hc : 0 ≤ c ∧ c ≤ 3) (h7 : mu2 r 7 = c) (ho : c = 0 → la2 o 0 = (I32 v).toInt64) (hk : k + 1 ≤ (xR X).cells ∧ sl + 6 ≤ (xR X).slots)
    (kk : ∀ n1, V X 1932 [some (.ref b), some (.ref a), some (.ref r), some (.ref o), some (.int (I32 i)), none, none] [] S n1 mu2 la2 (k + 1) (sl + 6)) : V X 1340 [some (.ref b), some (.ref a), some (.ref r), some (.ref o), some (.int (I32 i)), none, none] [] S n mu la k sl := by
  refine V_aload_n C dL_law_1340 rfl ?_
  refine V_aload_n C dL_law_1341 rfl ?_
  refine V_iload C dL_law_1342 rfl ?_
  refine V_iconst C dL_law_1344 ?_
  refine V_iadd C dL_law_1345 ?_
  refine V_sald C hX hb hN (by omega) dL_law_1346 ?_
  refine V_aload_n C dL_law_1347 rfl ?_
  refine V_iload C dL_law_1348 rfl ?_
  refine V_iconst C dL_law_1350 ?_
  refine V_iadd C dL_law_1351 ?_
  refine V_sald C hX hb hN (by omega) dL_law_1352 ?_
  refine V_aload_n C dL_law_1353 rfl ?_
  refine V_callSH (nA := 4) C dL_law_1354 hL gL_law_L_tab rfl (by decide +kernel) rfl (by omega) (by decide) (Nat.le_of_ble_eq_true rfl) hk rfl ?_
  rintro _ S9 n1 mu9 la9 ⟨q0, q1, q2, q3⟩
  rw [q0, q1, q2, q3]
  refine V_istore C dL_law_1357 rfl (by decide) ?_
  refine V_aload_n C dL_law_1359 rfl ?_
  refine V_aload_n C dL_law_1360 rfl ?_
  refine V_iload C dL_law_1361 rfl ?_
  refine V_iconst C dL_law_1363 ?_
  refine V_iadd C dL_law_1364 ?_
  refine V_sald C hX hb hN (by omega) dL_law_1365 ?_
  refine V_aload_n C dL_law_1366 rfl ?_
  refine V_iload C dL_law_1367 rfl ?_
  refine V_iconst C dL_law_1369 ?_
  refine V_iadd C dL_law_1370 ?_
  refine V_sald C hX hb hN (by omega) dL_law_1371 ?_
  refine V_callVD (nA := 2) C dL_law_1372 (hR n1) gL_law_X9_tab rfl hM.1 rfl (by decide +kernel) rfl (by omega) (by decide) (Nat.le_of_ble_eq_true rfl) hk rfl ?_
  refine V_istore C dL_law_1375 rfl (by decide) ?_
  refine V_aload_n C dL_law_1377 rfl ?_
  refine V_callVD (nA := 0) C dL_law_1378 (m_thrown C.gp hM) gL_law_X9_thrown rfl hM.1 rfl (by decide +kernel) rfl (by omega) (by decide) (Nat.le_of_ble_eq_true rfl) hk rfl ?_
  refine V_iload C dL_law_1381 rfl ?_
  refine V_icmp_eq C 1388 dL_law_1383 (by decide) (by omega) (by omega) (fun _ => ?_) (fun z => absurd h7 z)
  refine V_iload C dL_law_1388 rfl ?_
  have fin : V X 1405 [some (.ref b), some (.ref a), some (.ref r), some (.ref o), some (.int (I32 i)), some (.int (I32 c)), some (.int (I32 v))] [] S n1 mu2 la2 (k + 1) (sl + 6) := by
    refine V_goto C 1932 dL_law_1405 (by decide) ?_
    exact V_fgt (r' := [some (.ref b), some (.ref a), some (.ref r), some (.ref o), some (.int (I32 i)), none, none]) (fun q9 h9 => by simp only [rOf, List.mem_cons, List.not_mem_nil, or_false] at h9 ⊢; rcases h9 with h | h | h | h | h <;> simp [h]) (kk n1)
  refine V_if_ne C 1405 dL_law_1390 (by decide) (by omega) (fun _ => fin) (fun z => ?_)
  refine V_aload_n C dL_law_1393 rfl ?_
  refine V_iconst C dL_law_1394 ?_
  refine V_lald C dL_law_1395 hO (by decide) (by decide) ?_
  refine V_iload C dL_law_1396 rfl ?_
  refine V_i2l C dL_law_1398 ?_
  refine V_lcmp C dL_law_1399 ?_
  rw [show la2 o (0 : Int).toNat = (I32 v).toInt64 from ho z, lg_cmp_xx]
  exact V_if_eq C 1405 dL_law_1400 (by decide) (by omega) (fun _ => fin) (fun z9 => absurd rfl z9)
end LC
