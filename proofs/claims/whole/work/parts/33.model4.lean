/-! THE REFERENCE: commands, their ends -/
def egF (P p s : Int) : Int := if ¬ (0 ≤ p ∧ p ≤ P - 1) then 1 else if ¬ (0 ≤ s ∧ s ≤ 3) then 2 else 0
def flF9 (P p x y w h : Int) : Int := if ¬ (0 ≤ p ∧ p ≤ P - 1) then 1 else if ¬ (0 ≤ x ∧ x ≤ 399) ∨ ¬ (0 ≤ y ∧ y ≤ 399) ∨ ¬ (1 ≤ w ∧ w ≤ 400) ∨ ¬ (1 ≤ h ∧ h ≤ 400) then 2 else 0
def wgF (T : Mem) (P p w : Int) : Int := if ¬ (0 ≤ p ∧ p ≤ P - 1) then 1 else if ¬ (1 ≤ w ∧ w ≤ 1000000) then 2 else if sxT T p ≠ 1 ∨ T 1 (T 9 p) = -1 then 3 else 0
def svF (k : Int) : Int := if 0 ≤ k ∧ k ≤ 3 then 0 else 1
def brF (mu : Mem) (r : Nat) (k : Int) : Int := if ¬ (0 ≤ k ∧ k ≤ 3) then 1 else if mu (r + 1) (355 + 321 * k) = 0 then 2 else 0
def svB (mu : Mem) (r : Nat) (T : Mem) (k : Int) : Mem := svP (up (ptT (up mu r 19 (mu (r + 1) (355 + 321 * k))) r T) (r + 1) (355 + 321 * k) 1) r (355 + 321 * k) 320
def brB (mu : Mem) (r : Nat) (k : Int) : Mem := ptT (up mu r 19 (smG (opn (trO mu r (355 + 321 * k + 1))) (mu (r + 1) 2).toNat)) r (trO mu r (355 + 321 * k + 1))
theorem inI_1 {v lo hi : Int} (h : lo ≤ v ∧ v ≤ hi) : inI v lo hi = 1 := by rw [inI, if_pos h]
theorem inI_0 {v lo hi : Int} (h : ¬ (lo ≤ v ∧ v ≤ hi)) : inI v lo hi = 0 := by rw [inI, if_neg h]
theorem ah2_b (s : Int) : 0 ≤ ah2 s ∧ ah2 s ≤ 1 := by unfold ah2; split <;> omega
theorem opn_b (T : Mem) (p : Int) : 0 ≤ opn T p ∧ opn T p ≤ 1 := by unfold opn; split <;> omega
theorem cpF_hold {mu : Mem} {r : Nat} : trT (cpF mu (r + 1) (r + 3) 1639) r = trT mu r := by
  funext w i
  unfold trT
  rw [cpF_off (by omega), cpF_off (by omega), cpF_off (by omega)]
theorem ptu_rr {mu T : Mem} {r : Nat} {j v w : Int} : up (ptT (up mu r j v) r T) r j w = ptT (up mu r j w) r T := by
  rw [ptu_r]
  congr 1
  funext a i
  unfold up
  split <;> rfl
theorem brP_pt {mu T : Mem} {r : Nat} {o : Int} (ho : 355 ≤ o) : brP (ptT mu r T) r o 320 = ptT mu r (trO mu r (o + 1)) := by
  rw [← brP_all]
  funext a i
  unfold brP
  by_cases h : a = r + 1 ∧ 35 ≤ i ∧ i < 35 + 320
  · rw [if_pos h, if_pos h, pt_lo (by omega)]
  · rw [if_neg h, if_neg h]
    unfold ptT
    rw [if_neg (by omega)]
section M4
variable {G : Gx} {l : Launch} {S : Sh} {n : Nat} {mu T : Mem} {la : Lam} {r : Nat}
set_option maxRecDepth 20000 in
theorem ggX9_edges_X9_isPane : GoodIn wsX9_edges wsX9_isPane := goodIn_r _ [6, 7, 8, 9, 5, 10, 78, 79, 80, 81, 82, 83, 84, 85, 86, 87, 88, 89, 90, 91, 92, 93, 94, 95, 96, 97, 98, 99, 100, 101] (by decide +kernel) (by decide +kernel)
set_option maxRecDepth 20000 in
theorem gX9_edges_X9_isPane : GoodIn wsX9_edges (wsV RX9 156 RX9 yX9_isPane wsX9_isPane) := goodIn_app (goodIn_of _ (by decide +kernel)) ggX9_edges_X9_isPane
set_option maxRecDepth 20000 in
theorem ggX9_edges_X9_in : GoodIn wsX9_edges wsX9_in := goodIn_r _ [10] (by decide +kernel) (by decide +kernel)
set_option maxRecDepth 20000 in
theorem gX9_edges_X9_in : GoodIn wsX9_edges (va_wsS RX9 73 yX9_in wsX9_in) := goodIn_app (goodIn_of _ (by decide +kernel)) ggX9_edges_X9_in
set_option maxRecDepth 20000 in
theorem ggX9_edges_X9_takesAway : GoodIn wsX9_edges wsX9_takesAway := goodIn_r _ [14, 7, 15, 16, 17, 5, 18, 19, 20, 21, 22, 23, 24, 25, 26, 27, 28, 29, 30, 31, 32, 33, 34, 35, 36, 37, 38, 8, 9, 10, 39, 40, 41, 42, 43, 44, 45, 46, 47, 48, 49, 50, 78, 79, 80, 81, 82, 83, 84, 85, 86, 87, 88, 89, 90, 91, 92, 93, 94, 95, 96, 97, 98, 99, 100, 101] (by decide +kernel) (by decide +kernel)
set_option maxRecDepth 20000 in
theorem gX9_edges_X9_takesAway : GoodIn wsX9_edges (wsV RX9 162 RX9 yX9_takesAway wsX9_takesAway) := goodIn_app (goodIn_of _ (by decide +kernel)) ggX9_edges_X9_takesAway
set_option maxRecDepth 20000 in
theorem ggX9_edges_X9_root : GoodIn wsX9_edges wsX9_root := goodIn_r _ [54, 31, 32, 33, 5, 34, 7, 8, 9, 10, 78, 79, 80, 81, 82, 83, 84, 85, 86, 87, 88, 89, 90, 91, 92, 93, 94, 95, 96, 97, 98, 99, 100, 101] (by decide +kernel) (by decide +kernel)
set_option maxRecDepth 20000 in
theorem gX9_edges_X9_root : GoodIn wsX9_edges (wsV RX9 94 RX9 yX9_root wsX9_root) := goodIn_app (goodIn_of _ (by decide +kernel)) ggX9_edges_X9_root
set_option maxRecDepth 20000 in
theorem ggX9_edges_X9_newGroup : GoodIn wsX9_edges wsX9_newGroup := goodIn_r _ [58, 7, 59, 60, 61, 5, 62, 31, 32, 33, 34, 35, 36, 37, 38, 78, 79, 80, 81, 82, 83, 84, 85, 86, 87, 88, 89, 90, 91, 92, 93, 94, 95, 96, 97, 98, 99, 100, 101] (by decide +kernel) (by decide +kernel)
set_option maxRecDepth 20000 in
theorem gX9_edges_X9_newGroup : GoodIn wsX9_edges (wsV RX9 165 RX9 yX9_newGroup wsX9_newGroup) := goodIn_app (goodIn_of _ (by decide +kernel)) ggX9_edges_X9_newGroup
set_option maxRecDepth 20000 in
theorem ggX9_edges_X9_of : GoodIn wsX9_edges wsX9_of := goodIn_r _ [34, 7, 78, 79, 80, 81, 82, 83, 84, 85, 86, 87, 88, 89, 90, 91, 92, 93, 94, 95, 96, 97, 98, 99, 100, 101] (by decide +kernel) (by decide +kernel)
set_option maxRecDepth 20000 in
theorem gX9_edges_X9_of : GoodIn wsX9_edges (wsV RX9 77 RX9 yX9_of wsX9_of) := goodIn_app (goodIn_of _ (by decide +kernel)) ggX9_edges_X9_of
set_option maxRecDepth 20000 in
theorem ggX9_edges_X9_kindOf : GoodIn wsX9_edges wsX9_kindOf := goodIn_r _ [65] (by decide +kernel) (by decide +kernel)
set_option maxRecDepth 20000 in
theorem gX9_edges_X9_kindOf : GoodIn wsX9_edges (va_wsS RX9 168 yX9_kindOf wsX9_kindOf) := goodIn_app (goodIn_of _ (by decide +kernel)) ggX9_edges_X9_kindOf
set_option maxRecDepth 20000 in
theorem ggX9_edges_X9_children : GoodIn wsX9_edges wsX9_children := goodIn_r _ [42, 31, 32, 33, 5, 34, 7, 8, 9, 10, 78, 79, 80, 81, 82, 83, 84, 85, 86, 87, 88, 89, 90, 91, 92, 93, 94, 95, 96, 97, 98, 99, 100, 101] (by decide +kernel) (by decide +kernel)
set_option maxRecDepth 20000 in
theorem gX9_edges_X9_children : GoodIn wsX9_edges (wsV RX9 102 RX9 yX9_children wsX9_children) := goodIn_app (goodIn_of _ (by decide +kernel)) ggX9_edges_X9_children
set_option maxRecDepth 20000 in
theorem ggX9_edges_X9_child : GoodIn wsX9_edges wsX9_child := goodIn_r _ [46, 31, 32, 33, 5, 34, 7, 8, 9, 10, 78, 79, 80, 81, 82, 83, 84, 85, 86, 87, 88, 89, 90, 91, 92, 93, 94, 95, 96, 97, 98, 99, 100, 101] (by decide +kernel) (by decide +kernel)
set_option maxRecDepth 20000 in
theorem gX9_edges_X9_child : GoodIn wsX9_edges (wsV RX9 105 RX9 yX9_child wsX9_child) := goodIn_app (goodIn_of _ (by decide +kernel)) ggX9_edges_X9_child
set_option maxRecDepth 20000 in
theorem ggX9_edges_X9_comesIn : GoodIn wsX9_edges wsX9_comesIn := goodIn_r _ [69, 31, 32, 33, 5, 34, 7, 8, 9, 10, 35, 36, 37, 38, 78, 79, 80, 81, 82, 83, 84, 85, 86, 87, 88, 89, 90, 91, 92, 93, 94, 95, 96, 97, 98, 99, 100, 101] (by decide +kernel) (by decide +kernel)
set_option maxRecDepth 20000 in
theorem gX9_edges_X9_comesIn : GoodIn wsX9_edges (wsV RX9 171 RX9 yX9_comesIn wsX9_comesIn) := goodIn_app (goodIn_of _ (by decide +kernel)) ggX9_edges_X9_comesIn
set_option maxRecDepth 20000 in
theorem ggX9_edges_X9_parts : GoodIn wsX9_edges wsX9_parts := goodIn_r _ [73, 59, 60, 61, 5, 62, 31, 32, 33, 34, 7, 35, 36, 37, 38, 78, 79, 80, 81, 82, 83, 84, 85, 86, 87, 88, 89, 90, 91, 92, 93, 94, 95, 96, 97, 98, 99, 100, 101] (by decide +kernel) (by decide +kernel)
set_option maxRecDepth 20000 in
theorem gX9_edges_X9_parts : GoodIn wsX9_edges (wsV RX9 175 RX9 yX9_parts wsX9_parts) := goodIn_app (goodIn_of _ (by decide +kernel)) ggX9_edges_X9_parts
set_option maxRecDepth 20000 in
theorem ggX9_edges_X9_count : GoodIn wsX9_edges wsX9_count := goodIn_r _ [77, 31, 32, 33, 5, 34, 7, 78, 79, 80, 81, 82, 83, 84, 85, 86, 87, 88, 89, 90, 91, 92, 93, 94, 95, 96, 97, 98, 99, 100, 101] (by decide +kernel) (by decide +kernel)
set_option maxRecDepth 20000 in
theorem gX9_edges_X9_count : GoodIn wsX9_edges (wsV RX9 186 RX9 yX9_count wsX9_count) := goodIn_app (goodIn_of _ (by decide +kernel)) ggX9_edges_X9_count
theorem dX9_edges_0 : decode cX9_edges 0 = .ok (.aload_n 0, 1) := by decide +kernel
theorem dX9_edges_1 : decode cX9_edges 1 = .ok (.iload_n 1, 1) := by decide +kernel
theorem dX9_edges_2 : decode cX9_edges 2 = .ok (.invokevirtual 156, 3) := by decide +kernel
theorem dX9_edges_5 : decode cX9_edges 5 = .ok (.ifCond .ne 5, 3) := by decide +kernel
theorem dX9_edges_8 : decode cX9_edges 8 = .ok (.iconst 1, 1) := by decide +kernel
theorem dX9_edges_9 : decode cX9_edges 9 = .ok (.ireturn, 1) := by decide +kernel
theorem dX9_edges_10 : decode cX9_edges 10 = .ok (.iload_n 2, 1) := by decide +kernel
theorem dX9_edges_11 : decode cX9_edges 11 = .ok (.iconst 0, 1) := by decide +kernel
theorem dX9_edges_12 : decode cX9_edges 12 = .ok (.iconst 3, 1) := by decide +kernel
theorem dX9_edges_13 : decode cX9_edges 13 = .ok (.invokestatic 73, 3) := by decide +kernel
theorem dX9_edges_16 : decode cX9_edges 16 = .ok (.ifCond .ne 5, 3) := by decide +kernel
theorem dX9_edges_19 : decode cX9_edges 19 = .ok (.iconst 2, 1) := by decide +kernel
theorem dX9_edges_20 : decode cX9_edges 20 = .ok (.ireturn, 1) := by decide +kernel
theorem dX9_edges_21 : decode cX9_edges 21 = .ok (.aload_n 0, 1) := by decide +kernel
theorem dX9_edges_22 : decode cX9_edges 22 = .ok (.iload_n 1, 1) := by decide +kernel
theorem dX9_edges_23 : decode cX9_edges 23 = .ok (.invokevirtual 162, 3) := by decide +kernel
theorem dX9_edges_26 : decode cX9_edges 26 = .ok (.aload_n 0, 1) := by decide +kernel
theorem dX9_edges_27 : decode cX9_edges 27 = .ok (.invokevirtual 94, 3) := by decide +kernel
theorem dX9_edges_30 : decode cX9_edges 30 = .ok (.istore_n 3, 1) := by decide +kernel
theorem dX9_edges_31 : decode cX9_edges 31 = .ok (.aload_n 0, 1) := by decide +kernel
theorem dX9_edges_32 : decode cX9_edges 32 = .ok (.iload_n 1, 1) := by decide +kernel
theorem dX9_edges_33 : decode cX9_edges 33 = .ok (.iconst 1, 1) := by decide +kernel
theorem dX9_edges_34 : decode cX9_edges 34 = .ok (.invokevirtual 165, 3) := by decide +kernel
theorem dX9_edges_37 : decode cX9_edges 37 = .ok (.istore 4, 2) := by decide +kernel
theorem dX9_edges_39 : decode cX9_edges 39 = .ok (.iload_n 2, 1) := by decide +kernel
theorem dX9_edges_40 : decode cX9_edges 40 = .ok (.iconst 2, 1) := by decide +kernel
theorem dX9_edges_41 : decode cX9_edges 41 = .ok (.irem, 1) := by decide +kernel
theorem dX9_edges_42 : decode cX9_edges 42 = .ok (.ifCond .ne 7, 3) := by decide +kernel
theorem dX9_edges_45 : decode cX9_edges 45 = .ok (.iconst 1, 1) := by decide +kernel
theorem dX9_edges_46 : decode cX9_edges 46 = .ok (.goto 4, 3) := by decide +kernel
theorem dX9_edges_49 : decode cX9_edges 49 = .ok (.iconst 0, 1) := by decide +kernel
theorem dX9_edges_50 : decode cX9_edges 50 = .ok (.istore 5, 2) := by decide +kernel
theorem dX9_edges_52 : decode cX9_edges 52 = .ok (.iload_n 3, 1) := by decide +kernel
theorem dX9_edges_53 : decode cX9_edges 53 = .ok (.iconst (-1), 1) := by decide +kernel
theorem dX9_edges_54 : decode cX9_edges 54 = .ok (.if_icmp .eq 71, 3) := by decide +kernel
theorem dX9_edges_57 : decode cX9_edges 57 = .ok (.aload_n 0, 1) := by decide +kernel
theorem dX9_edges_58 : decode cX9_edges 58 = .ok (.iload_n 3, 1) := by decide +kernel
theorem dX9_edges_59 : decode cX9_edges 59 = .ok (.iconst 0, 1) := by decide +kernel
theorem dX9_edges_60 : decode cX9_edges 60 = .ok (.invokevirtual 77, 3) := by decide +kernel
theorem dX9_edges_63 : decode cX9_edges 63 = .ok (.iload_n 2, 1) := by decide +kernel
theorem dX9_edges_64 : decode cX9_edges 64 = .ok (.invokestatic 168, 3) := by decide +kernel
theorem dX9_edges_67 : decode cX9_edges 67 = .ok (.if_icmp .ne 58, 3) := by decide +kernel
theorem dX9_edges_70 : decode cX9_edges 70 = .ok (.aload_n 0, 1) := by decide +kernel
theorem dX9_edges_71 : decode cX9_edges 71 = .ok (.iload_n 3, 1) := by decide +kernel
theorem dX9_edges_72 : decode cX9_edges 72 = .ok (.invokevirtual 102, 3) := by decide +kernel
theorem dX9_edges_75 : decode cX9_edges 75 = .ok (.istore 6, 2) := by decide +kernel
theorem dX9_edges_77 : decode cX9_edges 77 = .ok (.aload_n 0, 1) := by decide +kernel
theorem dX9_edges_78 : decode cX9_edges 78 = .ok (.iload_n 3, 1) := by decide +kernel
theorem dX9_edges_79 : decode cX9_edges 79 = .ok (.iload 5, 2) := by decide +kernel
theorem dX9_edges_81 : decode cX9_edges 81 = .ok (.ifCond .eq 7, 3) := by decide +kernel
theorem dX9_edges_84 : decode cX9_edges 84 = .ok (.iconst 0, 1) := by decide +kernel
theorem dX9_edges_85 : decode cX9_edges 85 = .ok (.goto 7, 3) := by decide +kernel
theorem dX9_edges_88 : decode cX9_edges 88 = .ok (.iload 6, 2) := by decide +kernel
theorem dX9_edges_90 : decode cX9_edges 90 = .ok (.iconst 1, 1) := by decide +kernel
theorem dX9_edges_91 : decode cX9_edges 91 = .ok (.isub, 1) := by decide +kernel
theorem dX9_edges_92 : decode cX9_edges 92 = .ok (.invokevirtual 105, 3) := by decide +kernel
theorem dX9_edges_95 : decode cX9_edges 95 = .ok (.istore 7, 2) := by decide +kernel
theorem dX9_edges_97 : decode cX9_edges 97 = .ok (.aload_n 0, 1) := by decide +kernel
theorem dX9_edges_98 : decode cX9_edges 98 = .ok (.iload_n 3, 1) := by decide +kernel
theorem dX9_edges_99 : decode cX9_edges 99 = .ok (.iload 4, 2) := by decide +kernel
theorem dX9_edges_101 : decode cX9_edges 101 = .ok (.iload 5, 2) := by decide +kernel
theorem dX9_edges_103 : decode cX9_edges 103 = .ok (.ifCond .eq 7, 3) := by decide +kernel
theorem dX9_edges_106 : decode cX9_edges 106 = .ok (.iconst 0, 1) := by decide +kernel
theorem dX9_edges_107 : decode cX9_edges 107 = .ok (.goto 5, 3) := by decide +kernel
theorem dX9_edges_110 : decode cX9_edges 110 = .ok (.iload 6, 2) := by decide +kernel
theorem dX9_edges_112 : decode cX9_edges 112 = .ok (.aload_n 0, 1) := by decide +kernel
theorem dX9_edges_113 : decode cX9_edges 113 = .ok (.iload 7, 2) := by decide +kernel
theorem dX9_edges_115 : decode cX9_edges 115 = .ok (.iconst 3, 1) := by decide +kernel
theorem dX9_edges_116 : decode cX9_edges 116 = .ok (.invokevirtual 77, 3) := by decide +kernel
theorem dX9_edges_119 : decode cX9_edges 119 = .ok (.invokevirtual 171, 3) := by decide +kernel
theorem dX9_edges_122 : decode cX9_edges 122 = .ok (.goto 21, 3) := by decide +kernel
theorem dX9_edges_125 : decode cX9_edges 125 = .ok (.iload_n 3, 1) := by decide +kernel
theorem dX9_edges_126 : decode cX9_edges 126 = .ok (.iconst (-1), 1) := by decide +kernel
theorem dX9_edges_127 : decode cX9_edges 127 = .ok (.if_icmp .eq 16, 3) := by decide +kernel
theorem dX9_edges_130 : decode cX9_edges 130 = .ok (.aload_n 0, 1) := by decide +kernel
theorem dX9_edges_131 : decode cX9_edges 131 = .ok (.iload_n 3, 1) := by decide +kernel
theorem dX9_edges_132 : decode cX9_edges 132 = .ok (.iload 4, 2) := by decide +kernel
theorem dX9_edges_134 : decode cX9_edges 134 = .ok (.iload_n 2, 1) := by decide +kernel
theorem dX9_edges_135 : decode cX9_edges 135 = .ok (.invokestatic 168, 3) := by decide +kernel
theorem dX9_edges_138 : decode cX9_edges 138 = .ok (.iload 5, 2) := by decide +kernel
theorem dX9_edges_140 : decode cX9_edges 140 = .ok (.invokevirtual 175, 3) := by decide +kernel
theorem dX9_edges_143 : decode cX9_edges 143 = .ok (.aload_n 0, 1) := by decide +kernel
theorem dX9_edges_144 : decode cX9_edges 144 = .ok (.aload_n 0, 1) := by decide +kernel
theorem dX9_edges_145 : decode cX9_edges 145 = .ok (.iconst 1, 1) := by decide +kernel
theorem dX9_edges_146 : decode cX9_edges 146 = .ok (.invokevirtual 186, 3) := by decide +kernel
theorem dX9_edges_149 : decode cX9_edges 149 = .ok (.putfield 150, 3) := by decide +kernel
theorem dX9_edges_152 : decode cX9_edges 152 = .ok (.iconst 0, 1) := by decide +kernel
theorem dX9_edges_153 : decode cX9_edges 153 = .ok (.ireturn, 1) := by decide +kernel
theorem hin_X9_edges_X9 : ∀ w ∈ wsX90, w ∈ wsX9_edges := by decide +kernel
theorem lk_X9_edges_150 : Cond.fieldLink RX9 150 RX9 "answer" "I" ∈ wsX9_edges := by decide +kernel
theorem m_edges (hG : GP G) (hM : MoS S r) {N : Int} (hB : TB N T) (hN : 100 ≤ N ∧ N ≤ 1073730000) (hP : 0 ≤ mu (r + 1) 2 ∧ mu (r + 1) 2 ≤ 16) {x z : Int} (hx : -2147483648 ≤ x ∧ x ≤ 2147483647) (hz : -2147483648 ≤ z ∧ z ≤ 2147483647) (ho : egF (mu (r + 1) 2) x z = 0 → okE T (mu (r + 1) 2) x z) : Ct G l yX9_edges wsX9_edges 4 0 0 [.ref r, .int (I32 x), .int (I32 z)] S n (ptT mu r T) la (Dt (some (.int (I32 (egF (mu (r + 1) 2) x z)))) S n (if egF (mu (r + 1) 2) x z = 0 then ptT (up mu r 19 (ctT (egC T (mu (r + 1) 2) x z) 1)) r (egC T (mu (r + 1) 2) x z) else ptT mu r T) la) := by
  have o9 := hM.1
  have hP' : 0 ≤ ptT mu r T (r + 1) 2 ∧ ptT mu r T (r + 1) 2 ≤ 16 := by rw [pt_lo (by decide)]; exact hP
  have e2 : ptT mu r T (r + 1) 2 = mu (r + 1) 2 := pt_lo (by decide)
  have bi := inI_b x 0 (mu (r + 1) 2 - 1)
  have bj := inI_b z 0 3
  unfold egF at ho ⊢
  refine Ct.ofV (cc := cX9_edges) (nL := 8) (ret := (some .int)) [some (.ref r), some (.int (I32 x)), some (.int (I32 z)), none, none, none, none, none] hG (by decide) rfl (Nat.le_of_ble_eq_true rfl) rfl ?_
  rintro X rfl rfl C hcl hsl E
  refine V_aload_n C dX9_edges_0 rfl ?_
  refine V_iload_n C dX9_edges_1 rfl ?_
  refine V_callVD (nA := 1) C dX9_edges_2 (m_isPane C.gp hM hP' hx) gX9_edges_X9_isPane rfl o9 rfl (by decide +kernel) rfl (by decide) (by decide) (Nat.le_of_ble_eq_true rfl) ⟨by omega, by omega⟩ rfl ?_
  rw [e2]
  by_cases hb : 0 ≤ x ∧ x ≤ mu (r + 1) 2 - 1
  · rw [if_neg (fun q => q hb)] at ho E
    rw [inI_1 hb]
    refine V_if_ne C 10 dX9_edges_5 (by decide) (by omega) (fun z0 => ?_) (fun z0 => ?_)
    · refine V_iload_n C dX9_edges_10 rfl ?_
      refine V_iconst C dX9_edges_11 ?_
      refine V_iconst C dX9_edges_12 ?_
      refine V_callSD (nA := 3) C dX9_edges_13 (m_in C.gp hz (by omega) (by omega)) gX9_edges_X9_in rfl (by decide +kernel) rfl (by decide) (by decide) (Nat.le_of_ble_eq_true rfl) ⟨by omega, by omega⟩ rfl ?_
      by_cases hc : 0 ≤ z ∧ z ≤ 3
      · rw [if_neg (fun q => q hc)] at ho E
        rw [if_pos rfl] at E
        rw [inI_1 hc]
        refine V_if_ne C 21 dX9_edges_16 (by decide) (by omega) (fun z1 => ?_) (fun z1 => ?_)
        · obtain ⟨o1, o2, o3, o4⟩ := ho rfl
          have hx9 : 0 ≤ x ∧ x < 16 := by omega
          have hB1 := tkT_TB hB hN.1 hP hx9
          have hB2 := TB_dk2 hB hN.1 hP hx9 o2
          have bf := frT_b (tkT T (mu (r + 1) 2) x)
          have br := rtT_b (tkT T (mu (r + 1) 2) x)
          have bk := knF_b z
          have ba := ah2_b z
          refine V_aload_n C dX9_edges_21 rfl ?_
          refine V_iload_n C dX9_edges_22 rfl ?_
          refine V_callVD (nA := 1) C dX9_edges_23 (m_takesAway C.gp hM hB (by omega) hP hx9 o1) gX9_edges_X9_takesAway rfl o9 rfl (by decide +kernel) rfl (by decide) (by decide) (Nat.le_of_ble_eq_true rfl) ⟨by omega, by omega⟩ rfl ?_
          refine V_aload_n C dX9_edges_26 rfl ?_
          refine V_callVD (nA := 0) C dX9_edges_27 (m_root C.gp hM hB1 (by omega)) gX9_edges_X9_root rfl o9 rfl (by decide +kernel) rfl (by decide) (by decide) (Nat.le_of_ble_eq_true rfl) ⟨by omega, by omega⟩ rfl ?_
          refine V_istore_n C dX9_edges_30 rfl (by decide) ?_
          refine V_aload_n C dX9_edges_31 rfl ?_
          refine V_iload_n C dX9_edges_32 rfl ?_
          refine V_iconst C dX9_edges_33 ?_
          refine V_callVD (nA := 2) C dX9_edges_34 (m_newGroup C.gp hM hB1 (by omega) hx9 o2) gX9_edges_X9_newGroup rfl o9 rfl (by decide +kernel) rfl (by decide) (by decide) (Nat.le_of_ble_eq_true rfl) ⟨by omega, by omega⟩ rfl ?_
          rw [show nwT (tkT T (mu (r + 1) 2) x) x 1 = dk2 T (mu (r + 1) 2) x from rfl]
          unfold egC at E
          generalize dk2 T (mu (r + 1) 2) x = D at hB2 o3 o4 E
          generalize rtT (tkT T (mu (r + 1) 2) x) = g at br o3 o4 E
          generalize frT (tkT T (mu (r + 1) 2) x) = gr at bf o2 o3 o4 E
          have last : ∀ (K : Mem) (M : Int) (w4 w5 w6 w7 : Option Value), TB M K → M ≤ 1073740000 → En X 0 0 (Dt (some (.int (I32 0))) S n (ptT (up mu r 19 (ctT K 1)) r K) la) → V X 143 [some (.ref r), some (.int (I32 x)), some (.int (I32 z)), some (.int (I32 g)), w4, w5, w6, w7] [] S n (ptT mu r K) la 0 0 := by
            intro K M w4 w5 w6 w7 hK hMM E
            refine V_aload_n C dX9_edges_143 rfl ?_
            refine V_aload_n C dX9_edges_144 rfl ?_
            refine V_iconst C dX9_edges_145 ?_
            refine V_callVD (nA := 1) C dX9_edges_146 (m_count C.gp hM hK (by omega) (by omega)) gX9_edges_X9_count rfl o9 rfl (by decide +kernel) rfl (by decide) (by decide) (Nat.le_of_ble_eq_true rfl) ⟨by omega, by omega⟩ rfl ?_
            refine V_putJ C 19 19 rfl dX9_edges_149 o9 rfl hin_X9_edges_X9 tyX9 tyX9_ok nmX9 (by decide) lk_X9_edges_150 rfl rfl (by decide +kernel) rfl (ptu_r) ?_
            refine V_iconst C dX9_edges_152 ?_
            refine V_ireturn C E dX9_edges_153 (by omega) (by omega) ?_
            exact Dt_rfl
          have ah : ∀ v : Int, v = ah2 z → V X 50 [some (.ref r), some (.int (I32 x)), some (.int (I32 z)), some (.int (I32 g)), some (.int (I32 gr)), none, none, none] [.int (I32 v)] S n (ptT mu r D) la 0 0 := by
            intro v hv
            have bv : 0 ≤ v ∧ v ≤ 1 := by rw [hv]; exact ba
            rw [← hv] at E o3
            refine V_istore C dX9_edges_50 rfl (by decide) ?_
            refine V_iload_n C dX9_edges_52 rfl ?_
            refine V_iconst C dX9_edges_53 ?_
            refine V_icmp_eq C 125 dX9_edges_54 (by decide) (by omega) (by omega) (fun z2 => ?_) (fun z2 => ?_)
            · rw [if_neg (fun q => q.1 z2), if_neg (fun q => q z2)] at E
              refine V_iload_n C dX9_edges_125 rfl ?_
              refine V_iconst C dX9_edges_126 ?_
              refine V_icmp_eq C 143 dX9_edges_127 (by decide) (by omega) (by omega) (fun z3 => ?_) (fun z3 => ?_)
              · exact last D _ _ _ _ _ hB2 (by omega) E
              · exact absurd z2 z3
            · have b0 := hB2.n 0 (by decide) (i := g) (by omega)
              refine V_aload_n C dX9_edges_57 rfl ?_
              refine V_iload_n C dX9_edges_58 rfl ?_
              refine V_iconst C dX9_edges_59 ?_
              refine V_callVD (nA := 2) C dX9_edges_60 (m_of C.gp hM (by omega) 0 (by decide) rfl) gX9_edges_X9_of rfl o9 rfl (by decide +kernel) rfl (by decide) (by decide) (Nat.le_of_ble_eq_true rfl) ⟨by omega, by omega⟩ rfl ?_
              refine V_iload_n C dX9_edges_63 rfl ?_
              refine V_callSD (nA := 1) C dX9_edges_64 (m_kindOf C.gp (by omega)) gX9_edges_X9_kindOf rfl (by decide +kernel) rfl (by decide) (by decide) (Nat.le_of_ble_eq_true rfl) ⟨by omega, by omega⟩ rfl ?_
              refine V_icmp_ne C 125 dX9_edges_67 (by decide) (by omega) (by omega) (fun z3 => ?_) (fun z3 => ?_)
              · have hn : ¬ (g ≠ -1 ∧ D 0 g = knF z) := fun q => z3 q.2
                rw [if_neg hn, if_pos z2] at E
                have hB3 := prT_TB hB2 (by omega) (o4 hn z2) (x := g) (g := gr) (k := knF z) (ah := v) (by omega) (by omega)
                refine V_iload_n C dX9_edges_125 rfl ?_
                refine V_iconst C dX9_edges_126 ?_
                refine V_icmp_eq C 143 dX9_edges_127 (by decide) (by omega) (by omega) (fun z4 => ?_) (fun z4 => ?_)
                · exact absurd z4 z2
                · refine V_aload_n C dX9_edges_130 rfl ?_
                  refine V_iload_n C dX9_edges_131 rfl ?_
                  refine V_iload C dX9_edges_132 rfl ?_
                  refine V_iload_n C dX9_edges_134 rfl ?_
                  refine V_callSD (nA := 1) C dX9_edges_135 (m_kindOf C.gp (by omega)) gX9_edges_X9_kindOf rfl (by decide +kernel) rfl (by decide) (by decide) (Nat.le_of_ble_eq_true rfl) ⟨by omega, by omega⟩ rfl ?_
                  refine V_iload C dX9_edges_138 rfl ?_
                  refine V_callVD (nA := 4) C dX9_edges_140 (m_parts C.gp hM hB2 (by omega) (by omega) (by omega) bv (o4 hn z2)) gX9_edges_X9_parts rfl o9 rfl (by decide +kernel) rfl (by decide) (by decide) (Nat.le_of_ble_eq_true rfl) ⟨by omega, by omega⟩ rfl ?_
                  exact last _ _ _ _ _ _ hB3 (by omega) E
              · have hy : g ≠ -1 ∧ D 0 g = knF z := ⟨z2, z3⟩
                rw [if_pos hy] at E
                have o3 := o3 hy
                have bkd := kdT_b D g
                refine V_aload_n C dX9_edges_70 rfl ?_
                refine V_iload_n C dX9_edges_71 rfl ?_
                refine V_callVD (nA := 1) C dX9_edges_72 (m_children C.gp hM hB2 (by omega) (by omega)) gX9_edges_X9_children rfl o9 rfl (by decide +kernel) rfl (by decide) (by decide) (Nat.le_of_ble_eq_true rfl) ⟨by omega, by omega⟩ rfl ?_
                refine V_istore C dX9_edges_75 rfl (by decide) ?_
                refine V_aload_n C dX9_edges_77 rfl ?_
                refine V_iload_n C dX9_edges_78 rfl ?_
                refine V_iload C dX9_edges_79 rfl ?_
                refine V_if_eq C 88 dX9_edges_81 (by decide) (by omega) (fun z4 => ?_) (fun z4 => ?_)
                · rw [if_pos z4, if_pos z4] at E
                  rw [if_pos z4] at o3
                  have bc := chT_b D g (kdT D g - 1)
                  have b3 := hB2.n 3 (by decide) (i := chT D g (kdT D g - 1)) (by omega)
                  have hB3 := ciT_TB hB2 (by omega) (a := g) (g := gr) (ps := kdT D g) (wt := D 3 (chT D g (kdT D g - 1))) (by omega) (by omega) (by omega)
                  refine V_iload C dX9_edges_88 rfl ?_
                  refine V_iconst C dX9_edges_90 ?_
                  refine V_isub C dX9_edges_91 ?_
                  refine V_callVD (nA := 2) C dX9_edges_92 (m_child C.gp hM hB2 (by omega) (by omega) (by omega)) gX9_edges_X9_child rfl o9 rfl (by decide +kernel) rfl (by decide) (by decide) (Nat.le_of_ble_eq_true rfl) ⟨by omega, by omega⟩ rfl ?_
                  refine V_istore C dX9_edges_95 rfl (by decide) ?_
                  refine V_aload_n C dX9_edges_97 rfl ?_
                  refine V_iload_n C dX9_edges_98 rfl ?_
                  refine V_iload C dX9_edges_99 rfl ?_
                  refine V_iload C dX9_edges_101 rfl ?_
                  refine V_if_eq C 110 dX9_edges_103 (by decide) (by omega) (fun z5 => ?_) (fun z5 => ?_)
                  · refine V_iload C dX9_edges_110 rfl ?_
                    refine V_aload_n C dX9_edges_112 rfl ?_
                    refine V_iload C dX9_edges_113 rfl ?_
                    refine V_iconst C dX9_edges_115 ?_
                    refine V_callVD (nA := 2) C dX9_edges_116 (m_of C.gp hM (by omega) 3 (by decide) rfl) gX9_edges_X9_of rfl o9 rfl (by decide +kernel) rfl (by decide) (by decide) (Nat.le_of_ble_eq_true rfl) ⟨by omega, by omega⟩ rfl ?_
                    refine V_callVD (nA := 4) C dX9_edges_119 (m_comesIn C.gp hM hB2 (by omega) (by omega) (by omega) (by omega)) gX9_edges_X9_comesIn rfl o9 rfl (by decide +kernel) rfl (by decide) (by decide) (Nat.le_of_ble_eq_true rfl) ⟨by omega, by omega⟩ rfl ?_
                    refine V_goto C 143 dX9_edges_122 (by decide) ?_
                    exact last _ _ _ _ _ _ hB3 (by omega) E
                  · exact absurd z4 z5
                · rw [if_neg z4, if_neg z4] at E
                  rw [if_neg z4] at o3
                  have bc := chT_b D g 0
                  have b3 := hB2.n 3 (by decide) (i := chT D g 0) (by omega)
                  have hB3 := ciT_TB hB2 (by omega) (a := g) (g := gr) (ps := 0) (wt := D 3 (chT D g 0)) (by omega) (by omega) (by omega)
                  refine V_iconst C dX9_edges_84 ?_
                  refine V_goto C 92 dX9_edges_85 (by decide) ?_
                  refine V_callVD (nA := 2) C dX9_edges_92 (m_child C.gp hM hB2 (by omega) (by omega) (by omega)) gX9_edges_X9_child rfl o9 rfl (by decide +kernel) rfl (by decide) (by decide) (Nat.le_of_ble_eq_true rfl) ⟨by omega, by omega⟩ rfl ?_
                  refine V_istore C dX9_edges_95 rfl (by decide) ?_
                  refine V_aload_n C dX9_edges_97 rfl ?_
                  refine V_iload_n C dX9_edges_98 rfl ?_
                  refine V_iload C dX9_edges_99 rfl ?_
                  refine V_iload C dX9_edges_101 rfl ?_
                  refine V_if_eq C 110 dX9_edges_103 (by decide) (by omega) (fun z5 => ?_) (fun z5 => ?_)
                  · exact absurd z5 z4
                  · refine V_iconst C dX9_edges_106 ?_
                    refine V_goto C 112 dX9_edges_107 (by decide) ?_
                    refine V_aload_n C dX9_edges_112 rfl ?_
                    refine V_iload C dX9_edges_113 rfl ?_
                    refine V_iconst C dX9_edges_115 ?_
                    refine V_callVD (nA := 2) C dX9_edges_116 (m_of C.gp hM (by omega) 3 (by decide) rfl) gX9_edges_X9_of rfl o9 rfl (by decide +kernel) rfl (by decide) (by decide) (Nat.le_of_ble_eq_true rfl) ⟨by omega, by omega⟩ rfl ?_
                    refine V_callVD (nA := 4) C dX9_edges_119 (m_comesIn C.gp hM hB2 (by omega) (by omega) (by omega) (by omega)) gX9_edges_X9_comesIn rfl o9 rfl (by decide +kernel) rfl (by decide) (by decide) (Nat.le_of_ble_eq_true rfl) ⟨by omega, by omega⟩ rfl ?_
                    refine V_goto C 143 dX9_edges_122 (by decide) ?_
                    exact last _ _ _ _ _ _ hB3 (by omega) E
          refine V_istore C dX9_edges_37 rfl (by decide) ?_
          refine V_iload_n C dX9_edges_39 rfl ?_
          refine V_iconst C dX9_edges_40 ?_
          refine V_irem C dX9_edges_41 (by omega) (by omega) ?_
          refine V_if_ne C 49 dX9_edges_42 (by decide) (by omega) (fun z5 => ?_) (fun z5 => ?_)
          · refine V_iconst C dX9_edges_49 ?_
            exact ah 0 (by unfold ah2; rw [if_neg z5])
          · refine V_iconst C dX9_edges_45 ?_
            refine V_goto C 50 dX9_edges_46 (by decide) ?_
            exact ah 1 (by unfold ah2; rw [if_pos z5])
        · exact absurd z1 (by decide)
      · rw [if_pos hc, if_neg (by decide)] at E
        rw [inI_0 hc]
        refine V_if_ne C 21 dX9_edges_16 (by decide) (by omega) (fun z1 => ?_) (fun z1 => ?_)
        · exact absurd rfl z1
        · refine V_iconst C dX9_edges_19 ?_
          refine V_ireturn C E dX9_edges_20 (by omega) (by omega) ?_
          exact Dt_rfl
    · exact absurd z0 (by decide)
  · rw [if_pos hb, if_neg (by decide)] at E
    rw [inI_0 hb]
    refine V_if_ne C 10 dX9_edges_5 (by decide) (by omega) (fun z0 => ?_) (fun z0 => ?_)
    · exact absurd rfl z0
    · refine V_iconst C dX9_edges_8 ?_
      refine V_ireturn C E dX9_edges_9 (by omega) (by omega) ?_
      exact Dt_rfl
set_option maxRecDepth 20000 in
theorem ggX9_floats_X9_isPane : GoodIn wsX9_floats wsX9_isPane := goodIn_r _ [6, 7, 8, 9, 5, 10, 63, 64, 65, 66, 67, 68, 69, 70, 71, 72, 73, 74, 75, 76, 77, 78, 79, 80, 81, 82, 83, 84, 85, 86] (by decide +kernel) (by decide +kernel)
set_option maxRecDepth 20000 in
theorem gX9_floats_X9_isPane : GoodIn wsX9_floats (wsV RX9 156 RX9 yX9_isPane wsX9_isPane) := goodIn_app (goodIn_of _ (by decide +kernel)) ggX9_floats_X9_isPane
set_option maxRecDepth 20000 in
theorem ggX9_floats_X9_in : GoodIn wsX9_floats wsX9_in := goodIn_r _ [10] (by decide +kernel) (by decide +kernel)
set_option maxRecDepth 20000 in
theorem gX9_floats_X9_in : GoodIn wsX9_floats (va_wsS RX9 73 yX9_in wsX9_in) := goodIn_app (goodIn_of _ (by decide +kernel)) ggX9_floats_X9_in
set_option maxRecDepth 20000 in
theorem ggX9_floats_X9_takesAway : GoodIn wsX9_floats wsX9_takesAway := goodIn_r _ [14, 7, 15, 16, 17, 5, 18, 19, 20, 21, 22, 23, 24, 25, 26, 27, 28, 29, 30, 31, 32, 33, 34, 35, 36, 37, 38, 8, 9, 10, 39, 40, 41, 42, 43, 44, 45, 46, 47, 48, 49, 50, 63, 64, 65, 66, 67, 68, 69, 70, 71, 72, 73, 74, 75, 76, 77, 78, 79, 80, 81, 82, 83, 84, 85, 86] (by decide +kernel) (by decide +kernel)
set_option maxRecDepth 20000 in
theorem gX9_floats_X9_takesAway : GoodIn wsX9_floats (wsV RX9 162 RX9 yX9_takesAway wsX9_takesAway) := goodIn_app (goodIn_of _ (by decide +kernel)) ggX9_floats_X9_takesAway
set_option maxRecDepth 20000 in
theorem ggX9_floats_X9_count : GoodIn wsX9_floats wsX9_count := goodIn_r _ [54, 31, 32, 33, 5, 34, 7, 63, 64, 65, 66, 67, 68, 69, 70, 71, 72, 73, 74, 75, 76, 77, 78, 79, 80, 81, 82, 83, 84, 85, 86] (by decide +kernel) (by decide +kernel)
set_option maxRecDepth 20000 in
theorem gX9_floats_X9_count : GoodIn wsX9_floats (wsV RX9 186 RX9 yX9_count wsX9_count) := goodIn_app (goodIn_of _ (by decide +kernel)) ggX9_floats_X9_count
set_option maxRecDepth 20000 in
theorem ggX9_floats_X9_newGroup : GoodIn wsX9_floats wsX9_newGroup := goodIn_r _ [58, 7, 59, 60, 61, 5, 62, 31, 32, 33, 34, 35, 36, 37, 38, 63, 64, 65, 66, 67, 68, 69, 70, 71, 72, 73, 74, 75, 76, 77, 78, 79, 80, 81, 82, 83, 84, 85, 86] (by decide +kernel) (by decide +kernel)
set_option maxRecDepth 20000 in
theorem gX9_floats_X9_newGroup : GoodIn wsX9_floats (wsV RX9 165 RX9 yX9_newGroup wsX9_newGroup) := goodIn_app (goodIn_of _ (by decide +kernel)) ggX9_floats_X9_newGroup
set_option maxRecDepth 20000 in
theorem ggX9_floats_X9_puts : GoodIn wsX9_floats wsX9_puts := goodIn_r _ [38, 7, 63, 64, 65, 66, 67, 68, 69, 70, 71, 72, 73, 74, 75, 76, 77, 78, 79, 80, 81, 82, 83, 84, 85, 86] (by decide +kernel) (by decide +kernel)
set_option maxRecDepth 20000 in
theorem gX9_floats_X9_puts : GoodIn wsX9_floats (wsV RX9 81 RX9 yX9_puts wsX9_puts) := goodIn_app (goodIn_of _ (by decide +kernel)) ggX9_floats_X9_puts
theorem dX9_floats_0 : decode cX9_floats 0 = .ok (.aload_n 0, 1) := by decide +kernel
theorem dX9_floats_1 : decode cX9_floats 1 = .ok (.iload_n 1, 1) := by decide +kernel
theorem dX9_floats_2 : decode cX9_floats 2 = .ok (.invokevirtual 156, 3) := by decide +kernel
theorem dX9_floats_5 : decode cX9_floats 5 = .ok (.ifCond .ne 5, 3) := by decide +kernel
theorem dX9_floats_8 : decode cX9_floats 8 = .ok (.iconst 1, 1) := by decide +kernel
theorem dX9_floats_9 : decode cX9_floats 9 = .ok (.ireturn, 1) := by decide +kernel
theorem dX9_floats_10 : decode cX9_floats 10 = .ok (.iload_n 2, 1) := by decide +kernel
theorem dX9_floats_11 : decode cX9_floats 11 = .ok (.iconst 0, 1) := by decide +kernel
theorem dX9_floats_12 : decode cX9_floats 12 = .ok (.sipush 399, 3) := by decide +kernel
theorem dX9_floats_15 : decode cX9_floats 15 = .ok (.invokestatic 73, 3) := by decide +kernel
theorem dX9_floats_18 : decode cX9_floats 18 = .ok (.ifCond .eq 38, 3) := by decide +kernel
theorem dX9_floats_21 : decode cX9_floats 21 = .ok (.iload_n 3, 1) := by decide +kernel
theorem dX9_floats_22 : decode cX9_floats 22 = .ok (.iconst 0, 1) := by decide +kernel
theorem dX9_floats_23 : decode cX9_floats 23 = .ok (.sipush 399, 3) := by decide +kernel
theorem dX9_floats_26 : decode cX9_floats 26 = .ok (.invokestatic 73, 3) := by decide +kernel
theorem dX9_floats_29 : decode cX9_floats 29 = .ok (.ifCond .eq 27, 3) := by decide +kernel
theorem dX9_floats_32 : decode cX9_floats 32 = .ok (.iload 4, 2) := by decide +kernel
theorem dX9_floats_34 : decode cX9_floats 34 = .ok (.iconst 1, 1) := by decide +kernel
theorem dX9_floats_35 : decode cX9_floats 35 = .ok (.sipush 400, 3) := by decide +kernel
theorem dX9_floats_38 : decode cX9_floats 38 = .ok (.invokestatic 73, 3) := by decide +kernel
theorem dX9_floats_41 : decode cX9_floats 41 = .ok (.ifCond .eq 15, 3) := by decide +kernel
theorem dX9_floats_44 : decode cX9_floats 44 = .ok (.iload 5, 2) := by decide +kernel
theorem dX9_floats_46 : decode cX9_floats 46 = .ok (.iconst 1, 1) := by decide +kernel
theorem dX9_floats_47 : decode cX9_floats 47 = .ok (.sipush 400, 3) := by decide +kernel
theorem dX9_floats_50 : decode cX9_floats 50 = .ok (.invokestatic 73, 3) := by decide +kernel
theorem dX9_floats_53 : decode cX9_floats 53 = .ok (.ifCond .ne 5, 3) := by decide +kernel
theorem dX9_floats_56 : decode cX9_floats 56 = .ok (.iconst 2, 1) := by decide +kernel
theorem dX9_floats_57 : decode cX9_floats 57 = .ok (.ireturn, 1) := by decide +kernel
theorem dX9_floats_58 : decode cX9_floats 58 = .ok (.aload_n 0, 1) := by decide +kernel
theorem dX9_floats_59 : decode cX9_floats 59 = .ok (.iload_n 1, 1) := by decide +kernel
theorem dX9_floats_60 : decode cX9_floats 60 = .ok (.invokevirtual 162, 3) := by decide +kernel
theorem dX9_floats_63 : decode cX9_floats 63 = .ok (.aload_n 0, 1) := by decide +kernel
theorem dX9_floats_64 : decode cX9_floats 64 = .ok (.aload_n 0, 1) := by decide +kernel
theorem dX9_floats_65 : decode cX9_floats 65 = .ok (.iconst 4, 1) := by decide +kernel
theorem dX9_floats_66 : decode cX9_floats 66 = .ok (.invokevirtual 186, 3) := by decide +kernel
theorem dX9_floats_69 : decode cX9_floats 69 = .ok (.iconst 1, 1) := by decide +kernel
theorem dX9_floats_70 : decode cX9_floats 70 = .ok (.iadd, 1) := by decide +kernel
theorem dX9_floats_71 : decode cX9_floats 71 = .ok (.putfield 150, 3) := by decide +kernel
theorem dX9_floats_74 : decode cX9_floats 74 = .ok (.aload_n 0, 1) := by decide +kernel
theorem dX9_floats_75 : decode cX9_floats 75 = .ok (.iload_n 1, 1) := by decide +kernel
theorem dX9_floats_76 : decode cX9_floats 76 = .ok (.iconst 4, 1) := by decide +kernel
theorem dX9_floats_77 : decode cX9_floats 77 = .ok (.invokevirtual 165, 3) := by decide +kernel
theorem dX9_floats_80 : decode cX9_floats 80 = .ok (.istore 6, 2) := by decide +kernel
theorem dX9_floats_82 : decode cX9_floats 82 = .ok (.aload_n 0, 1) := by decide +kernel
theorem dX9_floats_83 : decode cX9_floats 83 = .ok (.iload 6, 2) := by decide +kernel
theorem dX9_floats_85 : decode cX9_floats 85 = .ok (.iconst 2, 1) := by decide +kernel
theorem dX9_floats_86 : decode cX9_floats 86 = .ok (.aload_n 0, 1) := by decide +kernel
theorem dX9_floats_87 : decode cX9_floats 87 = .ok (.getfield 150, 3) := by decide +kernel
theorem dX9_floats_90 : decode cX9_floats 90 = .ok (.iconst 1, 1) := by decide +kernel
theorem dX9_floats_91 : decode cX9_floats 91 = .ok (.isub, 1) := by decide +kernel
theorem dX9_floats_92 : decode cX9_floats 92 = .ok (.invokevirtual 81, 3) := by decide +kernel
theorem dX9_floats_95 : decode cX9_floats 95 = .ok (.aload_n 0, 1) := by decide +kernel
theorem dX9_floats_96 : decode cX9_floats 96 = .ok (.iload 6, 2) := by decide +kernel
theorem dX9_floats_98 : decode cX9_floats 98 = .ok (.iconst 5, 1) := by decide +kernel
theorem dX9_floats_99 : decode cX9_floats 99 = .ok (.iload_n 2, 1) := by decide +kernel
theorem dX9_floats_100 : decode cX9_floats 100 = .ok (.invokevirtual 81, 3) := by decide +kernel
theorem dX9_floats_103 : decode cX9_floats 103 = .ok (.aload_n 0, 1) := by decide +kernel
theorem dX9_floats_104 : decode cX9_floats 104 = .ok (.iload 6, 2) := by decide +kernel
theorem dX9_floats_106 : decode cX9_floats 106 = .ok (.bipush 6, 2) := by decide +kernel
theorem dX9_floats_108 : decode cX9_floats 108 = .ok (.iload_n 3, 1) := by decide +kernel
theorem dX9_floats_109 : decode cX9_floats 109 = .ok (.invokevirtual 81, 3) := by decide +kernel
theorem dX9_floats_112 : decode cX9_floats 112 = .ok (.aload_n 0, 1) := by decide +kernel
theorem dX9_floats_113 : decode cX9_floats 113 = .ok (.iload 6, 2) := by decide +kernel
theorem dX9_floats_115 : decode cX9_floats 115 = .ok (.bipush 7, 2) := by decide +kernel
theorem dX9_floats_117 : decode cX9_floats 117 = .ok (.iload 4, 2) := by decide +kernel
theorem dX9_floats_119 : decode cX9_floats 119 = .ok (.invokevirtual 81, 3) := by decide +kernel
theorem dX9_floats_122 : decode cX9_floats 122 = .ok (.aload_n 0, 1) := by decide +kernel
theorem dX9_floats_123 : decode cX9_floats 123 = .ok (.iload 6, 2) := by decide +kernel
theorem dX9_floats_125 : decode cX9_floats 125 = .ok (.bipush 8, 2) := by decide +kernel
theorem dX9_floats_127 : decode cX9_floats 127 = .ok (.iload 5, 2) := by decide +kernel
theorem dX9_floats_129 : decode cX9_floats 129 = .ok (.invokevirtual 81, 3) := by decide +kernel
theorem dX9_floats_132 : decode cX9_floats 132 = .ok (.iconst 0, 1) := by decide +kernel
theorem dX9_floats_133 : decode cX9_floats 133 = .ok (.ireturn, 1) := by decide +kernel
theorem hin_X9_floats_X9 : ∀ w ∈ wsX90, w ∈ wsX9_floats := by decide +kernel
theorem lk_X9_floats_150 : Cond.fieldLink RX9 150 RX9 "answer" "I" ∈ wsX9_floats := by decide +kernel
theorem m_floats (hG : GP G) (hM : MoS S r) {N : Int} (hB : TB N T) (hN : 100 ≤ N ∧ N ≤ 1073730000) (hP : 0 ≤ mu (r + 1) 2 ∧ mu (r + 1) 2 ≤ 16) {x y z w h : Int} (hx : -2147483648 ≤ x ∧ x ≤ 2147483647) (hy : -2147483648 ≤ y ∧ y ≤ 2147483647) (hz : -2147483648 ≤ z ∧ z ≤ 2147483647) (hw : -2147483648 ≤ w ∧ w ≤ 2147483647) (hh : -2147483648 ≤ h ∧ h ≤ 2147483647) (ho : flF9 (mu (r + 1) 2) x y z w h = 0 → okF T (mu (r + 1) 2) x) : Ct G l yX9_floats wsX9_floats 4 0 0 [.ref r, .int (I32 x), .int (I32 y), .int (I32 z), .int (I32 w), .int (I32 h)] S n (ptT mu r T) la (Dt (some (.int (I32 (flF9 (mu (r + 1) 2) x y z w h)))) S n (if flF9 (mu (r + 1) 2) x y z w h = 0 then ptT (up mu r 19 (ctT (tkT T (mu (r + 1) 2) x) 4 + 1)) r (flT T (mu (r + 1) 2) x y z w h) else ptT mu r T) la) := by
  have o9 := hM.1
  have hP' : 0 ≤ ptT mu r T (r + 1) 2 ∧ ptT mu r T (r + 1) 2 ≤ 16 := by rw [pt_lo (by decide)]; exact hP
  have e2 : ptT mu r T (r + 1) 2 = mu (r + 1) 2 := pt_lo (by decide)
  have bi := inI_b x 0 (mu (r + 1) 2 - 1)
  unfold flF9 at ho ⊢
  refine Ct.ofV (cc := cX9_floats) (nL := 7) (ret := (some .int)) [some (.ref r), some (.int (I32 x)), some (.int (I32 y)), some (.int (I32 z)), some (.int (I32 w)), some (.int (I32 h)), none] hG (by decide) rfl (Nat.le_of_ble_eq_true rfl) rfl ?_
  rintro X rfl rfl C hcl hsl E
  refine V_aload_n C dX9_floats_0 rfl ?_
  refine V_iload_n C dX9_floats_1 rfl ?_
  refine V_callVD (nA := 1) C dX9_floats_2 (m_isPane C.gp hM hP' hx) gX9_floats_X9_isPane rfl o9 rfl (by decide +kernel) rfl (by decide) (by decide) (Nat.le_of_ble_eq_true rfl) ⟨by omega, by omega⟩ rfl ?_
  rw [e2]
  by_cases hb : 0 ≤ x ∧ x ≤ mu (r + 1) 2 - 1
  · rw [if_neg (fun q => q hb)] at ho E
    rw [inI_1 hb]
    refine V_if_ne C 10 dX9_floats_5 (by decide) (by omega) (fun z0 => ?_) (fun z0 => ?_)
    · have bad : (¬ (0 ≤ y ∧ y ≤ 399) ∨ ¬ (0 ≤ z ∧ z ≤ 399) ∨ ¬ (1 ≤ w ∧ w ≤ 400) ∨ ¬ (1 ≤ h ∧ h ≤ 400)) → V X 56 [some (.ref r), some (.int (I32 x)), some (.int (I32 y)), some (.int (I32 z)), some (.int (I32 w)), some (.int (I32 h)), none] [] S n (ptT mu r T) la 0 0 := by
        intro hc
        rw [if_pos hc, if_neg (by decide)] at E
        refine V_iconst C dX9_floats_56 ?_
        refine V_ireturn C E dX9_floats_57 (by omega) (by omega) ?_
        exact Dt_rfl
      refine V_iload_n C dX9_floats_10 rfl ?_
      refine V_iconst C dX9_floats_11 ?_
      refine V_sipush C dX9_floats_12 (by decide +kernel) ?_
      refine V_callSD (nA := 3) C dX9_floats_15 (m_in C.gp hy (by omega) (by omega)) gX9_floats_X9_in rfl (by decide +kernel) rfl (by decide) (by decide) (Nat.le_of_ble_eq_true rfl) ⟨by omega, by omega⟩ rfl ?_
      by_cases h1 : 0 ≤ y ∧ y ≤ 399
      · rw [inI_1 h1]
        refine V_if_eq C 56 dX9_floats_18 (by decide) (by omega) (fun z1 => ?_) (fun z1 => ?_)
        · exact absurd z1 (by decide)
        · refine V_iload_n C dX9_floats_21 rfl ?_
          refine V_iconst C dX9_floats_22 ?_
          refine V_sipush C dX9_floats_23 (by decide +kernel) ?_
          refine V_callSD (nA := 3) C dX9_floats_26 (m_in C.gp hz (by omega) (by omega)) gX9_floats_X9_in rfl (by decide +kernel) rfl (by decide) (by decide) (Nat.le_of_ble_eq_true rfl) ⟨by omega, by omega⟩ rfl ?_
          by_cases h2 : 0 ≤ z ∧ z ≤ 399
          · rw [inI_1 h2]
            refine V_if_eq C 56 dX9_floats_29 (by decide) (by omega) (fun z2 => ?_) (fun z2 => ?_)
            · exact absurd z2 (by decide)
            · refine V_iload C dX9_floats_32 rfl ?_
              refine V_iconst C dX9_floats_34 ?_
              refine V_sipush C dX9_floats_35 (by decide +kernel) ?_
              refine V_callSD (nA := 3) C dX9_floats_38 (m_in C.gp hw (by omega) (by omega)) gX9_floats_X9_in rfl (by decide +kernel) rfl (by decide) (by decide) (Nat.le_of_ble_eq_true rfl) ⟨by omega, by omega⟩ rfl ?_
              by_cases h3 : 1 ≤ w ∧ w ≤ 400
              · rw [inI_1 h3]
                refine V_if_eq C 56 dX9_floats_41 (by decide) (by omega) (fun z3 => ?_) (fun z3 => ?_)
                · exact absurd z3 (by decide)
                · refine V_iload C dX9_floats_44 rfl ?_
                  refine V_iconst C dX9_floats_46 ?_
                  refine V_sipush C dX9_floats_47 (by decide +kernel) ?_
                  refine V_callSD (nA := 3) C dX9_floats_50 (m_in C.gp hh (by omega) (by omega)) gX9_floats_X9_in rfl (by decide +kernel) rfl (by decide) (by decide) (Nat.le_of_ble_eq_true rfl) ⟨by omega, by omega⟩ rfl ?_
                  by_cases h4 : 1 ≤ h ∧ h ≤ 400
                  · rw [inI_1 h4]
                    have hc : ¬ (¬ (0 ≤ y ∧ y ≤ 399) ∨ ¬ (0 ≤ z ∧ z ≤ 399) ∨ ¬ (1 ≤ w ∧ w ≤ 400) ∨ ¬ (1 ≤ h ∧ h ≤ 400)) := by omega
                    rw [if_neg hc] at ho E
                    rw [if_pos rfl] at E
                    obtain ⟨o1, o2⟩ := ho rfl
                    have hx9 : 0 ≤ x ∧ x < 16 := by omega
                    have hB1 := tkT_TB hB hN.1 hP hx9
                    have bf := frT_b (tkT T (mu (r + 1) 2) x)
                    have bc := ctT_b (tkT T (mu (r + 1) 2) x) 4
                    refine V_if_ne C 58 dX9_floats_53 (by decide) (by omega) (fun z4 => ?_) (fun z4 => ?_)
                    · refine V_aload_n C dX9_floats_58 rfl ?_
                      refine V_iload_n C dX9_floats_59 rfl ?_
                      refine V_callVD (nA := 1) C dX9_floats_60 (m_takesAway C.gp hM hB (by omega) hP hx9 o1) gX9_floats_X9_takesAway rfl o9 rfl (by decide +kernel) rfl (by decide) (by decide) (Nat.le_of_ble_eq_true rfl) ⟨by omega, by omega⟩ rfl ?_
                      refine V_aload_n C dX9_floats_63 rfl ?_
                      refine V_aload_n C dX9_floats_64 rfl ?_
                      refine V_iconst C dX9_floats_65 ?_
                      refine V_callVD (nA := 1) C dX9_floats_66 (m_count C.gp hM hB1 (by omega) (by omega)) gX9_floats_X9_count rfl o9 rfl (by decide +kernel) rfl (by decide) (by decide) (Nat.le_of_ble_eq_true rfl) ⟨by omega, by omega⟩ rfl ?_
                      refine V_iconst C dX9_floats_69 ?_
                      refine V_iadd C dX9_floats_70 ?_
                      refine V_putJ C 19 19 rfl dX9_floats_71 o9 rfl hin_X9_floats_X9 tyX9 tyX9_ok nmX9 (by decide) lk_X9_floats_150 rfl rfl (by decide +kernel) rfl (ptu_r) ?_
                      refine V_aload_n C dX9_floats_74 rfl ?_
                      refine V_iload_n C dX9_floats_75 rfl ?_
                      refine V_iconst C dX9_floats_76 ?_
                      refine V_callVD (nA := 2) C dX9_floats_77 (m_newGroup C.gp hM hB1 (by omega) hx9 o2) gX9_floats_X9_newGroup rfl o9 rfl (by decide +kernel) rfl (by decide) (by decide) (Nat.le_of_ble_eq_true rfl) ⟨by omega, by omega⟩ rfl ?_
                      refine V_istore C dX9_floats_80 rfl (by decide) ?_
                      refine V_aload_n C dX9_floats_82 rfl ?_
                      refine V_iload C dX9_floats_83 rfl ?_
                      refine V_iconst C dX9_floats_85 ?_
                      refine V_aload_n C dX9_floats_86 rfl ?_
                      refine V_getJ C 19 19 rfl dX9_floats_87 o9 rfl hin_X9_floats_X9 (by decide) lk_X9_floats_150 rfl rfl (pt_r.trans (up_s _ _ _ _)) ?_
                      refine V_iconst C dX9_floats_90 ?_
                      refine V_isub C dX9_floats_91 ?_
                      refine V_callVD (nA := 3) C dX9_floats_92 (m_puts C.gp hM (by omega) 2 (by decide) rfl) gX9_floats_X9_puts rfl o9 rfl (by decide +kernel) rfl (by decide) (by decide) (Nat.le_of_ble_eq_true rfl) ⟨by omega, by omega⟩ rfl ?_
                      refine V_aload_n C dX9_floats_95 rfl ?_
                      refine V_iload C dX9_floats_96 rfl ?_
                      refine V_iconst C dX9_floats_98 ?_
                      refine V_iload_n C dX9_floats_99 rfl ?_
                      refine V_callVD (nA := 3) C dX9_floats_100 (m_puts C.gp hM (by omega) 5 (by decide) rfl) gX9_floats_X9_puts rfl o9 rfl (by decide +kernel) rfl (by decide) (by decide) (Nat.le_of_ble_eq_true rfl) ⟨by omega, by omega⟩ rfl ?_
                      refine V_aload_n C dX9_floats_103 rfl ?_
                      refine V_iload C dX9_floats_104 rfl ?_
                      refine V_bipush C dX9_floats_106 (by decide +kernel) ?_
                      refine V_iload_n C dX9_floats_108 rfl ?_
                      refine V_callVD (nA := 3) C dX9_floats_109 (m_puts C.gp hM (by omega) 6 (by decide) rfl) gX9_floats_X9_puts rfl o9 rfl (by decide +kernel) rfl (by decide) (by decide) (Nat.le_of_ble_eq_true rfl) ⟨by omega, by omega⟩ rfl ?_
                      refine V_aload_n C dX9_floats_112 rfl ?_
                      refine V_iload C dX9_floats_113 rfl ?_
                      refine V_bipush C dX9_floats_115 (by decide +kernel) ?_
                      refine V_iload C dX9_floats_117 rfl ?_
                      refine V_callVD (nA := 3) C dX9_floats_119 (m_puts C.gp hM (by omega) 7 (by decide) rfl) gX9_floats_X9_puts rfl o9 rfl (by decide +kernel) rfl (by decide) (by decide) (Nat.le_of_ble_eq_true rfl) ⟨by omega, by omega⟩ rfl ?_
                      refine V_aload_n C dX9_floats_122 rfl ?_
                      refine V_iload C dX9_floats_123 rfl ?_
                      refine V_bipush C dX9_floats_125 (by decide +kernel) ?_
                      refine V_iload C dX9_floats_127 rfl ?_
                      refine V_callVD (nA := 3) C dX9_floats_129 (m_puts C.gp hM (by omega) 8 (by decide) rfl) gX9_floats_X9_puts rfl o9 rfl (by decide +kernel) rfl (by decide) (by decide) (Nat.le_of_ble_eq_true rfl) ⟨by omega, by omega⟩ rfl ?_
                      refine V_iconst C dX9_floats_132 ?_
                      refine V_ireturn C E dX9_floats_133 (by omega) (by omega) ?_
                      exact Dt_rfl
                    · exact absurd z4 (by decide)
                  · rw [inI_0 h4]
                    refine V_if_ne C 58 dX9_floats_53 (by decide) (by omega) (fun z4 => ?_) (fun z4 => ?_)
                    · exact absurd rfl z4
                    · exact bad (by omega)
              · rw [inI_0 h3]
                refine V_if_eq C 56 dX9_floats_41 (by decide) (by omega) (fun z3 => ?_) (fun z3 => ?_)
                · exact bad (by omega)
                · exact absurd rfl z3
          · rw [inI_0 h2]
            refine V_if_eq C 56 dX9_floats_29 (by decide) (by omega) (fun z2 => ?_) (fun z2 => ?_)
            · exact bad (by omega)
            · exact absurd rfl z2
      · rw [inI_0 h1]
        refine V_if_eq C 56 dX9_floats_18 (by decide) (by omega) (fun z1 => ?_) (fun z1 => ?_)
        · exact bad (by omega)
        · exact absurd rfl z1
    · exact absurd z0 (by decide)
  · rw [if_pos hb, if_neg (by decide)] at E
    rw [inI_0 hb]
    refine V_if_ne C 10 dX9_floats_5 (by decide) (by omega) (fun z0 => ?_) (fun z0 => ?_)
    · exact absurd rfl z0
    · refine V_iconst C dX9_floats_8 ?_
      refine V_ireturn C E dX9_floats_9 (by omega) (by omega) ?_
      exact Dt_rfl
set_option maxRecDepth 20000 in
theorem ggX9_weighs_X9_isPane : GoodIn wsX9_weighs wsX9_isPane := goodIn_r _ [7, 8, 9, 10, 6, 11, 28, 29, 30, 31, 32, 33, 34, 35, 36, 37, 38, 39, 40, 41, 42, 43, 44, 45, 46, 47, 48, 49, 50, 51] (by decide +kernel) (by decide +kernel)
set_option maxRecDepth 20000 in
theorem gX9_weighs_X9_isPane : GoodIn wsX9_weighs (wsV RX9 156 RX9 yX9_isPane wsX9_isPane) := goodIn_app (goodIn_of _ (by decide +kernel)) ggX9_weighs_X9_isPane
set_option maxRecDepth 20000 in
theorem ggX9_weighs_X9_in : GoodIn wsX9_weighs wsX9_in := goodIn_r _ [11] (by decide +kernel) (by decide +kernel)
set_option maxRecDepth 20000 in
theorem gX9_weighs_X9_in : GoodIn wsX9_weighs (va_wsS RX9 73 yX9_in wsX9_in) := goodIn_app (goodIn_of _ (by decide +kernel)) ggX9_weighs_X9_in
set_option maxRecDepth 20000 in
theorem ggX9_weighs_X9_stateOf : GoodIn wsX9_weighs wsX9_stateOf := goodIn_r _ [15, 16, 17, 18, 6, 19, 8, 20, 21, 22, 23, 28, 29, 30, 31, 32, 33, 34, 35, 36, 37, 38, 39, 40, 41, 42, 43, 44, 45, 46, 47, 48, 49, 50, 51] (by decide +kernel) (by decide +kernel)
set_option maxRecDepth 20000 in
theorem gX9_weighs_X9_stateOf : GoodIn wsX9_weighs (wsV RX9 159 RX9 yX9_stateOf wsX9_stateOf) := goodIn_app (goodIn_of _ (by decide +kernel)) ggX9_weighs_X9_stateOf
set_option maxRecDepth 20000 in
theorem ggX9_weighs_X9_groupOf : GoodIn wsX9_weighs wsX9_groupOf := goodIn_r _ [19, 8, 28, 29, 30, 31, 32, 33, 34, 35, 36, 37, 38, 39, 40, 41, 42, 43, 44, 45, 46, 47, 48, 49, 50, 51] (by decide +kernel) (by decide +kernel)
set_option maxRecDepth 20000 in
theorem gX9_weighs_X9_groupOf : GoodIn wsX9_weighs (wsV RX9 85 RX9 yX9_groupOf wsX9_groupOf) := goodIn_app (goodIn_of _ (by decide +kernel)) ggX9_weighs_X9_groupOf
set_option maxRecDepth 20000 in
theorem ggX9_weighs_X9_of : GoodIn wsX9_weighs wsX9_of := goodIn_r _ [23, 8, 28, 29, 30, 31, 32, 33, 34, 35, 36, 37, 38, 39, 40, 41, 42, 43, 44, 45, 46, 47, 48, 49, 50, 51] (by decide +kernel) (by decide +kernel)
set_option maxRecDepth 20000 in
theorem gX9_weighs_X9_of : GoodIn wsX9_weighs (wsV RX9 77 RX9 yX9_of wsX9_of) := goodIn_app (goodIn_of _ (by decide +kernel)) ggX9_weighs_X9_of
set_option maxRecDepth 20000 in
theorem ggX9_weighs_X9_puts : GoodIn wsX9_weighs wsX9_puts := goodIn_r _ [27, 8, 28, 29, 30, 31, 32, 33, 34, 35, 36, 37, 38, 39, 40, 41, 42, 43, 44, 45, 46, 47, 48, 49, 50, 51] (by decide +kernel) (by decide +kernel)
set_option maxRecDepth 20000 in
theorem gX9_weighs_X9_puts : GoodIn wsX9_weighs (wsV RX9 81 RX9 yX9_puts wsX9_puts) := goodIn_app (goodIn_of _ (by decide +kernel)) ggX9_weighs_X9_puts
theorem dX9_weighs_0 : decode cX9_weighs 0 = .ok (.aload_n 0, 1) := by decide +kernel
theorem dX9_weighs_1 : decode cX9_weighs 1 = .ok (.iload_n 1, 1) := by decide +kernel
theorem dX9_weighs_2 : decode cX9_weighs 2 = .ok (.invokevirtual 156, 3) := by decide +kernel
theorem dX9_weighs_5 : decode cX9_weighs 5 = .ok (.ifCond .ne 5, 3) := by decide +kernel
theorem dX9_weighs_8 : decode cX9_weighs 8 = .ok (.iconst 1, 1) := by decide +kernel
theorem dX9_weighs_9 : decode cX9_weighs 9 = .ok (.ireturn, 1) := by decide +kernel
theorem dX9_weighs_10 : decode cX9_weighs 10 = .ok (.iload_n 2, 1) := by decide +kernel
theorem dX9_weighs_11 : decode cX9_weighs 11 = .ok (.iconst 1, 1) := by decide +kernel
theorem dX9_weighs_12 : decode cX9_weighs 12 = .ok (.ldc 189, 2) := by decide +kernel
theorem dX9_weighs_14 : decode cX9_weighs 14 = .ok (.invokestatic 73, 3) := by decide +kernel
theorem dX9_weighs_17 : decode cX9_weighs 17 = .ok (.ifCond .ne 5, 3) := by decide +kernel
theorem dX9_weighs_20 : decode cX9_weighs 20 = .ok (.iconst 2, 1) := by decide +kernel
theorem dX9_weighs_21 : decode cX9_weighs 21 = .ok (.ireturn, 1) := by decide +kernel
theorem dX9_weighs_22 : decode cX9_weighs 22 = .ok (.aload_n 0, 1) := by decide +kernel
theorem dX9_weighs_23 : decode cX9_weighs 23 = .ok (.iload_n 1, 1) := by decide +kernel
theorem dX9_weighs_24 : decode cX9_weighs 24 = .ok (.invokevirtual 159, 3) := by decide +kernel
theorem dX9_weighs_27 : decode cX9_weighs 27 = .ok (.iconst 1, 1) := by decide +kernel
theorem dX9_weighs_28 : decode cX9_weighs 28 = .ok (.if_icmp .ne 17, 3) := by decide +kernel
theorem dX9_weighs_31 : decode cX9_weighs 31 = .ok (.aload_n 0, 1) := by decide +kernel
theorem dX9_weighs_32 : decode cX9_weighs 32 = .ok (.aload_n 0, 1) := by decide +kernel
theorem dX9_weighs_33 : decode cX9_weighs 33 = .ok (.iload_n 1, 1) := by decide +kernel
theorem dX9_weighs_34 : decode cX9_weighs 34 = .ok (.invokevirtual 85, 3) := by decide +kernel
theorem dX9_weighs_37 : decode cX9_weighs 37 = .ok (.iconst 1, 1) := by decide +kernel
theorem dX9_weighs_38 : decode cX9_weighs 38 = .ok (.invokevirtual 77, 3) := by decide +kernel
theorem dX9_weighs_41 : decode cX9_weighs 41 = .ok (.iconst (-1), 1) := by decide +kernel
theorem dX9_weighs_42 : decode cX9_weighs 42 = .ok (.if_icmp .ne 5, 3) := by decide +kernel
theorem dX9_weighs_45 : decode cX9_weighs 45 = .ok (.iconst 3, 1) := by decide +kernel
theorem dX9_weighs_46 : decode cX9_weighs 46 = .ok (.ireturn, 1) := by decide +kernel
theorem dX9_weighs_47 : decode cX9_weighs 47 = .ok (.aload_n 0, 1) := by decide +kernel
theorem dX9_weighs_48 : decode cX9_weighs 48 = .ok (.aload_n 0, 1) := by decide +kernel
theorem dX9_weighs_49 : decode cX9_weighs 49 = .ok (.aload_n 0, 1) := by decide +kernel
theorem dX9_weighs_50 : decode cX9_weighs 50 = .ok (.iload_n 1, 1) := by decide +kernel
theorem dX9_weighs_51 : decode cX9_weighs 51 = .ok (.invokevirtual 85, 3) := by decide +kernel
theorem dX9_weighs_54 : decode cX9_weighs 54 = .ok (.iconst 3, 1) := by decide +kernel
theorem dX9_weighs_55 : decode cX9_weighs 55 = .ok (.invokevirtual 77, 3) := by decide +kernel
theorem dX9_weighs_58 : decode cX9_weighs 58 = .ok (.putfield 150, 3) := by decide +kernel
theorem dX9_weighs_61 : decode cX9_weighs 61 = .ok (.aload_n 0, 1) := by decide +kernel
theorem dX9_weighs_62 : decode cX9_weighs 62 = .ok (.aload_n 0, 1) := by decide +kernel
theorem dX9_weighs_63 : decode cX9_weighs 63 = .ok (.iload_n 1, 1) := by decide +kernel
theorem dX9_weighs_64 : decode cX9_weighs 64 = .ok (.invokevirtual 85, 3) := by decide +kernel
theorem dX9_weighs_67 : decode cX9_weighs 67 = .ok (.iconst 3, 1) := by decide +kernel
theorem dX9_weighs_68 : decode cX9_weighs 68 = .ok (.iload_n 2, 1) := by decide +kernel
theorem dX9_weighs_69 : decode cX9_weighs 69 = .ok (.invokevirtual 81, 3) := by decide +kernel
theorem dX9_weighs_72 : decode cX9_weighs 72 = .ok (.iconst 0, 1) := by decide +kernel
theorem dX9_weighs_73 : decode cX9_weighs 73 = .ok (.ireturn, 1) := by decide +kernel
theorem hin_X9_weighs_X9 : ∀ w ∈ wsX90, w ∈ wsX9_weighs := by decide +kernel
theorem lk_X9_weighs_150 : Cond.fieldLink RX9 150 RX9 "answer" "I" ∈ wsX9_weighs := by decide +kernel
theorem m_weighs (hG : GP G) (hM : MoS S r) {N : Int} (hB : TB N T) (hN : N ≤ 1073740000) (hP : 0 ≤ mu (r + 1) 2 ∧ mu (r + 1) 2 ≤ 16) {x w : Int} (hx : -2147483648 ≤ x ∧ x ≤ 2147483647) (hw : -2147483648 ≤ w ∧ w ≤ 2147483647) : Ct G l yX9_weighs wsX9_weighs 2 0 0 [.ref r, .int (I32 x), .int (I32 w)] S n (ptT mu r T) la (Dt (some (.int (I32 (wgF T (mu (r + 1) 2) x w)))) S n (if wgF T (mu (r + 1) 2) x w = 0 then ptT (up mu r 19 (T 3 (T 9 x))) r (up T 3 (T 9 x) w) else ptT mu r T) la) := by
  have o9 := hM.1
  have hP' : 0 ≤ ptT mu r T (r + 1) 2 ∧ ptT mu r T (r + 1) 2 ≤ 16 := by rw [pt_lo (by decide)]; exact hP
  have e2 : ptT mu r T (r + 1) 2 = mu (r + 1) 2 := pt_lo (by decide)
  unfold wgF
  refine Ct.ofV (cc := cX9_weighs) (nL := 3) (ret := (some .int)) [some (.ref r), some (.int (I32 x)), some (.int (I32 w))] hG (by decide) rfl (Nat.le_of_ble_eq_true rfl) rfl ?_
  rintro X rfl rfl C hcl hsl E
  refine V_aload_n C dX9_weighs_0 rfl ?_
  refine V_iload_n C dX9_weighs_1 rfl ?_
  refine V_callVD (nA := 1) C dX9_weighs_2 (m_isPane C.gp hM hP' hx) gX9_weighs_X9_isPane rfl o9 rfl (by decide +kernel) rfl (by decide) (by decide) (Nat.le_of_ble_eq_true rfl) ⟨by omega, by omega⟩ rfl ?_
  rw [e2]
  by_cases hb : 0 ≤ x ∧ x ≤ mu (r + 1) 2 - 1
  · rw [if_neg (fun q => q hb)] at E
    rw [inI_1 hb]
    have b9 := hB.g (i := x) (by omega)
    have bs : 0 ≤ sxT T x ∧ sxT T x ≤ 2 := by unfold sxT; (repeat' split) <;> omega
    have b91 : sxT T x = 1 → 0 ≤ T 9 x := by unfold sxT; (repeat' split) <;> omega
    refine V_if_ne C 10 dX9_weighs_5 (by decide) (by omega) (fun z0 => ?_) (fun z0 => ?_)
    · refine V_iload_n C dX9_weighs_10 rfl ?_
      refine V_iconst C dX9_weighs_11 ?_
      refine V_ldcI C (v := 1000000) dX9_weighs_12 (by decide +kernel) ?_
      refine V_callSD (nA := 3) C dX9_weighs_14 (m_in C.gp hw (by omega) (by omega)) gX9_weighs_X9_in rfl (by decide +kernel) rfl (by decide) (by decide) (Nat.le_of_ble_eq_true rfl) ⟨by omega, by omega⟩ rfl ?_
      by_cases hc : 1 ≤ w ∧ w ≤ 1000000
      · rw [if_neg (fun q => q hc)] at E
        rw [inI_1 hc]
        refine V_if_ne C 22 dX9_weighs_17 (by decide) (by omega) (fun z1 => ?_) (fun z1 => ?_)
        · have bad : (sxT T x ≠ 1 ∨ T 1 (T 9 x) = -1) → V X 45 [some (.ref r), some (.int (I32 x)), some (.int (I32 w))] [] S n (ptT mu r T) la 0 0 := by
            intro hd
            rw [if_pos hd, if_neg (by decide)] at E
            refine V_iconst C dX9_weighs_45 ?_
            refine V_ireturn C E dX9_weighs_46 (by omega) (by omega) ?_
            exact Dt_rfl
          refine V_aload_n C dX9_weighs_22 rfl ?_
          refine V_iload_n C dX9_weighs_23 rfl ?_
          refine V_callVD (nA := 1) C dX9_weighs_24 (m_stateOf C.gp hM hB (by omega) (by omega)) gX9_weighs_X9_stateOf rfl o9 rfl (by decide +kernel) rfl (by decide) (by decide) (Nat.le_of_ble_eq_true rfl) ⟨by omega, by omega⟩ rfl ?_
          refine V_iconst C dX9_weighs_27 ?_
          refine V_icmp_ne C 45 dX9_weighs_28 (by decide) (by omega) (by omega) (fun z2 => ?_) (fun z2 => ?_)
          · exact bad (Or.inl z2)
          · have b91 := b91 z2
            have b1 := hB.p (i := T 9 x) (by omega)
            refine V_aload_n C dX9_weighs_31 rfl ?_
            refine V_aload_n C dX9_weighs_32 rfl ?_
            refine V_iload_n C dX9_weighs_33 rfl ?_
            refine V_callVD (nA := 1) C dX9_weighs_34 (m_groupOf C.gp hM (by omega)) gX9_weighs_X9_groupOf rfl o9 rfl (by decide +kernel) rfl (by decide) (by decide) (Nat.le_of_ble_eq_true rfl) ⟨by omega, by omega⟩ rfl ?_
            refine V_iconst C dX9_weighs_37 ?_
            refine V_callVD (nA := 2) C dX9_weighs_38 (m_of C.gp hM (by omega) 1 (by decide) rfl) gX9_weighs_X9_of rfl o9 rfl (by decide +kernel) rfl (by decide) (by decide) (Nat.le_of_ble_eq_true rfl) ⟨by omega, by omega⟩ rfl ?_
            refine V_iconst C dX9_weighs_41 ?_
            refine V_icmp_ne C 47 dX9_weighs_42 (by decide) (by omega) (by omega) (fun z3 => ?_) (fun z3 => ?_)
            · have hd : ¬ (sxT T x ≠ 1 ∨ T 1 (T 9 x) = -1) := by omega
              rw [if_neg hd, if_pos rfl] at E
              refine V_aload_n C dX9_weighs_47 rfl ?_
              refine V_aload_n C dX9_weighs_48 rfl ?_
              refine V_aload_n C dX9_weighs_49 rfl ?_
              refine V_iload_n C dX9_weighs_50 rfl ?_
              refine V_callVD (nA := 1) C dX9_weighs_51 (m_groupOf C.gp hM (by omega)) gX9_weighs_X9_groupOf rfl o9 rfl (by decide +kernel) rfl (by decide) (by decide) (Nat.le_of_ble_eq_true rfl) ⟨by omega, by omega⟩ rfl ?_
              refine V_iconst C dX9_weighs_54 ?_
              refine V_callVD (nA := 2) C dX9_weighs_55 (m_of C.gp hM (by omega) 3 (by decide) rfl) gX9_weighs_X9_of rfl o9 rfl (by decide +kernel) rfl (by decide) (by decide) (Nat.le_of_ble_eq_true rfl) ⟨by omega, by omega⟩ rfl ?_
              refine V_putJ C 19 19 rfl dX9_weighs_58 o9 rfl hin_X9_weighs_X9 tyX9 tyX9_ok nmX9 (by decide) lk_X9_weighs_150 rfl rfl (by decide +kernel) rfl (ptu_r) ?_
              refine V_aload_n C dX9_weighs_61 rfl ?_
              refine V_aload_n C dX9_weighs_62 rfl ?_
              refine V_iload_n C dX9_weighs_63 rfl ?_
              refine V_callVD (nA := 1) C dX9_weighs_64 (m_groupOf C.gp hM (by omega)) gX9_weighs_X9_groupOf rfl o9 rfl (by decide +kernel) rfl (by decide) (by decide) (Nat.le_of_ble_eq_true rfl) ⟨by omega, by omega⟩ rfl ?_
              refine V_iconst C dX9_weighs_67 ?_
              refine V_iload_n C dX9_weighs_68 rfl ?_
              refine V_callVD (nA := 3) C dX9_weighs_69 (m_puts C.gp hM (by omega) 3 (by decide) rfl) gX9_weighs_X9_puts rfl o9 rfl (by decide +kernel) rfl (by decide) (by decide) (Nat.le_of_ble_eq_true rfl) ⟨by omega, by omega⟩ rfl ?_
              refine V_iconst C dX9_weighs_72 ?_
              refine V_ireturn C E dX9_weighs_73 (by omega) (by omega) ?_
              exact Dt_rfl
            · exact bad (Or.inr z3)
        · exact absurd z1 (by decide)
      · rw [if_pos hc, if_neg (by decide)] at E
        rw [inI_0 hc]
        refine V_if_ne C 22 dX9_weighs_17 (by decide) (by omega) (fun z1 => ?_) (fun z1 => ?_)
        · exact absurd rfl z1
        · refine V_iconst C dX9_weighs_20 ?_
          refine V_ireturn C E dX9_weighs_21 (by omega) (by omega) ?_
          exact Dt_rfl
    · exact absurd z0 (by decide)
  · rw [if_pos hb, if_neg (by decide)] at E
    rw [inI_0 hb]
    refine V_if_ne C 10 dX9_weighs_5 (by decide) (by omega) (fun z0 => ?_) (fun z0 => ?_)
    · exact absurd rfl z0
    · refine V_iconst C dX9_weighs_8 ?_
      refine V_ireturn C E dX9_weighs_9 (by omega) (by omega) ?_
      exact Dt_rfl
set_option maxRecDepth 20000 in
theorem ggX9_saves_X9_in : GoodIn wsX9_saves wsX9_in := goodIn_r _ [6] (by decide +kernel) (by decide +kernel)
set_option maxRecDepth 20000 in
theorem gX9_saves_X9_in : GoodIn wsX9_saves (va_wsS RX9 73 yX9_in wsX9_in) := goodIn_app (goodIn_of _ (by decide +kernel)) ggX9_saves_X9_in
theorem dX9_saves_0 : decode cX9_saves 0 = .ok (.iload_n 1, 1) := by decide +kernel
theorem dX9_saves_1 : decode cX9_saves 1 = .ok (.iconst 0, 1) := by decide +kernel
theorem dX9_saves_2 : decode cX9_saves 2 = .ok (.iconst 3, 1) := by decide +kernel
theorem dX9_saves_3 : decode cX9_saves 3 = .ok (.invokestatic 73, 3) := by decide +kernel
theorem dX9_saves_6 : decode cX9_saves 6 = .ok (.ifCond .ne 5, 3) := by decide +kernel
theorem dX9_saves_9 : decode cX9_saves 9 = .ok (.iconst 1, 1) := by decide +kernel
theorem dX9_saves_10 : decode cX9_saves 10 = .ok (.ireturn, 1) := by decide +kernel
theorem dX9_saves_11 : decode cX9_saves 11 = .ok (.sipush 355, 3) := by decide +kernel
theorem dX9_saves_14 : decode cX9_saves 14 = .ok (.sipush 321, 3) := by decide +kernel
theorem dX9_saves_17 : decode cX9_saves 17 = .ok (.iload_n 1, 1) := by decide +kernel
theorem dX9_saves_18 : decode cX9_saves 18 = .ok (.imul, 1) := by decide +kernel
theorem dX9_saves_19 : decode cX9_saves 19 = .ok (.iadd, 1) := by decide +kernel
theorem dX9_saves_20 : decode cX9_saves 20 = .ok (.istore_n 2, 1) := by decide +kernel
theorem dX9_saves_21 : decode cX9_saves 21 = .ok (.aload_n 0, 1) := by decide +kernel
theorem dX9_saves_22 : decode cX9_saves 22 = .ok (.aload_n 0, 1) := by decide +kernel
theorem dX9_saves_23 : decode cX9_saves 23 = .ok (.getfield 7, 3) := by decide +kernel
theorem dX9_saves_26 : decode cX9_saves 26 = .ok (.iload_n 2, 1) := by decide +kernel
theorem dX9_saves_27 : decode cX9_saves 27 = .ok (.iaload, 1) := by decide +kernel
theorem dX9_saves_28 : decode cX9_saves 28 = .ok (.putfield 150, 3) := by decide +kernel
theorem dX9_saves_31 : decode cX9_saves 31 = .ok (.aload_n 0, 1) := by decide +kernel
theorem dX9_saves_32 : decode cX9_saves 32 = .ok (.getfield 7, 3) := by decide +kernel
theorem dX9_saves_35 : decode cX9_saves 35 = .ok (.iload_n 2, 1) := by decide +kernel
theorem dX9_saves_36 : decode cX9_saves 36 = .ok (.iconst 1, 1) := by decide +kernel
theorem dX9_saves_37 : decode cX9_saves 37 = .ok (.iastore, 1) := by decide +kernel
theorem dX9_saves_38 : decode cX9_saves 38 = .ok (.iconst 0, 1) := by decide +kernel
theorem dX9_saves_39 : decode cX9_saves 39 = .ok (.istore_n 3, 1) := by decide +kernel
theorem dX9_saves_40 : decode cX9_saves 40 = .ok (.iload_n 3, 1) := by decide +kernel
theorem dX9_saves_41 : decode cX9_saves 41 = .ok (.sipush 320, 3) := by decide +kernel
theorem dX9_saves_44 : decode cX9_saves 44 = .ok (.if_icmp .ge 28, 3) := by decide +kernel
theorem dX9_saves_47 : decode cX9_saves 47 = .ok (.aload_n 0, 1) := by decide +kernel
theorem dX9_saves_48 : decode cX9_saves 48 = .ok (.getfield 7, 3) := by decide +kernel
theorem dX9_saves_51 : decode cX9_saves 51 = .ok (.iload_n 2, 1) := by decide +kernel
theorem dX9_saves_52 : decode cX9_saves 52 = .ok (.iconst 1, 1) := by decide +kernel
theorem dX9_saves_53 : decode cX9_saves 53 = .ok (.iadd, 1) := by decide +kernel
theorem dX9_saves_54 : decode cX9_saves 54 = .ok (.iload_n 3, 1) := by decide +kernel
theorem dX9_saves_55 : decode cX9_saves 55 = .ok (.iadd, 1) := by decide +kernel
theorem dX9_saves_56 : decode cX9_saves 56 = .ok (.aload_n 0, 1) := by decide +kernel
theorem dX9_saves_57 : decode cX9_saves 57 = .ok (.getfield 7, 3) := by decide +kernel
theorem dX9_saves_60 : decode cX9_saves 60 = .ok (.bipush 35, 2) := by decide +kernel
theorem dX9_saves_62 : decode cX9_saves 62 = .ok (.iload_n 3, 1) := by decide +kernel
theorem dX9_saves_63 : decode cX9_saves 63 = .ok (.iadd, 1) := by decide +kernel
theorem dX9_saves_64 : decode cX9_saves 64 = .ok (.iaload, 1) := by decide +kernel
theorem dX9_saves_65 : decode cX9_saves 65 = .ok (.iastore, 1) := by decide +kernel
theorem dX9_saves_66 : decode cX9_saves 66 = .ok (.iinc 3 1, 3) := by decide +kernel
theorem dX9_saves_69 : decode cX9_saves 69 = .ok (.goto (-29), 3) := by decide +kernel
theorem dX9_saves_72 : decode cX9_saves 72 = .ok (.iconst 0, 1) := by decide +kernel
theorem dX9_saves_73 : decode cX9_saves 73 = .ok (.ireturn, 1) := by decide +kernel
theorem hin_X9_saves_X9 : ∀ w ∈ wsX90, w ∈ wsX9_saves := by decide +kernel
theorem lk_X9_saves_7 : Cond.fieldLink RX9 7 RX9 "s" "[I" ∈ wsX9_saves := by decide +kernel
theorem lk_X9_saves_150 : Cond.fieldLink RX9 150 RX9 "answer" "I" ∈ wsX9_saves := by decide +kernel
theorem m_saves (hG : GP G) (hM : MoS S r) {k : Int} (hk : -2147483648 ≤ k ∧ k ≤ 2147483647) : Ct G l yX9_saves wsX9_saves 1 0 0 [.ref r, .int (I32 k)] S n (ptT mu r T) la (Dt (some (.int (I32 (svF k)))) S n (if svF k = 0 then svB mu r T k else ptT mu r T) la) := by
  have o9 := hM.1
  unfold svF
  refine Ct.ofV (cc := cX9_saves) (nL := 4) (ret := (some .int)) [some (.ref r), some (.int (I32 k)), none, none] hG (by decide) rfl (Nat.le_of_ble_eq_true rfl) rfl ?_
  rintro X rfl rfl C hcl hsl E
  refine V_iload_n C dX9_saves_0 rfl ?_
  refine V_iconst C dX9_saves_1 ?_
  refine V_iconst C dX9_saves_2 ?_
  refine V_callSD (nA := 3) C dX9_saves_3 (m_in C.gp hk (by omega) (by omega)) gX9_saves_X9_in rfl (by decide +kernel) rfl (by decide) (by decide) (Nat.le_of_ble_eq_true rfl) ⟨by omega, by omega⟩ rfl ?_
  by_cases hc : 0 ≤ k ∧ k ≤ 3
  · rw [inI_1 hc]
    rw [if_pos hc, if_pos rfl] at E
    unfold svB at E
    refine V_if_ne C 11 dX9_saves_6 (by decide) (by omega) (fun z1 => ?_) (fun z1 => ?_)
    · have loop : ∀ (M : Mem), En X 0 0 (Dt (some (.int (I32 0))) S n (svP M r (355 + 321 * k) 320) la) → ∀ (d : Nat) (j : Int), j + d = 320 → 0 ≤ j → V X 40 [some (.ref r), some (.int (I32 k)), some (.int (I32 (355 + 321 * k))), some (.int (I32 j))] [] S n (svP M r (355 + 321 * k) j) la 0 0 := by
        intro M E d
        induction d with
        | zero =>
          intro j h1 h2
          have hj : j = 320 := by omega
          subst hj
          refine V_iload_n C dX9_saves_40 rfl ?_
          refine V_sipush C dX9_saves_41 (by decide +kernel) ?_
          refine V_icmp_ge C 72 dX9_saves_44 (by decide) (by omega) (by omega) (fun z44 => ?_) (fun z44 => ?_)
          · refine V_iconst C dX9_saves_72 ?_
            refine V_ireturn C E dX9_saves_73 (by omega) (by omega) ?_
            exact Dt_rfl
          · exact absurd z44 (by first | omega | decide)
        | succ d ih =>
          intro j h1 h2
          have h9 := ih (j + 1) (by omega) (by omega)
          refine V_iload_n C dX9_saves_40 rfl ?_
          refine V_sipush C dX9_saves_41 (by decide +kernel) ?_
          refine V_icmp_ge C 72 dX9_saves_44 (by decide) (by omega) (by omega) (fun z44 => ?_) (fun z44 => ?_)
          · exact absurd z44 (by first | omega | decide)
          · refine V_aload_n C dX9_saves_47 rfl ?_
            refine V_getR C 0 dX9_saves_48 o9 rfl hin_X9_saves_X9 (by decide) lk_X9_saves_7 rfl rfl ?_
            refine V_iload_n C dX9_saves_51 rfl ?_
            refine V_iconst C dX9_saves_52 ?_
            refine V_iadd C dX9_saves_53 ?_
            refine V_iload_n C dX9_saves_54 rfl ?_
            refine V_iadd C dX9_saves_55 ?_
            refine V_aload_n C dX9_saves_56 rfl ?_
            refine V_getR C 0 dX9_saves_57 o9 rfl hin_X9_saves_X9 (by decide) lk_X9_saves_7 rfl rfl ?_
            refine V_bipush C dX9_saves_60 (by decide +kernel) ?_
            refine V_iload_n C dX9_saves_62 rfl ?_
            refine V_iadd C dX9_saves_63 ?_
            refine V_ialdJ C dX9_saves_64 hM.2.1 (by first | assumption | decide) (by omega) (show svP M r (355 + 321 * k) j (r + 1) (35 + j) = M (r + 1) (35 + j) by unfold svP; rw [if_neg (by omega)]) ?_
            refine V_iastJ C dX9_saves_65 hM.2.1 (by first | assumption | decide) (by omega) (svP_s h2) ?_
            refine V_iinc C dX9_saves_66 rfl rfl (by decide) ?_
            refine V_goto C 40 dX9_saves_69 (by decide) ?_
            exact h9
      refine V_sipush C dX9_saves_11 (by decide +kernel) ?_
      refine V_sipush C dX9_saves_14 (by decide +kernel) ?_
      refine V_iload_n C dX9_saves_17 rfl ?_
      refine V_imul C dX9_saves_18 ?_
      refine V_iadd C dX9_saves_19 ?_
      refine V_istore_n C dX9_saves_20 rfl (by decide) ?_
      refine V_aload_n C dX9_saves_21 rfl ?_
      refine V_aload_n C dX9_saves_22 rfl ?_
      refine V_getR C 0 dX9_saves_23 o9 rfl hin_X9_saves_X9 (by decide) lk_X9_saves_7 rfl rfl ?_
      refine V_iload_n C dX9_saves_26 rfl ?_
      refine V_ialdJ C dX9_saves_27 hM.2.1 (by first | assumption | decide) (by omega) (pt_lo (by omega)) ?_
      refine V_putJ C 19 19 rfl dX9_saves_28 o9 rfl hin_X9_saves_X9 tyX9 tyX9_ok nmX9 (by decide) lk_X9_saves_150 rfl rfl (by decide +kernel) rfl (ptu_r) ?_
      refine V_aload_n C dX9_saves_31 rfl ?_
      refine V_getR C 0 dX9_saves_32 o9 rfl hin_X9_saves_X9 (by decide) lk_X9_saves_7 rfl rfl ?_
      refine V_iload_n C dX9_saves_35 rfl ?_
      refine V_iconst C dX9_saves_36 ?_
      refine V_iastJ C dX9_saves_37 hM.2.1 (by first | assumption | decide) (by omega) rfl ?_
      refine V_iconst C dX9_saves_38 ?_
      refine V_istore_n C dX9_saves_39 rfl (by decide) ?_
      have h := loop _ E 320 0 (by omega) (by omega)
      rw [svP_0] at h
      exact h
    · exact absurd z1 (by decide)
  · rw [inI_0 hc]
    rw [if_neg hc, if_neg (by decide)] at E
    refine V_if_ne C 11 dX9_saves_6 (by decide) (by omega) (fun z1 => ?_) (fun z1 => ?_)
    · exact absurd rfl z1
    · refine V_iconst C dX9_saves_9 ?_
      refine V_ireturn C E dX9_saves_10 (by omega) (by omega) ?_
      exact Dt_rfl
set_option maxRecDepth 20000 in
theorem ggX9_brings_X9_in : GoodIn wsX9_brings wsX9_in := goodIn_r _ [6] (by decide +kernel) (by decide +kernel)
set_option maxRecDepth 20000 in
theorem gX9_brings_X9_in : GoodIn wsX9_brings (va_wsS RX9 73 yX9_in wsX9_in) := goodIn_app (goodIn_of _ (by decide +kernel)) ggX9_brings_X9_in
set_option maxRecDepth 20000 in
theorem ggX9_brings_X9_groupOf : GoodIn wsX9_brings wsX9_groupOf := goodIn_r _ [10, 1, 11, 12, 13, 14, 15, 16, 17, 18, 19, 20, 21, 22, 23, 24, 25, 26, 27, 28, 29, 30, 31, 32, 33, 34] (by decide +kernel) (by decide +kernel)
set_option maxRecDepth 20000 in
theorem gX9_brings_X9_groupOf : GoodIn wsX9_brings (wsV RX9 85 RX9 yX9_groupOf wsX9_groupOf) := goodIn_app (goodIn_of _ (by decide +kernel)) ggX9_brings_X9_groupOf
theorem dX9_brings_0 : decode cX9_brings 0 = .ok (.iload_n 1, 1) := by decide +kernel
theorem dX9_brings_1 : decode cX9_brings 1 = .ok (.iconst 0, 1) := by decide +kernel
theorem dX9_brings_2 : decode cX9_brings 2 = .ok (.iconst 3, 1) := by decide +kernel
theorem dX9_brings_3 : decode cX9_brings 3 = .ok (.invokestatic 73, 3) := by decide +kernel
theorem dX9_brings_6 : decode cX9_brings 6 = .ok (.ifCond .ne 5, 3) := by decide +kernel
theorem dX9_brings_9 : decode cX9_brings 9 = .ok (.iconst 1, 1) := by decide +kernel
theorem dX9_brings_10 : decode cX9_brings 10 = .ok (.ireturn, 1) := by decide +kernel
theorem dX9_brings_11 : decode cX9_brings 11 = .ok (.sipush 355, 3) := by decide +kernel
theorem dX9_brings_14 : decode cX9_brings 14 = .ok (.sipush 321, 3) := by decide +kernel
theorem dX9_brings_17 : decode cX9_brings 17 = .ok (.iload_n 1, 1) := by decide +kernel
theorem dX9_brings_18 : decode cX9_brings 18 = .ok (.imul, 1) := by decide +kernel
theorem dX9_brings_19 : decode cX9_brings 19 = .ok (.iadd, 1) := by decide +kernel
theorem dX9_brings_20 : decode cX9_brings 20 = .ok (.istore_n 2, 1) := by decide +kernel
theorem dX9_brings_21 : decode cX9_brings 21 = .ok (.aload_n 0, 1) := by decide +kernel
theorem dX9_brings_22 : decode cX9_brings 22 = .ok (.getfield 7, 3) := by decide +kernel
theorem dX9_brings_25 : decode cX9_brings 25 = .ok (.iload_n 2, 1) := by decide +kernel
theorem dX9_brings_26 : decode cX9_brings 26 = .ok (.iaload, 1) := by decide +kernel
theorem dX9_brings_27 : decode cX9_brings 27 = .ok (.ifCond .ne 5, 3) := by decide +kernel
theorem dX9_brings_30 : decode cX9_brings 30 = .ok (.iconst 2, 1) := by decide +kernel
theorem dX9_brings_31 : decode cX9_brings 31 = .ok (.ireturn, 1) := by decide +kernel
theorem dX9_brings_32 : decode cX9_brings 32 = .ok (.iconst 0, 1) := by decide +kernel
theorem dX9_brings_33 : decode cX9_brings 33 = .ok (.istore_n 3, 1) := by decide +kernel
theorem dX9_brings_34 : decode cX9_brings 34 = .ok (.iload_n 3, 1) := by decide +kernel
theorem dX9_brings_35 : decode cX9_brings 35 = .ok (.sipush 320, 3) := by decide +kernel
theorem dX9_brings_38 : decode cX9_brings 38 = .ok (.if_icmp .ge 28, 3) := by decide +kernel
theorem dX9_brings_41 : decode cX9_brings 41 = .ok (.aload_n 0, 1) := by decide +kernel
theorem dX9_brings_42 : decode cX9_brings 42 = .ok (.getfield 7, 3) := by decide +kernel
theorem dX9_brings_45 : decode cX9_brings 45 = .ok (.bipush 35, 2) := by decide +kernel
theorem dX9_brings_47 : decode cX9_brings 47 = .ok (.iload_n 3, 1) := by decide +kernel
theorem dX9_brings_48 : decode cX9_brings 48 = .ok (.iadd, 1) := by decide +kernel
theorem dX9_brings_49 : decode cX9_brings 49 = .ok (.aload_n 0, 1) := by decide +kernel
theorem dX9_brings_50 : decode cX9_brings 50 = .ok (.getfield 7, 3) := by decide +kernel
theorem dX9_brings_53 : decode cX9_brings 53 = .ok (.iload_n 2, 1) := by decide +kernel
theorem dX9_brings_54 : decode cX9_brings 54 = .ok (.iconst 1, 1) := by decide +kernel
theorem dX9_brings_55 : decode cX9_brings 55 = .ok (.iadd, 1) := by decide +kernel
theorem dX9_brings_56 : decode cX9_brings 56 = .ok (.iload_n 3, 1) := by decide +kernel
theorem dX9_brings_57 : decode cX9_brings 57 = .ok (.iadd, 1) := by decide +kernel
theorem dX9_brings_58 : decode cX9_brings 58 = .ok (.iaload, 1) := by decide +kernel
theorem dX9_brings_59 : decode cX9_brings 59 = .ok (.iastore, 1) := by decide +kernel
theorem dX9_brings_60 : decode cX9_brings 60 = .ok (.iinc 3 1, 3) := by decide +kernel
theorem dX9_brings_63 : decode cX9_brings 63 = .ok (.goto (-29), 3) := by decide +kernel
theorem dX9_brings_66 : decode cX9_brings 66 = .ok (.aload_n 0, 1) := by decide +kernel
theorem dX9_brings_67 : decode cX9_brings 67 = .ok (.iconst 0, 1) := by decide +kernel
theorem dX9_brings_68 : decode cX9_brings 68 = .ok (.putfield 150, 3) := by decide +kernel
theorem dX9_brings_71 : decode cX9_brings 71 = .ok (.iconst 0, 1) := by decide +kernel
theorem dX9_brings_72 : decode cX9_brings 72 = .ok (.istore_n 3, 1) := by decide +kernel
theorem dX9_brings_73 : decode cX9_brings 73 = .ok (.iload_n 3, 1) := by decide +kernel
theorem dX9_brings_74 : decode cX9_brings 74 = .ok (.aload_n 0, 1) := by decide +kernel
theorem dX9_brings_75 : decode cX9_brings 75 = .ok (.getfield 7, 3) := by decide +kernel
theorem dX9_brings_78 : decode cX9_brings 78 = .ok (.iconst 2, 1) := by decide +kernel
theorem dX9_brings_79 : decode cX9_brings 79 = .ok (.iaload, 1) := by decide +kernel
theorem dX9_brings_80 : decode cX9_brings 80 = .ok (.if_icmp .ge 32, 3) := by decide +kernel
theorem dX9_brings_83 : decode cX9_brings 83 = .ok (.aload_n 0, 1) := by decide +kernel
theorem dX9_brings_84 : decode cX9_brings 84 = .ok (.dup, 1) := by decide +kernel
theorem dX9_brings_85 : decode cX9_brings 85 = .ok (.getfield 150, 3) := by decide +kernel
theorem dX9_brings_88 : decode cX9_brings 88 = .ok (.aload_n 0, 1) := by decide +kernel
theorem dX9_brings_89 : decode cX9_brings 89 = .ok (.iload_n 3, 1) := by decide +kernel
theorem dX9_brings_90 : decode cX9_brings 90 = .ok (.invokevirtual 85, 3) := by decide +kernel
theorem dX9_brings_93 : decode cX9_brings 93 = .ok (.iconst (-1), 1) := by decide +kernel
theorem dX9_brings_94 : decode cX9_brings 94 = .ok (.if_icmp .ne 7, 3) := by decide +kernel
theorem dX9_brings_97 : decode cX9_brings 97 = .ok (.iconst 0, 1) := by decide +kernel
theorem dX9_brings_98 : decode cX9_brings 98 = .ok (.goto 4, 3) := by decide +kernel
theorem dX9_brings_101 : decode cX9_brings 101 = .ok (.iconst 1, 1) := by decide +kernel
theorem dX9_brings_102 : decode cX9_brings 102 = .ok (.iadd, 1) := by decide +kernel
theorem dX9_brings_103 : decode cX9_brings 103 = .ok (.putfield 150, 3) := by decide +kernel
theorem dX9_brings_106 : decode cX9_brings 106 = .ok (.iinc 3 1, 3) := by decide +kernel
theorem dX9_brings_109 : decode cX9_brings 109 = .ok (.goto (-36), 3) := by decide +kernel
theorem dX9_brings_112 : decode cX9_brings 112 = .ok (.iconst 0, 1) := by decide +kernel
theorem dX9_brings_113 : decode cX9_brings 113 = .ok (.ireturn, 1) := by decide +kernel
theorem hin_X9_brings_X9 : ∀ w ∈ wsX90, w ∈ wsX9_brings := by decide +kernel
theorem lk_X9_brings_7 : Cond.fieldLink RX9 7 RX9 "s" "[I" ∈ wsX9_brings := by decide +kernel
theorem lk_X9_brings_150 : Cond.fieldLink RX9 150 RX9 "answer" "I" ∈ wsX9_brings := by decide +kernel
theorem m_brings (hG : GP G) (hM : MoS S r) (hR : R32 mu) (hP : 0 ≤ mu (r + 1) 2 ∧ mu (r + 1) 2 ≤ 16) {k : Int} (hk : -2147483648 ≤ k ∧ k ≤ 2147483647) : Ct G l yX9_brings wsX9_brings 1 0 0 [.ref r, .int (I32 k)] S n (ptT mu r T) la (Dt (some (.int (I32 (brF mu r k)))) S n (if brF mu r k = 0 then brB mu r k else ptT mu r T) la) := by
  have o9 := hM.1
  unfold brF
  refine Ct.ofV (cc := cX9_brings) (nL := 4) (ret := (some .int)) [some (.ref r), some (.int (I32 k)), none, none] hG (by decide) rfl (Nat.le_of_ble_eq_true rfl) rfl ?_
  rintro X rfl rfl C hcl hsl E
  refine V_iload_n C dX9_brings_0 rfl ?_
  refine V_iconst C dX9_brings_1 ?_
  refine V_iconst C dX9_brings_2 ?_
  refine V_callSD (nA := 3) C dX9_brings_3 (m_in C.gp hk (by omega) (by omega)) gX9_brings_X9_in rfl (by decide +kernel) rfl (by decide) (by decide) (Nat.le_of_ble_eq_true rfl) ⟨by omega, by omega⟩ rfl ?_
  by_cases hc : 0 ≤ k ∧ k ≤ 3
  · rw [inI_1 hc]
    rw [if_neg (fun q => q hc)] at E
    have h0 := hR (r + 1) (355 + 321 * k)
    refine V_if_ne C 11 dX9_brings_6 (by decide) (by omega) (fun z1 => ?_) (fun z1 => ?_)
    · refine V_sipush C dX9_brings_11 (by decide +kernel) ?_
      refine V_sipush C dX9_brings_14 (by decide +kernel) ?_
      refine V_iload_n C dX9_brings_17 rfl ?_
      refine V_imul C dX9_brings_18 ?_
      refine V_iadd C dX9_brings_19 ?_
      refine V_istore_n C dX9_brings_20 rfl (by decide) ?_
      refine V_aload_n C dX9_brings_21 rfl ?_
      refine V_getR C 0 dX9_brings_22 o9 rfl hin_X9_brings_X9 (by decide) lk_X9_brings_7 rfl rfl ?_
      refine V_iload_n C dX9_brings_25 rfl ?_
      refine V_ialdJ C dX9_brings_26 hM.2.1 (by first | assumption | decide) (by omega) (pt_lo (by omega)) ?_
      refine V_if_ne C 32 dX9_brings_27 (by decide) (by omega) (fun z2 => ?_) (fun z2 => ?_)
      · rw [if_neg z2, if_pos rfl] at E
        unfold brB at E
        generalize eT : trO mu r (355 + 321 * k + 1) = T2 at E
        have loop2 : ∀ (d j : Nat), j + d = (mu (r + 1) 2).toNat → V X 73 [some (.ref r), some (.int (I32 k)), some (.int (I32 (355 + 321 * k))), some (.int (I32 (j : Int)))] [] S n (ptT (up mu r 19 (smG (opn T2) j)) r T2) la 0 0 := by
          intro d
          induction d with
          | zero =>
            intro j h1
            have hj : j = (mu (r + 1) 2).toNat := by omega
            subst hj
            refine V_iload_n C dX9_brings_73 rfl ?_
            refine V_aload_n C dX9_brings_74 rfl ?_
            refine V_getR C 0 dX9_brings_75 o9 rfl hin_X9_brings_X9 (by decide) lk_X9_brings_7 rfl rfl ?_
            refine V_iconst C dX9_brings_78 ?_
            refine V_ialdJ C dX9_brings_79 hM.2.1 (by first | assumption | decide) (by omega) ((pt_lo (by decide)).trans (up_a _ _ _ _ (by omega))) ?_
            refine V_icmp_ge C 112 dX9_brings_80 (by decide) (by omega) (by omega) (fun z80 => ?_) (fun z80 => ?_)
            · refine V_iconst C dX9_brings_112 ?_
              refine V_ireturn C E dX9_brings_113 (by omega) (by omega) ?_
              exact Dt_rfl
            · exact absurd z80 (by first | omega | decide)
          | succ d ih =>
            intro j h1
            have h9 := ih (j + 1) (by omega)
            rw [smG] at h9
            have b9 : -2147483648 ≤ T2 9 j ∧ T2 9 j ≤ 2147483647 := by
              rw [← eT]
              unfold trO
              rw [if_neg (by decide), if_pos rfl]
              exact hR _ _
            refine V_iload_n C dX9_brings_73 rfl ?_
            refine V_aload_n C dX9_brings_74 rfl ?_
            refine V_getR C 0 dX9_brings_75 o9 rfl hin_X9_brings_X9 (by decide) lk_X9_brings_7 rfl rfl ?_
            refine V_iconst C dX9_brings_78 ?_
            refine V_ialdJ C dX9_brings_79 hM.2.1 (by first | assumption | decide) (by omega) ((pt_lo (by decide)).trans (up_a _ _ _ _ (by omega))) ?_
            refine V_icmp_ge C 112 dX9_brings_80 (by decide) (by omega) (by omega) (fun z80 => ?_) (fun z80 => ?_)
            · exact absurd z80 (by first | omega | decide)
            · refine V_aload_n C dX9_brings_83 rfl ?_
              refine V_dup C dX9_brings_84 rfl ?_
              refine V_getJ C 19 19 rfl dX9_brings_85 o9 rfl hin_X9_brings_X9 (by decide) lk_X9_brings_150 rfl rfl (pt_r.trans (up_s _ _ _ _)) ?_
              refine V_aload_n C dX9_brings_88 rfl ?_
              refine V_iload_n C dX9_brings_89 rfl ?_
              refine V_callVD (nA := 1) C dX9_brings_90 (m_groupOf C.gp hM (by omega)) gX9_brings_X9_groupOf rfl o9 rfl (by decide +kernel) rfl (by decide) (by decide) (Nat.le_of_ble_eq_true rfl) ⟨by omega, by omega⟩ rfl ?_
              refine V_iconst C dX9_brings_93 ?_
              refine V_icmp_ne C 101 dX9_brings_94 (by decide) (by omega) (by omega) (fun z94 => ?_) (fun z94 => ?_)
              · rw [show opn T2 j = 1 by unfold opn; rw [if_neg (by assumption)]] at h9
                refine V_iconst C dX9_brings_101 ?_
                refine V_iadd C dX9_brings_102 ?_
                refine V_putJ C 19 19 rfl dX9_brings_103 o9 rfl hin_X9_brings_X9 tyX9 tyX9_ok nmX9 (by decide) lk_X9_brings_150 rfl rfl (by decide +kernel) rfl (ptu_rr) ?_
                refine V_iinc C dX9_brings_106 rfl rfl (by decide) ?_
                refine V_goto C 73 dX9_brings_109 (by decide) ?_
                exact h9
              · rw [show opn T2 j = 0 by unfold opn; rw [if_pos (by assumption)]] at h9
                refine V_iconst C dX9_brings_97 ?_
                refine V_goto C 102 dX9_brings_98 (by decide) ?_
                refine V_iadd C dX9_brings_102 ?_
                refine V_putJ C 19 19 rfl dX9_brings_103 o9 rfl hin_X9_brings_X9 tyX9 tyX9_ok nmX9 (by decide) lk_X9_brings_150 rfl rfl (by decide +kernel) rfl (ptu_rr) ?_
                refine V_iinc C dX9_brings_106 rfl rfl (by decide) ?_
                refine V_goto C 73 dX9_brings_109 (by decide) ?_
                exact h9
        have loop : ∀ (d : Nat) (j : Int), j + d = 320 → 0 ≤ j → V X 34 [some (.ref r), some (.int (I32 k)), some (.int (I32 (355 + 321 * k))), some (.int (I32 j))] [] S n (brP (ptT mu r T) r (355 + 321 * k) j) la 0 0 := by
          intro d
          induction d with
          | zero =>
            intro j h1 h2
            have hj : j = 320 := by omega
            subst hj
            rw [brP_pt (by omega), eT]
            refine V_iload_n C dX9_brings_34 rfl ?_
            refine V_sipush C dX9_brings_35 (by decide +kernel) ?_
            refine V_icmp_ge C 66 dX9_brings_38 (by decide) (by omega) (by omega) (fun z38 => ?_) (fun z38 => ?_)
            · refine V_aload_n C dX9_brings_66 rfl ?_
              refine V_iconst C dX9_brings_67 ?_
              refine V_putJ C 19 19 rfl dX9_brings_68 o9 rfl hin_X9_brings_X9 tyX9 tyX9_ok nmX9 (by decide) lk_X9_brings_150 rfl rfl (by decide +kernel) rfl (ptu_r) ?_
              refine V_iconst C dX9_brings_71 ?_
              refine V_istore_n C dX9_brings_72 rfl (by decide) ?_
              exact loop2 (mu (r + 1) 2).toNat 0 (by omega)
            · exact absurd z38 (by first | omega | decide)
          | succ d ih =>
            intro j h1 h2
            have h9 := ih (j + 1) (by omega) (by omega)
            refine V_iload_n C dX9_brings_34 rfl ?_
            refine V_sipush C dX9_brings_35 (by decide +kernel) ?_
            refine V_icmp_ge C 66 dX9_brings_38 (by decide) (by omega) (by omega) (fun z38 => ?_) (fun z38 => ?_)
            · exact absurd z38 (by first | omega | decide)
            · refine V_aload_n C dX9_brings_41 rfl ?_
              refine V_getR C 0 dX9_brings_42 o9 rfl hin_X9_brings_X9 (by decide) lk_X9_brings_7 rfl rfl ?_
              refine V_bipush C dX9_brings_45 (by decide +kernel) ?_
              refine V_iload_n C dX9_brings_47 rfl ?_
              refine V_iadd C dX9_brings_48 ?_
              refine V_aload_n C dX9_brings_49 rfl ?_
              refine V_getR C 0 dX9_brings_50 o9 rfl hin_X9_brings_X9 (by decide) lk_X9_brings_7 rfl rfl ?_
              refine V_iload_n C dX9_brings_53 rfl ?_
              refine V_iconst C dX9_brings_54 ?_
              refine V_iadd C dX9_brings_55 ?_
              refine V_iload_n C dX9_brings_56 rfl ?_
              refine V_iadd C dX9_brings_57 ?_
              refine V_ialdJ C dX9_brings_58 hM.2.1 (by first | assumption | decide) (by omega) (show brP (ptT mu r T) r (355 + 321 * k) j (r + 1) (355 + 321 * k + 1 + j) = (ptT mu r T) (r + 1) (355 + 321 * k + 1 + j) by unfold brP; rw [if_neg (by omega)]) ?_
              refine V_iastJ C dX9_brings_59 hM.2.1 (by first | assumption | decide) (by omega) (brP_s h2) ?_
              refine V_iinc C dX9_brings_60 rfl rfl (by decide) ?_
              refine V_goto C 34 dX9_brings_63 (by decide) ?_
              exact h9
        refine V_iconst C dX9_brings_32 ?_
        refine V_istore_n C dX9_brings_33 rfl (by decide) ?_
        have h := loop 320 0 (by omega) (by omega)
        rw [brP_0] at h
        exact h
      · rw [if_pos z2, if_neg (by decide)] at E
        refine V_iconst C dX9_brings_30 ?_
        refine V_ireturn C E dX9_brings_31 (by omega) (by omega) ?_
        exact Dt_rfl
    · exact absurd z1 (by decide)
  · rw [inI_0 hc]
    rw [if_pos hc, if_neg (by decide)] at E
    refine V_if_ne C 11 dX9_brings_6 (by decide) (by omega) (fun z1 => ?_) (fun z1 => ?_)
    · exact absurd rfl z1
    · refine V_iconst C dX9_brings_9 ?_
      refine V_ireturn C E dX9_brings_10 (by omega) (by omega) ?_
      exact Dt_rfl
set_option maxRecDepth 20000 in
theorem ggX9_ends_X9_tells : GoodIn wsX9_ends wsX9_tells := goodIn_r _ [8, 9, 10, 11, 12, 13, 14, 15, 16, 17, 18, 19, 20, 21, 22, 23, 24, 25, 26, 27, 28, 29, 30, 31, 32, 33] (by decide +kernel) (by decide +kernel)
set_option maxRecDepth 20000 in
theorem gX9_ends_X9_tells : GoodIn wsX9_ends (wsV RX9 69 RX9 yX9_tells wsX9_tells) := goodIn_app (goodIn_of _ (by decide +kernel)) ggX9_ends_X9_tells
theorem dX9_ends_0 : decode cX9_ends 0 = .ok (.aload_n 0, 1) := by decide +kernel
theorem dX9_ends_1 : decode cX9_ends 1 = .ok (.getfield 66, 3) := by decide +kernel
theorem dX9_ends_4 : decode cX9_ends 4 = .ok (.iconst 4, 1) := by decide +kernel
theorem dX9_ends_5 : decode cX9_ends 5 = .ok (.if_icmp .ne 44, 3) := by decide +kernel
theorem dX9_ends_8 : decode cX9_ends 8 = .ok (.iconst 0, 1) := by decide +kernel
theorem dX9_ends_9 : decode cX9_ends 9 = .ok (.istore_n 2, 1) := by decide +kernel
theorem dX9_ends_10 : decode cX9_ends 10 = .ok (.iload_n 2, 1) := by decide +kernel
theorem dX9_ends_11 : decode cX9_ends 11 = .ok (.sipush 4917, 3) := by decide +kernel
theorem dX9_ends_14 : decode cX9_ends 14 = .ok (.if_icmp .ge 25, 3) := by decide +kernel
theorem dX9_ends_17 : decode cX9_ends 17 = .ok (.aload_n 0, 1) := by decide +kernel
theorem dX9_ends_18 : decode cX9_ends 18 = .ok (.getfield 13, 3) := by decide +kernel
theorem dX9_ends_21 : decode cX9_ends 21 = .ok (.iload_n 2, 1) := by decide +kernel
theorem dX9_ends_22 : decode cX9_ends 22 = .ok (.aload_n 0, 1) := by decide +kernel
theorem dX9_ends_23 : decode cX9_ends 23 = .ok (.getfield 13, 3) := by decide +kernel
theorem dX9_ends_26 : decode cX9_ends 26 = .ok (.iload_n 2, 1) := by decide +kernel
theorem dX9_ends_27 : decode cX9_ends 27 = .ok (.sipush 1639, 3) := by decide +kernel
theorem dX9_ends_30 : decode cX9_ends 30 = .ok (.iadd, 1) := by decide +kernel
theorem dX9_ends_31 : decode cX9_ends 31 = .ok (.iaload, 1) := by decide +kernel
theorem dX9_ends_32 : decode cX9_ends 32 = .ok (.iastore, 1) := by decide +kernel
theorem dX9_ends_33 : decode cX9_ends 33 = .ok (.iinc 2 1, 3) := by decide +kernel
theorem dX9_ends_36 : decode cX9_ends 36 = .ok (.goto (-26), 3) := by decide +kernel
theorem dX9_ends_39 : decode cX9_ends 39 = .ok (.aload_n 0, 1) := by decide +kernel
theorem dX9_ends_40 : decode cX9_ends 40 = .ok (.dup, 1) := by decide +kernel
theorem dX9_ends_41 : decode cX9_ends 41 = .ok (.getfield 66, 3) := by decide +kernel
theorem dX9_ends_44 : decode cX9_ends 44 = .ok (.iconst 1, 1) := by decide +kernel
theorem dX9_ends_45 : decode cX9_ends 45 = .ok (.isub, 1) := by decide +kernel
theorem dX9_ends_46 : decode cX9_ends 46 = .ok (.putfield 66, 3) := by decide +kernel
theorem dX9_ends_49 : decode cX9_ends 49 = .ok (.iconst 0, 1) := by decide +kernel
theorem dX9_ends_50 : decode cX9_ends 50 = .ok (.istore_n 2, 1) := by decide +kernel
theorem dX9_ends_51 : decode cX9_ends 51 = .ok (.iload_n 2, 1) := by decide +kernel
theorem dX9_ends_52 : decode cX9_ends 52 = .ok (.sipush 1639, 3) := by decide +kernel
theorem dX9_ends_55 : decode cX9_ends 55 = .ok (.if_icmp .ge 30, 3) := by decide +kernel
theorem dX9_ends_58 : decode cX9_ends 58 = .ok (.aload_n 0, 1) := by decide +kernel
theorem dX9_ends_59 : decode cX9_ends 59 = .ok (.getfield 13, 3) := by decide +kernel
theorem dX9_ends_62 : decode cX9_ends 62 = .ok (.sipush 1639, 3) := by decide +kernel
theorem dX9_ends_65 : decode cX9_ends 65 = .ok (.aload_n 0, 1) := by decide +kernel
theorem dX9_ends_66 : decode cX9_ends 66 = .ok (.getfield 66, 3) := by decide +kernel
theorem dX9_ends_69 : decode cX9_ends 69 = .ok (.imul, 1) := by decide +kernel
theorem dX9_ends_70 : decode cX9_ends 70 = .ok (.iload_n 2, 1) := by decide +kernel
theorem dX9_ends_71 : decode cX9_ends 71 = .ok (.iadd, 1) := by decide +kernel
theorem dX9_ends_72 : decode cX9_ends 72 = .ok (.aload_n 0, 1) := by decide +kernel
theorem dX9_ends_73 : decode cX9_ends 73 = .ok (.getfield 16, 3) := by decide +kernel
theorem dX9_ends_76 : decode cX9_ends 76 = .ok (.iload_n 2, 1) := by decide +kernel
theorem dX9_ends_77 : decode cX9_ends 77 = .ok (.iaload, 1) := by decide +kernel
theorem dX9_ends_78 : decode cX9_ends 78 = .ok (.iastore, 1) := by decide +kernel
theorem dX9_ends_79 : decode cX9_ends 79 = .ok (.iinc 2 1, 3) := by decide +kernel
theorem dX9_ends_82 : decode cX9_ends 82 = .ok (.goto (-31), 3) := by decide +kernel
theorem dX9_ends_85 : decode cX9_ends 85 = .ok (.aload_n 0, 1) := by decide +kernel
theorem dX9_ends_86 : decode cX9_ends 86 = .ok (.dup, 1) := by decide +kernel
theorem dX9_ends_87 : decode cX9_ends 87 = .ok (.getfield 66, 3) := by decide +kernel
theorem dX9_ends_90 : decode cX9_ends 90 = .ok (.iconst 1, 1) := by decide +kernel
theorem dX9_ends_91 : decode cX9_ends 91 = .ok (.iadd, 1) := by decide +kernel
theorem dX9_ends_92 : decode cX9_ends 92 = .ok (.putfield 66, 3) := by decide +kernel
theorem dX9_ends_95 : decode cX9_ends 95 = .ok (.aload_n 0, 1) := by decide +kernel
theorem dX9_ends_96 : decode cX9_ends 96 = .ok (.iload_n 1, 1) := by decide +kernel
theorem dX9_ends_97 : decode cX9_ends 97 = .ok (.invokevirtual 69, 3) := by decide +kernel
theorem dX9_ends_100 : decode cX9_ends 100 = .ok (.ireturn, 1) := by decide +kernel
theorem hin_X9_ends_X9 : ∀ w ∈ wsX90, w ∈ wsX9_ends := by decide +kernel
theorem lk_X9_ends_66 : Cond.fieldLink RX9 66 RX9 "pasts" "I" ∈ wsX9_ends := by decide +kernel
theorem lk_X9_ends_13 : Cond.fieldLink RX9 13 RX9 "past" "[I" ∈ wsX9_ends := by decide +kernel
theorem lk_X9_ends_16 : Cond.fieldLink RX9 16 RX9 "aside" "[I" ∈ wsX9_ends := by decide +kernel
def shP (mu : Mem) (r : Nat) (j : Int) : Mem := fun a i => if a = r + 2 ∧ 0 ≤ i ∧ i < j then mu (r + 2) (i + 1639) else mu a i
def pcP (mu : Mem) (r : Nat) (q j : Int) : Mem := fun a i => if a = r + 2 ∧ 1639 * q ≤ i ∧ i < 1639 * q + j then mu (r + 3) (i - 1639 * q) else mu a i
def en1 (mu : Mem) (r : Nat) : Mem := if mu r 4 = 4 then up (shP mu r 4917) r 4 (4 - 1) else mu
def en2 (mu : Mem) (r : Nat) : Mem := up (up (pcP mu r (mu r 4) 1639) r 4 (mu r 4 + 1)) r 7 0
def enM (mu : Mem) (r : Nat) : Mem := en2 (en1 mu r) r
theorem shP_0 (mu : Mem) (r : Nat) : shP mu r 0 = mu := by funext a i; unfold shP; rw [if_neg (by omega)]
theorem pcP_0 (mu : Mem) (r : Nat) (q : Int) : pcP mu r q 0 = mu := by funext a i; unfold pcP; rw [if_neg (by omega)]
theorem shP_s {mu : Mem} {r : Nat} {j : Int} (hj : 0 ≤ j) : up (shP mu r j) (r + 2) j (mu (r + 2) (j + 1639)) = shP mu r (j + 1) := by
  funext a i
  unfold up shP
  try dsimp only
  by_cases h : a = r + 2 ∧ i = j
  · rw [if_pos h, if_pos (by omega), h.2]
  · rw [if_neg h]
    by_cases h2 : a = r + 2 ∧ 0 ≤ i ∧ i < j
    · rw [if_pos h2, if_pos (by omega)]
    · rw [if_neg h2, if_neg (by omega)]
theorem pcP_s {mu : Mem} {r : Nat} {q j : Int} (hj : 0 ≤ j) : up (pcP mu r q j) (r + 2) (1639 * q + j) (mu (r + 3) j) = pcP mu r q (j + 1) := by
  funext a i
  unfold up pcP
  try dsimp only
  by_cases h : a = r + 2 ∧ i = 1639 * q + j
  · rw [if_pos h, if_pos (by omega), show i - 1639 * q = j by omega]
  · rw [if_neg h]
    by_cases h2 : a = r + 2 ∧ 1639 * q ≤ i ∧ i < 1639 * q + j
    · rw [if_pos h2, if_pos (by omega)]
    · rw [if_neg h2, if_neg (by omega)]
theorem pcP_r {mu : Mem} {r : Nat} {q j i : Int} : pcP mu r q j r i = mu r i := by unfold pcP; rw [if_neg (by omega)]
theorem shP_r {mu : Mem} {r : Nat} {j i : Int} : shP mu r j r i = mu r i := by unfold shP; rw [if_neg (by omega)]
theorem m_ends (hG : GP G) (hM : MoS S r) (hq : 0 ≤ mu r 4 ∧ mu r 4 ≤ 4) {v : Int} : Ct G l yX9_ends wsX9_ends 1 0 0 [.ref r, .int (I32 v)] S n mu la (Dt (some (.int (I32 v))) S n (enM mu r) la) := by
  have o9 := hM.1
  unfold enM
  refine Ct.ofV (cc := cX9_ends) (nL := 3) (ret := (some .int)) [some (.ref r), some (.int (I32 v)), none] hG (by decide) rfl (Nat.le_of_ble_eq_true rfl) rfl ?_
  rintro X rfl rfl C hcl hsl E
  have rest : ∀ (M : Mem) (w2 : Option Value), 0 ≤ M r 4 ∧ M r 4 ≤ 3 → En X 0 0 (Dt (some (.int (I32 v))) S n (en2 M r) la) → V X 49 [some (.ref r), some (.int (I32 v)), w2] [] S n M la 0 0 := by
    intro M w2 hm E
    unfold en2 at E
    have loop : ∀ (d : Nat) (j : Int), j + d = 1639 → 0 ≤ j → V X 51 [some (.ref r), some (.int (I32 v)), some (.int (I32 j))] [] S n (pcP M r (M r 4) j) la 0 0 := by
      intro d
      induction d with
      | zero =>
        intro j h1 h2
        have hj : j = 1639 := by omega
        subst hj
        refine V_iload_n C dX9_ends_51 rfl ?_
        refine V_sipush C dX9_ends_52 (by decide +kernel) ?_
        refine V_icmp_ge C 85 dX9_ends_55 (by decide) (by omega) (by omega) (fun z55 => ?_) (fun z55 => ?_)
        · refine V_aload_n C dX9_ends_85 rfl ?_
          refine V_dup C dX9_ends_86 rfl ?_
          refine V_getJ C 4 4 rfl dX9_ends_87 o9 rfl hin_X9_ends_X9 (by decide) lk_X9_ends_66 rfl rfl (pcP_r) ?_
          refine V_iconst C dX9_ends_90 ?_
          refine V_iadd C dX9_ends_91 ?_
          refine V_putJ C 4 4 rfl dX9_ends_92 o9 rfl hin_X9_ends_X9 tyX9 tyX9_ok nmX9 (by decide) lk_X9_ends_66 rfl rfl (by decide +kernel) rfl rfl ?_
          refine V_aload_n C dX9_ends_95 rfl ?_
          refine V_iload_n C dX9_ends_96 rfl ?_
          refine V_callVD (nA := 1) C dX9_ends_97 (m_tells C.gp hM) gX9_ends_X9_tells rfl o9 rfl (by decide +kernel) rfl (by decide) (by decide) (Nat.le_of_ble_eq_true rfl) ⟨by omega, by omega⟩ rfl ?_
          refine V_ireturn C E dX9_ends_100 (by omega) (by omega) ?_
          exact Dt_rfl
        · exact absurd z55 (by first | omega | decide)
      | succ d ih =>
        intro j h1 h2
        have h9 := ih (j + 1) (by omega) (by omega)
        refine V_iload_n C dX9_ends_51 rfl ?_
        refine V_sipush C dX9_ends_52 (by decide +kernel) ?_
        refine V_icmp_ge C 85 dX9_ends_55 (by decide) (by omega) (by omega) (fun z55 => ?_) (fun z55 => ?_)
        · exact absurd z55 (by first | omega | decide)
        · refine V_aload_n C dX9_ends_58 rfl ?_
          refine V_getR C 1 dX9_ends_59 o9 rfl hin_X9_ends_X9 (by decide) lk_X9_ends_13 rfl rfl ?_
          refine V_sipush C dX9_ends_62 (by decide +kernel) ?_
          refine V_aload_n C dX9_ends_65 rfl ?_
          refine V_getJ C 4 4 rfl dX9_ends_66 o9 rfl hin_X9_ends_X9 (by decide) lk_X9_ends_66 rfl rfl (pcP_r) ?_
          refine V_imul C dX9_ends_69 ?_
          refine V_iload_n C dX9_ends_70 rfl ?_
          refine V_iadd C dX9_ends_71 ?_
          refine V_aload_n C dX9_ends_72 rfl ?_
          refine V_getR C 2 dX9_ends_73 o9 rfl hin_X9_ends_X9 (by decide) lk_X9_ends_16 rfl rfl ?_
          refine V_iload_n C dX9_ends_76 rfl ?_
          refine V_ialdJ C dX9_ends_77 hM.2.2.2.1 (by first | assumption | decide) (by omega) (show pcP M r (M r 4) j (r + 3) j = M (r + 3) j by unfold pcP; rw [if_neg (by omega)]) ?_
          refine V_iastJ C dX9_ends_78 hM.2.2.1 (by first | assumption | decide) (by omega) (pcP_s h2) ?_
          refine V_iinc C dX9_ends_79 rfl rfl (by decide) ?_
          refine V_goto C 51 dX9_ends_82 (by decide) ?_
          exact h9
    refine V_iconst C dX9_ends_49 ?_
    refine V_istore_n C dX9_ends_50 rfl (by decide) ?_
    have h := loop 1639 0 (by omega) (by omega)
    rw [pcP_0] at h
    exact h
  refine V_aload_n C dX9_ends_0 rfl ?_
  refine V_getJ C 4 4 rfl dX9_ends_1 o9 rfl hin_X9_ends_X9 (by decide) lk_X9_ends_66 rfl rfl rfl ?_
  refine V_iconst C dX9_ends_4 ?_
  refine V_icmp_ne C 49 dX9_ends_5 (by decide) (by omega) (by omega) (fun z1 => ?_) (fun z1 => ?_)
  · rw [en1, if_neg z1] at E
    exact rest _ _ (by omega) E
  · rw [en1, if_pos z1] at E
    have loop : ∀ (d : Nat) (j : Int), j + d = 4917 → 0 ≤ j → V X 10 [some (.ref r), some (.int (I32 v)), some (.int (I32 j))] [] S n (shP mu r j) la 0 0 := by
      intro d
      induction d with
      | zero =>
        intro j h1 h2
        have hj : j = 4917 := by omega
        subst hj
        refine V_iload_n C dX9_ends_10 rfl ?_
        refine V_sipush C dX9_ends_11 (by decide +kernel) ?_
        refine V_icmp_ge C 39 dX9_ends_14 (by decide) (by omega) (by omega) (fun z14 => ?_) (fun z14 => ?_)
        · refine V_aload_n C dX9_ends_39 rfl ?_
          refine V_dup C dX9_ends_40 rfl ?_
          refine V_getJ C 4 4 rfl dX9_ends_41 o9 rfl hin_X9_ends_X9 (by decide) lk_X9_ends_66 rfl rfl (shP_r.trans z1) ?_
          refine V_iconst C dX9_ends_44 ?_
          refine V_isub C dX9_ends_45 ?_
          refine V_putJ C 4 4 rfl dX9_ends_46 o9 rfl hin_X9_ends_X9 tyX9 tyX9_ok nmX9 (by decide) lk_X9_ends_66 rfl rfl (by decide +kernel) rfl rfl ?_
          exact rest _ _ (by rw [up_s]; omega) E
        · exact absurd z14 (by first | omega | decide)
      | succ d ih =>
        intro j h1 h2
        have h9 := ih (j + 1) (by omega) (by omega)
        refine V_iload_n C dX9_ends_10 rfl ?_
        refine V_sipush C dX9_ends_11 (by decide +kernel) ?_
        refine V_icmp_ge C 39 dX9_ends_14 (by decide) (by omega) (by omega) (fun z14 => ?_) (fun z14 => ?_)
        · exact absurd z14 (by first | omega | decide)
        · refine V_aload_n C dX9_ends_17 rfl ?_
          refine V_getR C 1 dX9_ends_18 o9 rfl hin_X9_ends_X9 (by decide) lk_X9_ends_13 rfl rfl ?_
          refine V_iload_n C dX9_ends_21 rfl ?_
          refine V_aload_n C dX9_ends_22 rfl ?_
          refine V_getR C 1 dX9_ends_23 o9 rfl hin_X9_ends_X9 (by decide) lk_X9_ends_13 rfl rfl ?_
          refine V_iload_n C dX9_ends_26 rfl ?_
          refine V_sipush C dX9_ends_27 (by decide +kernel) ?_
          refine V_iadd C dX9_ends_30 ?_
          refine V_ialdJ C dX9_ends_31 hM.2.2.1 (by first | assumption | decide) (by omega) (show shP mu r j (r + 2) (j + 1639) = mu (r + 2) (j + 1639) by unfold shP; rw [if_neg (by omega)]) ?_
          refine V_iastJ C dX9_ends_32 hM.2.2.1 (by first | assumption | decide) (by omega) (shP_s h2) ?_
          refine V_iinc C dX9_ends_33 rfl rfl (by decide) ?_
          refine V_goto C 10 dX9_ends_36 (by decide) ?_
          exact h9
    refine V_iconst C dX9_ends_8 ?_
    refine V_istore_n C dX9_ends_9 rfl (by decide) ?_
    have h := loop 4917 0 (by omega) (by omega)
    rw [shP_0] at h
    exact h
set_option maxRecDepth 20000 in
theorem ggX9_done_X9_fails : GoodIn wsX9_done wsX9_fails := goodIn_r _ [6, 7, 19, 20, 21, 22, 23, 24, 25, 26, 27, 28, 29, 30, 31, 32, 33, 34, 35, 36, 37, 38, 39, 40, 41, 42] (by decide +kernel) (by decide +kernel)
set_option maxRecDepth 20000 in
theorem gX9_done_X9_fails : GoodIn wsX9_done (wsV RX9 147 RX9 yX9_fails wsX9_fails) := goodIn_app (goodIn_of _ (by decide +kernel)) ggX9_done_X9_fails
set_option maxRecDepth 20000 in
theorem ggX9_done_X9_ends : GoodIn wsX9_done wsX9_ends := goodIn_r _ [11, 12, 13, 14, 15, 16, 17, 5, 18, 7, 19, 20, 21, 22, 23, 24, 25, 26, 27, 28, 29, 30, 31, 32, 33, 34, 35, 36, 37, 38, 39, 40, 41, 42] (by decide +kernel) (by decide +kernel)
set_option maxRecDepth 20000 in
theorem gX9_done_X9_ends : GoodIn wsX9_done (wsV RX9 153 RX9 yX9_ends wsX9_ends) := goodIn_app (goodIn_of _ (by decide +kernel)) ggX9_done_X9_ends
theorem dX9_done_0 : decode cX9_done 0 = .ok (.iload_n 1, 1) := by decide +kernel
theorem dX9_done_1 : decode cX9_done 1 = .ok (.ifCond .le 11, 3) := by decide +kernel
theorem dX9_done_4 : decode cX9_done 4 = .ok (.aload_n 0, 1) := by decide +kernel
theorem dX9_done_5 : decode cX9_done 5 = .ok (.iload_n 1, 1) := by decide +kernel
theorem dX9_done_6 : decode cX9_done 6 = .ok (.invokevirtual 147, 3) := by decide +kernel
theorem dX9_done_9 : decode cX9_done 9 = .ok (.goto 11, 3) := by decide +kernel
theorem dX9_done_12 : decode cX9_done 12 = .ok (.aload_n 0, 1) := by decide +kernel
theorem dX9_done_13 : decode cX9_done 13 = .ok (.aload_n 0, 1) := by decide +kernel
theorem dX9_done_14 : decode cX9_done 14 = .ok (.getfield 150, 3) := by decide +kernel
theorem dX9_done_17 : decode cX9_done 17 = .ok (.invokevirtual 153, 3) := by decide +kernel
theorem dX9_done_20 : decode cX9_done 20 = .ok (.ireturn, 1) := by decide +kernel
theorem hin_X9_done_X9 : ∀ w ∈ wsX90, w ∈ wsX9_done := by decide +kernel
theorem lk_X9_done_150 : Cond.fieldLink RX9 150 RX9 "answer" "I" ∈ wsX9_done := by decide +kernel
def dnM (mu : Mem) (r : Nat) (k : Int) : Mem := if 0 < k then up mu r 7 k else enM mu r
def dnA (mu : Mem) (r : Nat) (k : Int) : Int := if 0 < k then 0 else mu r 19
theorem m_done (hG : GP G) (hM : MoS S r) (hq : 0 ≤ mu r 4 ∧ mu r 4 ≤ 4) {k : Int} (hk : -2147483648 ≤ k ∧ k ≤ 2147483647) : Ct G l yX9_done wsX9_done 2 0 0 [.ref r, .int (I32 k)] S n mu la (Dt (some (.int (I32 (dnA mu r k)))) S n (dnM mu r k) la) := by
  have o9 := hM.1
  unfold dnA dnM
  refine Ct.ofV (cc := cX9_done) (nL := 2) (ret := (some .int)) [some (.ref r), some (.int (I32 k))] hG (by decide) rfl (Nat.le_of_ble_eq_true rfl) rfl ?_
  rintro X rfl rfl C hcl hsl E
  refine V_iload_n C dX9_done_0 rfl ?_
  refine V_if_le C 12 dX9_done_1 (by decide) (by omega) (fun z1 => ?_) (fun z1 => ?_)
  · refine V_aload_n C dX9_done_12 rfl ?_
    refine V_aload_n C dX9_done_13 rfl ?_
    refine V_getJ C 19 19 rfl dX9_done_14 o9 rfl hin_X9_done_X9 (by decide) lk_X9_done_150 rfl rfl rfl ?_
    refine V_callVD (nA := 1) C dX9_done_17 (m_ends C.gp hM hq) gX9_done_X9_ends rfl o9 rfl (by decide +kernel) rfl (by decide) (by decide) (Nat.le_of_ble_eq_true rfl) ⟨by omega, by omega⟩ rfl ?_
    refine V_ireturn C E dX9_done_20 (by omega) (by omega) ?_
    (first | rw [if_pos (by omega), if_pos (by omega)] | rw [if_neg (by omega), if_neg (by omega)])
    exact Dt_rfl
  · refine V_aload_n C dX9_done_4 rfl ?_
    refine V_iload_n C dX9_done_5 rfl ?_
    refine V_callVD (nA := 1) C dX9_done_6 (m_fails C.gp hM) gX9_done_X9_fails rfl o9 rfl (by decide +kernel) rfl (by decide) (by decide) (Nat.le_of_ble_eq_true rfl) ⟨by omega, by omega⟩ rfl ?_
    refine V_goto C 20 dX9_done_9 (by decide) ?_
    refine V_ireturn C E dX9_done_20 (by omega) (by omega) ?_
    (first | rw [if_pos (by omega), if_pos (by omega)] | rw [if_neg (by omega), if_neg (by omega)])
    exact Dt_rfl
end M4
