section PC
variable {G : Gx} {l : Launch} {S : Sh} {n : Nat} {mu : Mem} {la : Lam} {p : Nat} {P : Mem} {b : Nat} {L : Mem}
def pfS (L Q : Mem) (g : Int) : Mem := sK (spnF (spnF Q g 0 (gL L 6 (2 * (g - 16) + 0)) (gL L 7 (2 * (g - 16) + 0))) g 1 (gL L 6 (2 * (g - 16) + 1)) (gL L 7 (2 * (g - 16) + 1))) 7 49 g 0
def pfG (P L : Mem) : Nat → Mem
  | 0 => P
  | j + 1 => pfS L (pfG P L j) (mo (pfG P L j) 48 j)
def pfF (P L : Mem) : Mem := pfG P L (gL L 2 48).toNat
theorem pfS_R {Q : Mem} (h : R32 Q) (L : Mem) (g : Int) : R32 (pfS L Q g) := R32_sK (spnF_R (spnF_R h _ _ _ _) _ _ _ _) _ _ _ _
theorem pfG_R {P : Mem} (h : R32 P) (L : Mem) : ∀ j, R32 (pfG P L j)
  | 0 => h
  | j + 1 => pfS_R (pfG_R h L j) _ _
theorem pfS_0 (L Q : Mem) (g i : Int) : pfS L Q g 0 i = Q 0 i := by
  unfold pfS
  rw [sK_ne (by decide), spnF_k (by decide) (by decide), spnF_k (by decide) (by decide)]
theorem pfG_0 (P L : Mem) (i : Int) : ∀ j, pfG P L j 0 i = P 0 i
  | 0 => rfl
  | j + 1 => by rw [pfG, pfS_0]; exact pfG_0 P L i j
set_option maxRecDepth 20000 in
theorem ggX5_placeFloating_X4_countOf : GoodIn wsX5_placeFloating wsX4_countOf := goodIn_r _ [6, 7, 8, 9, 10, 48, 49, 50, 51, 52, 53, 54, 55] (by decide +kernel) (by decide +kernel)
set_option maxRecDepth 20000 in
theorem gX5_placeFloating_X4_countOf : GoodIn wsX5_placeFloating (wsV RX5 130 RX4 yX4_countOf wsX4_countOf) := goodIn_app (goodIn_of _ (by decide +kernel)) ggX5_placeFloating_X4_countOf
set_option maxRecDepth 20000 in
theorem ggX5_placeFloating_X5_memberOf : GoodIn wsX5_placeFloating wsX5_memberOf := goodIn_r _ [15, 16, 8, 9, 10, 35, 36, 37, 38, 39, 40, 41, 42, 43, 44, 45, 46, 47] (by decide +kernel) (by decide +kernel)
set_option maxRecDepth 20000 in
theorem gX5_placeFloating_X5_memberOf : GoodIn wsX5_placeFloating (wsV RX5 127 RX5 yX5_memberOf wsX5_memberOf) := goodIn_app (goodIn_of _ (by decide +kernel)) ggX5_placeFloating_X5_memberOf
set_option maxRecDepth 20000 in
theorem ggX5_placeFloating_X4_floatingStartOf : GoodIn wsX5_placeFloating wsX4_floatingStartOf := goodIn_r _ [20, 21, 8, 9, 10, 48, 49, 50, 51, 52, 53, 54, 55] (by decide +kernel) (by decide +kernel)
set_option maxRecDepth 20000 in
theorem gX5_placeFloating_X4_floatingStartOf : GoodIn wsX5_placeFloating (wsV RX5 136 RX4 yX4_floatingStartOf wsX4_floatingStartOf) := goodIn_app (goodIn_of _ (by decide +kernel)) ggX5_placeFloating_X4_floatingStartOf
set_option maxRecDepth 20000 in
theorem ggX5_placeFloating_X4_floatingSizeOf : GoodIn wsX5_placeFloating wsX4_floatingSizeOf := goodIn_r _ [25, 26, 8, 9, 10, 48, 49, 50, 51, 52, 53, 54, 55] (by decide +kernel) (by decide +kernel)
set_option maxRecDepth 20000 in
theorem gX5_placeFloating_X4_floatingSizeOf : GoodIn wsX5_placeFloating (wsV RX5 139 RX4 yX4_floatingSizeOf wsX4_floatingSizeOf) := goodIn_app (goodIn_of _ (by decide +kernel)) ggX5_placeFloating_X4_floatingSizeOf
set_option maxRecDepth 20000 in
theorem ggX5_placeFloating_X5_setSpan : GoodIn wsX5_placeFloating wsX5_setSpan := goodIn_r _ [30, 31, 32, 33, 9, 34, 35, 36, 37, 38, 39, 40, 41, 42, 43, 44, 45, 46, 47] (by decide +kernel) (by decide +kernel)
set_option maxRecDepth 20000 in
theorem gX5_placeFloating_X5_setSpan : GoodIn wsX5_placeFloating (wsV RX5 142 RX5 yX5_setSpan wsX5_setSpan) := goodIn_app (goodIn_of _ (by decide +kernel)) ggX5_placeFloating_X5_setSpan
set_option maxRecDepth 20000 in
theorem ggX5_placeFloating_X8_put : GoodIn wsX5_placeFloating wsX8_put := goodIn_r _ [34] (by decide +kernel) (by decide +kernel)
set_option maxRecDepth 20000 in
theorem gX5_placeFloating_X8_put_n123 : GoodIn wsX5_placeFloating (wsX8_put) := ggX5_placeFloating_X8_put
theorem dX5_placeFloating_0 : decode cX5_placeFloating 0 = .ok (.iconst 0, 1) := by decide +kernel
theorem dX5_placeFloating_1 : decode cX5_placeFloating 1 = .ok (.istore_n 2, 1) := by decide +kernel
theorem dX5_placeFloating_2 : decode cX5_placeFloating 2 = .ok (.iload_n 2, 1) := by decide +kernel
theorem dX5_placeFloating_3 : decode cX5_placeFloating 3 = .ok (.aload_n 1, 1) := by decide +kernel
theorem dX5_placeFloating_4 : decode cX5_placeFloating 4 = .ok (.bipush 48, 2) := by decide +kernel
theorem dX5_placeFloating_6 : decode cX5_placeFloating 6 = .ok (.invokevirtual 130, 3) := by decide +kernel
theorem dX5_placeFloating_9 : decode cX5_placeFloating 9 = .ok (.if_icmp .ge 62, 3) := by decide +kernel
theorem dX5_placeFloating_12 : decode cX5_placeFloating 12 = .ok (.aload_n 0, 1) := by decide +kernel
theorem dX5_placeFloating_13 : decode cX5_placeFloating 13 = .ok (.bipush 48, 2) := by decide +kernel
theorem dX5_placeFloating_15 : decode cX5_placeFloating 15 = .ok (.iload_n 2, 1) := by decide +kernel
theorem dX5_placeFloating_16 : decode cX5_placeFloating 16 = .ok (.invokevirtual 127, 3) := by decide +kernel
theorem dX5_placeFloating_19 : decode cX5_placeFloating 19 = .ok (.istore_n 3, 1) := by decide +kernel
theorem dX5_placeFloating_20 : decode cX5_placeFloating 20 = .ok (.iconst 0, 1) := by decide +kernel
theorem dX5_placeFloating_21 : decode cX5_placeFloating 21 = .ok (.istore 4, 2) := by decide +kernel
theorem dX5_placeFloating_23 : decode cX5_placeFloating 23 = .ok (.iload 4, 2) := by decide +kernel
theorem dX5_placeFloating_25 : decode cX5_placeFloating 25 = .ok (.iconst 2, 1) := by decide +kernel
theorem dX5_placeFloating_26 : decode cX5_placeFloating 26 = .ok (.if_icmp .ge 30, 3) := by decide +kernel
theorem dX5_placeFloating_29 : decode cX5_placeFloating 29 = .ok (.aload_n 0, 1) := by decide +kernel
theorem dX5_placeFloating_30 : decode cX5_placeFloating 30 = .ok (.iload_n 3, 1) := by decide +kernel
theorem dX5_placeFloating_31 : decode cX5_placeFloating 31 = .ok (.iload 4, 2) := by decide +kernel
theorem dX5_placeFloating_33 : decode cX5_placeFloating 33 = .ok (.aload_n 1, 1) := by decide +kernel
theorem dX5_placeFloating_34 : decode cX5_placeFloating 34 = .ok (.iload_n 3, 1) := by decide +kernel
theorem dX5_placeFloating_35 : decode cX5_placeFloating 35 = .ok (.iload 4, 2) := by decide +kernel
theorem dX5_placeFloating_37 : decode cX5_placeFloating 37 = .ok (.invokevirtual 136, 3) := by decide +kernel
theorem dX5_placeFloating_40 : decode cX5_placeFloating 40 = .ok (.aload_n 1, 1) := by decide +kernel
theorem dX5_placeFloating_41 : decode cX5_placeFloating 41 = .ok (.iload_n 3, 1) := by decide +kernel
theorem dX5_placeFloating_42 : decode cX5_placeFloating 42 = .ok (.iload 4, 2) := by decide +kernel
theorem dX5_placeFloating_44 : decode cX5_placeFloating 44 = .ok (.invokevirtual 139, 3) := by decide +kernel
theorem dX5_placeFloating_47 : decode cX5_placeFloating 47 = .ok (.invokevirtual 142, 3) := by decide +kernel
theorem dX5_placeFloating_50 : decode cX5_placeFloating 50 = .ok (.iinc 4 1, 3) := by decide +kernel
theorem dX5_placeFloating_53 : decode cX5_placeFloating 53 = .ok (.goto (-30), 3) := by decide +kernel
theorem dX5_placeFloating_56 : decode cX5_placeFloating 56 = .ok (.aload_n 0, 1) := by decide +kernel
theorem dX5_placeFloating_57 : decode cX5_placeFloating 57 = .ok (.getfield 30, 3) := by decide +kernel
theorem dX5_placeFloating_60 : decode cX5_placeFloating 60 = .ok (.iload_n 3, 1) := by decide +kernel
theorem dX5_placeFloating_61 : decode cX5_placeFloating 61 = .ok (.iconst 0, 1) := by decide +kernel
theorem dX5_placeFloating_62 : decode cX5_placeFloating 62 = .ok (.invokestatic 123, 3) := by decide +kernel
theorem dX5_placeFloating_65 : decode cX5_placeFloating 65 = .ok (.iinc 2 1, 3) := by decide +kernel
theorem dX5_placeFloating_68 : decode cX5_placeFloating 68 = .ok (.goto (-66), 3) := by decide +kernel
theorem dX5_placeFloating_71 : decode cX5_placeFloating 71 = .ok (.return_, 1) := by decide +kernel
theorem hin_X5_placeFloating_X5 : ∀ w ∈ wsX50, w ∈ wsX5_placeFloating := by decide +kernel
theorem lk_X5_placeFloating_30 : Cond.fieldLink RX5 30 RX5 "depth" "[I" ∈ wsX5_placeFloating := by decide +kernel
theorem c_placeFloating (hG : GP G) (hP : PlanS S p) (hL : LayS S b) (hA : LayAt mu b L) (hd : b + 8 < p ∨ p + 14 ≤ b + 1) (hRL : R32 L) : Ct G l yX5_placeFloating wsX5_placeFloating 2 0 0 [.ref p, .ref b] S n (putK mu p 14 P) la (Dt none S n (putK mu p 14 (pfF P L)) la) := by
  have o5 := hP.1
  have o4 := hL.1
  have bc := gL_b hRL 2 48
  refine Ct.ofV (cc := cX5_placeFloating) (nL := 5) (ret := none) [some (.ref p), some (.ref b), none, none, none] hG (by decide) rfl (Nat.le_of_ble_eq_true rfl) rfl ?_
  rintro X rfl rfl C hcl hsl E
  have loop : ∀ (d j : Nat) (w3 w4 : Option Value), j + d = (gL L 2 48).toNat → rK [some (.ref p), some (.ref b), some (.int (I32 (j : Int))), w3, w4] 4 = true → V X 2 [some (.ref p), some (.ref b), some (.int (I32 (j : Int))), w3, w4] [] S n (putK mu p 14 (pfG P L j)) la 0 0 := by
    intro d
    induction d with
    | zero =>
      intro j w3 w4 hj hw
      have e : j = (gL L 2 48).toNat := by omega
      refine V_iload_n C dX5_placeFloating_2 rfl ?_
      refine V_aload_n C dX5_placeFloating_3 rfl ?_
      refine V_bipush C dX5_placeFloating_4 (by decide +kernel) ?_
      refine V_callVD (nA := 1) C dX5_placeFloating_6 (r_countOf C.gp hL (LayAt_putK hA hd)) gX5_placeFloating_X4_countOf rfl o4 rfl (by decide +kernel) rfl (by decide) (by decide) (Nat.le_of_ble_eq_true rfl) ⟨by omega, by omega⟩ rfl ?_
      refine V_icmp_ge C 71 dX5_placeFloating_9 (by decide) (by omega) (by omega) (fun z => ?_) (fun z => ?_)
      · refine V_return C E dX5_placeFloating_71 (by omega) (by omega) ?_
        rw [pfF, ← e]; exact Dt_rfl
      · exact absurd z (by omega)
    | succ d ih =>
      intro j w3 w4 hj hw
      have hn : ((j + 1 : Nat) : Int) = (j : Int) + 1 := by omega
      refine V_iload_n C dX5_placeFloating_2 rfl ?_
      refine V_aload_n C dX5_placeFloating_3 rfl ?_
      refine V_bipush C dX5_placeFloating_4 (by decide +kernel) ?_
      refine V_callVD (nA := 1) C dX5_placeFloating_6 (r_countOf C.gp hL (LayAt_putK hA hd)) gX5_placeFloating_X4_countOf rfl o4 rfl (by decide +kernel) rfl (by decide) (by decide) (Nat.le_of_ble_eq_true rfl) ⟨by omega, by omega⟩ rfl ?_
      refine V_icmp_ge C 71 dX5_placeFloating_9 (by decide) (by omega) (by omega) (fun z => ?_) (fun z => ?_)
      · exact absurd z (by omega)
      · refine V_aload_n C dX5_placeFloating_12 rfl ?_
        refine V_bipush C dX5_placeFloating_13 (by decide +kernel) ?_
        refine V_iload_n C dX5_placeFloating_15 rfl ?_
        refine V_callVD (nA := 2) C dX5_placeFloating_16 (c_memberOf C.gp hP (by omega)) gX5_placeFloating_X5_memberOf rfl o5 rfl (by decide +kernel) rfl (by decide) (by decide) (Nat.le_of_ble_eq_true rfl) ⟨by omega, by omega⟩ rfl ?_
        have h9 := ih (j + 1) (some (.int (I32 (mo (pfG P L j) 48 j)))) (some (.int (I32 2))) (by omega) rfl
        rw [pfG, hn] at h9
        refine V_istore_n C dX5_placeFloating_19 rfl (by decide) ?_
        refine V_iconst C dX5_placeFloating_20 ?_
        refine V_istore C dX5_placeFloating_21 rfl (by decide) ?_
        refine V_iload C dX5_placeFloating_23 rfl ?_
        refine V_iconst C dX5_placeFloating_25 ?_
        refine V_icmp_ge C 56 dX5_placeFloating_26 (by decide) (by omega) (by omega) (fun z1 => ?_) (fun z1 => ?_)
        · exact absurd z1 (by decide)
        · refine V_aload_n C dX5_placeFloating_29 rfl ?_
          refine V_iload_n C dX5_placeFloating_30 rfl ?_
          refine V_iload C dX5_placeFloating_31 rfl ?_
          refine V_aload_n C dX5_placeFloating_33 rfl ?_
          refine V_iload_n C dX5_placeFloating_34 rfl ?_
          refine V_iload C dX5_placeFloating_35 rfl ?_
          refine V_callVD (nA := 2) C dX5_placeFloating_37 (r_floatingStartOf C.gp hL (LayAt_putK hA hd)) gX5_placeFloating_X4_floatingStartOf rfl o4 rfl (by decide +kernel) rfl (by decide) (by decide) (Nat.le_of_ble_eq_true rfl) ⟨by omega, by omega⟩ rfl ?_
          refine V_aload_n C dX5_placeFloating_40 rfl ?_
          refine V_iload_n C dX5_placeFloating_41 rfl ?_
          refine V_iload C dX5_placeFloating_42 rfl ?_
          refine V_callVD (nA := 2) C dX5_placeFloating_44 (r_floatingSizeOf C.gp hL (LayAt_putK hA hd)) gX5_placeFloating_X4_floatingSizeOf rfl o4 rfl (by decide +kernel) rfl (by decide) (by decide) (Nat.le_of_ble_eq_true rfl) ⟨by omega, by omega⟩ rfl ?_
          refine V_callVD (nA := 4) C dX5_placeFloating_47 (c_setSpan C.gp hP) gX5_placeFloating_X5_setSpan rfl o5 rfl (by decide +kernel) rfl (by decide) (by decide) (Nat.le_of_ble_eq_true rfl) ⟨by omega, by omega⟩ rfl ?_
          refine V_iinc C dX5_placeFloating_50 rfl rfl (by decide) ?_
          refine V_goto C 23 dX5_placeFloating_53 (by decide) ?_
          refine V_iload C dX5_placeFloating_23 rfl ?_
          refine V_iconst C dX5_placeFloating_25 ?_
          refine V_icmp_ge C 56 dX5_placeFloating_26 (by decide) (by omega) (by omega) (fun z2 => ?_) (fun z2 => ?_)
          · exact absurd z2 (by decide)
          · refine V_aload_n C dX5_placeFloating_29 rfl ?_
            refine V_iload_n C dX5_placeFloating_30 rfl ?_
            refine V_iload C dX5_placeFloating_31 rfl ?_
            refine V_aload_n C dX5_placeFloating_33 rfl ?_
            refine V_iload_n C dX5_placeFloating_34 rfl ?_
            refine V_iload C dX5_placeFloating_35 rfl ?_
            refine V_callVD (nA := 2) C dX5_placeFloating_37 (r_floatingStartOf C.gp hL (LayAt_putK hA hd)) gX5_placeFloating_X4_floatingStartOf rfl o4 rfl (by decide +kernel) rfl (by decide) (by decide) (Nat.le_of_ble_eq_true rfl) ⟨by omega, by omega⟩ rfl ?_
            refine V_aload_n C dX5_placeFloating_40 rfl ?_
            refine V_iload_n C dX5_placeFloating_41 rfl ?_
            refine V_iload C dX5_placeFloating_42 rfl ?_
            refine V_callVD (nA := 2) C dX5_placeFloating_44 (r_floatingSizeOf C.gp hL (LayAt_putK hA hd)) gX5_placeFloating_X4_floatingSizeOf rfl o4 rfl (by decide +kernel) rfl (by decide) (by decide) (Nat.le_of_ble_eq_true rfl) ⟨by omega, by omega⟩ rfl ?_
            refine V_callVD (nA := 4) C dX5_placeFloating_47 (c_setSpan C.gp hP) gX5_placeFloating_X5_setSpan rfl o5 rfl (by decide +kernel) rfl (by decide) (by decide) (Nat.le_of_ble_eq_true rfl) ⟨by omega, by omega⟩ rfl ?_
            refine V_iinc C dX5_placeFloating_50 rfl rfl (by decide) ?_
            refine V_goto C 23 dX5_placeFloating_53 (by decide) ?_
            refine V_iload C dX5_placeFloating_23 rfl ?_
            refine V_iconst C dX5_placeFloating_25 ?_
            refine V_icmp_ge C 56 dX5_placeFloating_26 (by decide) (by omega) (by omega) (fun z3 => ?_) (fun z3 => ?_)
            · refine V_aload_n C dX5_placeFloating_56 rfl ?_
              refine V_getR C 6 dX5_placeFloating_57 o5 rfl hin_X5_placeFloating_X5 (by decide) lk_X5_placeFloating_30 rfl rfl ?_
              refine V_iload_n C dX5_placeFloating_60 rfl ?_
              refine V_iconst C dX5_placeFloating_61 ?_
              refine V_callSND (nA := 3) (host := "DockTree") C dX5_placeFloating_62 (c_pK C.gp hP 7 49 rfl (by decide)) gX5_placeFloating_X8_put_n123 (by decide +kernel) (by decide +kernel) (by decide +kernel) rfl (by decide +kernel) rfl (by decide) (by decide) (Nat.le_of_ble_eq_true rfl) ⟨by omega, by omega⟩ rfl ?_
              refine V_iinc C dX5_placeFloating_65 rfl rfl (by decide) ?_
              refine V_goto C 2 dX5_placeFloating_68 (by decide) ?_
              exact h9
            · exact absurd z3 (by decide)
  refine V_iconst C dX5_placeFloating_0 ?_
  refine V_istore_n C dX5_placeFloating_1 rfl (by decide) ?_
  exact loop (gL L 2 48).toNat 0 none none (by omega) rfl
def prF (P : Mem) (w h : Int) : Mem := if mo P 47 0 = -1 then P else sK (spnF (spnF P (mo P 47 0) 0 0 w) (mo P 47 0) 1 0 h) 7 49 (mo P 47 0) 0
theorem prF_R {P : Mem} (h : R32 P) (x y : Int) : R32 (prF P x y) := by
  unfold prF
  split
  · exact h
  · exact R32_sK (spnF_R (spnF_R h _ _ _ _) _ _ _ _) _ _ _ _
theorem prF_0 (P : Mem) (x y i : Int) : prF P x y 0 i = P 0 i := by
  unfold prF
  split
  · rfl
  · rw [sK_ne (by decide), spnF_k (by decide) (by decide), spnF_k (by decide) (by decide)]
set_option maxRecDepth 20000 in
theorem ggX5_placeRoot_X5_memberOf : GoodIn wsX5_placeRoot wsX5_memberOf := goodIn_r _ [6, 7, 8, 9, 10, 19, 20, 21, 22, 23, 24, 25, 26, 27, 28, 29, 30, 31] (by decide +kernel) (by decide +kernel)
set_option maxRecDepth 20000 in
theorem gX5_placeRoot_X5_memberOf : GoodIn wsX5_placeRoot (wsV RX5 127 RX5 yX5_memberOf wsX5_memberOf) := goodIn_app (goodIn_of _ (by decide +kernel)) ggX5_placeRoot_X5_memberOf
set_option maxRecDepth 20000 in
theorem ggX5_placeRoot_X5_setSpan : GoodIn wsX5_placeRoot wsX5_setSpan := goodIn_r _ [14, 15, 16, 17, 9, 18, 19, 20, 21, 22, 23, 24, 25, 26, 27, 28, 29, 30, 31] (by decide +kernel) (by decide +kernel)
set_option maxRecDepth 20000 in
theorem gX5_placeRoot_X5_setSpan : GoodIn wsX5_placeRoot (wsV RX5 142 RX5 yX5_setSpan wsX5_setSpan) := goodIn_app (goodIn_of _ (by decide +kernel)) ggX5_placeRoot_X5_setSpan
set_option maxRecDepth 20000 in
theorem ggX5_placeRoot_X8_put : GoodIn wsX5_placeRoot wsX8_put := goodIn_r _ [18] (by decide +kernel) (by decide +kernel)
set_option maxRecDepth 20000 in
theorem gX5_placeRoot_X8_put_n123 : GoodIn wsX5_placeRoot (wsX8_put) := ggX5_placeRoot_X8_put
theorem dX5_placeRoot_0 : decode cX5_placeRoot 0 = .ok (.aload_n 0, 1) := by decide +kernel
theorem dX5_placeRoot_1 : decode cX5_placeRoot 1 = .ok (.bipush 47, 2) := by decide +kernel
theorem dX5_placeRoot_3 : decode cX5_placeRoot 3 = .ok (.iconst 0, 1) := by decide +kernel
theorem dX5_placeRoot_4 : decode cX5_placeRoot 4 = .ok (.invokevirtual 127, 3) := by decide +kernel
theorem dX5_placeRoot_7 : decode cX5_placeRoot 7 = .ok (.istore_n 3, 1) := by decide +kernel
theorem dX5_placeRoot_8 : decode cX5_placeRoot 8 = .ok (.iload_n 3, 1) := by decide +kernel
theorem dX5_placeRoot_9 : decode cX5_placeRoot 9 = .ok (.iconst (-1), 1) := by decide +kernel
theorem dX5_placeRoot_10 : decode cX5_placeRoot 10 = .ok (.if_icmp .ne 4, 3) := by decide +kernel
theorem dX5_placeRoot_13 : decode cX5_placeRoot 13 = .ok (.return_, 1) := by decide +kernel
theorem dX5_placeRoot_14 : decode cX5_placeRoot 14 = .ok (.aload_n 0, 1) := by decide +kernel
theorem dX5_placeRoot_15 : decode cX5_placeRoot 15 = .ok (.iload_n 3, 1) := by decide +kernel
theorem dX5_placeRoot_16 : decode cX5_placeRoot 16 = .ok (.iconst 0, 1) := by decide +kernel
theorem dX5_placeRoot_17 : decode cX5_placeRoot 17 = .ok (.iconst 0, 1) := by decide +kernel
theorem dX5_placeRoot_18 : decode cX5_placeRoot 18 = .ok (.iload_n 1, 1) := by decide +kernel
theorem dX5_placeRoot_19 : decode cX5_placeRoot 19 = .ok (.invokevirtual 142, 3) := by decide +kernel
theorem dX5_placeRoot_22 : decode cX5_placeRoot 22 = .ok (.aload_n 0, 1) := by decide +kernel
theorem dX5_placeRoot_23 : decode cX5_placeRoot 23 = .ok (.iload_n 3, 1) := by decide +kernel
theorem dX5_placeRoot_24 : decode cX5_placeRoot 24 = .ok (.iconst 1, 1) := by decide +kernel
theorem dX5_placeRoot_25 : decode cX5_placeRoot 25 = .ok (.iconst 0, 1) := by decide +kernel
theorem dX5_placeRoot_26 : decode cX5_placeRoot 26 = .ok (.iload_n 2, 1) := by decide +kernel
theorem dX5_placeRoot_27 : decode cX5_placeRoot 27 = .ok (.invokevirtual 142, 3) := by decide +kernel
theorem dX5_placeRoot_30 : decode cX5_placeRoot 30 = .ok (.aload_n 0, 1) := by decide +kernel
theorem dX5_placeRoot_31 : decode cX5_placeRoot 31 = .ok (.getfield 30, 3) := by decide +kernel
theorem dX5_placeRoot_34 : decode cX5_placeRoot 34 = .ok (.iload_n 3, 1) := by decide +kernel
theorem dX5_placeRoot_35 : decode cX5_placeRoot 35 = .ok (.iconst 0, 1) := by decide +kernel
theorem dX5_placeRoot_36 : decode cX5_placeRoot 36 = .ok (.invokestatic 123, 3) := by decide +kernel
theorem dX5_placeRoot_39 : decode cX5_placeRoot 39 = .ok (.return_, 1) := by decide +kernel
theorem hin_X5_placeRoot_X5 : ∀ w ∈ wsX50, w ∈ wsX5_placeRoot := by decide +kernel
theorem lk_X5_placeRoot_30 : Cond.fieldLink RX5 30 RX5 "depth" "[I" ∈ wsX5_placeRoot := by decide +kernel
theorem c_placeRoot (hG : GP G) (hP : PlanS S p) (hR : R32 P) {w h : Int} : Ct G l yX5_placeRoot wsX5_placeRoot 2 0 0 [.ref p, .int (I32 w), .int (I32 h)] S n (putK mu p 14 P) la (Dt none S n (putK mu p 14 (prF P w h)) la) := by
  have o5 := hP.1
  have b1 := mo_b hR 47 0
  refine Ct.ofV (cc := cX5_placeRoot) (nL := 4) (ret := none) [some (.ref p), some (.int (I32 w)), some (.int (I32 h)), none] hG (by decide) rfl (Nat.le_of_ble_eq_true rfl) rfl ?_
  rintro X rfl rfl C hcl hsl E
  refine V_aload_n C dX5_placeRoot_0 rfl ?_
  refine V_bipush C dX5_placeRoot_1 (by decide +kernel) ?_
  refine V_iconst C dX5_placeRoot_3 ?_
  refine V_callVD (nA := 2) C dX5_placeRoot_4 (c_memberOf C.gp hP (by omega)) gX5_placeRoot_X5_memberOf rfl o5 rfl (by decide +kernel) rfl (by decide) (by decide) (Nat.le_of_ble_eq_true rfl) ⟨by omega, by omega⟩ rfl ?_
  refine V_istore_n C dX5_placeRoot_7 rfl (by decide) ?_
  refine V_iload_n C dX5_placeRoot_8 rfl ?_
  refine V_iconst C dX5_placeRoot_9 ?_
  refine V_icmp_ne C 14 dX5_placeRoot_10 (by decide) (by omega) (by omega) (fun z => ?_) (fun z => ?_)
  · refine V_aload_n C dX5_placeRoot_14 rfl ?_
    refine V_iload_n C dX5_placeRoot_15 rfl ?_
    refine V_iconst C dX5_placeRoot_16 ?_
    refine V_iconst C dX5_placeRoot_17 ?_
    refine V_iload_n C dX5_placeRoot_18 rfl ?_
    refine V_callVD (nA := 4) C dX5_placeRoot_19 (c_setSpan C.gp hP) gX5_placeRoot_X5_setSpan rfl o5 rfl (by decide +kernel) rfl (by decide) (by decide) (Nat.le_of_ble_eq_true rfl) ⟨by omega, by omega⟩ rfl ?_
    refine V_aload_n C dX5_placeRoot_22 rfl ?_
    refine V_iload_n C dX5_placeRoot_23 rfl ?_
    refine V_iconst C dX5_placeRoot_24 ?_
    refine V_iconst C dX5_placeRoot_25 ?_
    refine V_iload_n C dX5_placeRoot_26 rfl ?_
    refine V_callVD (nA := 4) C dX5_placeRoot_27 (c_setSpan C.gp hP) gX5_placeRoot_X5_setSpan rfl o5 rfl (by decide +kernel) rfl (by decide) (by decide) (Nat.le_of_ble_eq_true rfl) ⟨by omega, by omega⟩ rfl ?_
    refine V_aload_n C dX5_placeRoot_30 rfl ?_
    refine V_getR C 6 dX5_placeRoot_31 o5 rfl hin_X5_placeRoot_X5 (by decide) lk_X5_placeRoot_30 rfl rfl ?_
    refine V_iload_n C dX5_placeRoot_34 rfl ?_
    refine V_iconst C dX5_placeRoot_35 ?_
    refine V_callSND (nA := 3) (host := "DockTree") C dX5_placeRoot_36 (c_pK C.gp hP 7 49 rfl (by decide)) gX5_placeRoot_X8_put_n123 (by decide +kernel) (by decide +kernel) (by decide +kernel) rfl (by decide +kernel) rfl (by decide) (by decide) (Nat.le_of_ble_eq_true rfl) ⟨by omega, by omega⟩ rfl ?_
    refine V_return C E dX5_placeRoot_39 (by omega) (by omega) ?_
    rw [prF, if_neg z]; exact Dt_rfl
  · refine V_return C E dX5_placeRoot_13 (by omega) (by omega) ?_
    rw [prF, if_pos z]; exact Dt_rfl
/-- a split's cells are shared -/
def saG (P L : Mem) (sp ax : Int) : Nat → Mem
  | 0 => shClr P
  | j + 1 => shAdd (saG P L sp ax j) (gK (saG P L sp ax j) 4 98 (2 * mo (saG P L sp ax j) sp j + ax)) (gL L 3 (mo (saG P L sp ax j) sp j))
def scC (P L : Mem) (sp : Int) : Int := max 0 (wr (gK P 6 98 (2 * sp + gL L 5 (sp - 32)) - (gL L 2 sp - 1)))
def scQ (P L : Mem) (sp : Int) : Mem := saG P L sp (gL L 5 (sp - 32)) (gL L 2 sp).toNat
def scF (P L : Mem) (sp : Int) : Mem :=
  if scC P L sp ≤ scQ P L sp 9 5 then sK (up (glF (scQ P L sp) (scC P L sp)) 0 11 (wr (P 0 11 + 1))) 8 49 sp 1
  else sK (gwF (scQ P L sp) (scC P L sp)) 8 49 sp 0
theorem shAdd_R {P : Mem} (h : R32 P) (a w : Int) : R32 (shAdd P a w) := R32_up (R32_up (R32_sK (R32_sK (R32_sK h _ _ _ _) _ _ _ _) _ _ _ _) _ _ (wr_b _)) _ _ (wr_b _)
theorem shClr_R {P : Mem} (h : R32 P) : R32 (shClr P) := R32_up (R32_up h _ _ (by omega)) _ _ (by omega)
theorem saG_R {P : Mem} (h : R32 P) (L : Mem) (sp ax : Int) : ∀ j, R32 (saG P L sp ax j)
  | 0 => shClr_R h
  | j + 1 => shAdd_R (saG_R h L sp ax j) _ _
theorem saG_4 (P L : Mem) (sp ax : Int) : ∀ j : Nat, j ≤ 16777216 → saG P L sp ax j 9 4 = j
  | 0, _ => by
    show up (up P 9 4 0) 9 5 0 9 4 = _
    rw [up_i _ _ _ (by decide), up_s]; rfl
  | j + 1, h => by
    rw [saG, shAdd, up_s, saG_4 P L sp ax j (by omega), wr_id (by omega)]; omega
theorem shAdd_k {P : Mem} {k : Nat} (h : k < 9) (a w i : Int) : shAdd P a w k i = P k i := by
  unfold shAdd
  rw [up_a _ _ _ _ (by omega), up_a _ _ _ _ (by omega), sK_ne (by omega), sK_ne (by omega), sK_ne (by omega)]
theorem saG_k (P L : Mem) (sp ax : Int) {k : Nat} (h : k < 9) (i : Int) : ∀ j, saG P L sp ax j k i = P k i
  | 0 => by
    show up (up P 9 4 0) 9 5 0 k i = _
    rw [up_a _ _ _ _ (by omega), up_a _ _ _ _ (by omega)]
  | j + 1 => by rw [saG, shAdd_k h]; exact saG_k P L sp ax h i j
theorem hoF_k (P : Mem) (c : Int) {k : Nat} (h : k < 9) (i : Int) : hoF P c k i = P k i := by
  have key : ∀ j, (hoG P c j).1 k i = P k i := by
    intro j
    induction j with
    | zero => rfl
    | succ j ih =>
      rw [hoG]
      split
      · show sK _ 12 16 _ _ k i = _
        rw [sK_ne (by omega)]; exact ih
      · exact ih
  exact key _
theorem glF_k (P : Mem) (c : Int) {k : Nat} (h : k < 9) (i : Int) : glF P c k i = P k i := by
  unfold glF
  rw [hoF_k _ _ h, glG_k _ _ (by omega)]
theorem gwF_k (P : Mem) (c : Int) {k : Nat} (h : k < 9) (i : Int) : gwF P c k i = P k i := by
  unfold gwF
  rw [hoF_k _ _ h]
  exact gwG_k P c (by omega) (by omega) i _
theorem scF_R {P : Mem} (h : R32 P) (L : Mem) (sp : Int) : R32 (scF P L sp) := by
  have h1 : R32 (scQ P L sp) := saG_R h L _ _ _
  unfold scF
  split
  · exact R32_sK (R32_up (glF_R h1 _) _ _ (wr_b _)) _ _ _ _
  · exact R32_sK (gwF_R h1 _) _ _ _ _
theorem scF_9 (P L : Mem) (sp : Int) : scF P L sp 0 9 = P 0 9 := by
  unfold scF
  split
  · rw [sK_ne (by decide), up_i _ _ _ (by decide), glF_k _ _ (by decide)]; exact saG_k P L _ _ (by decide) _ _
  · rw [sK_ne (by decide), gwF_k _ _ (by decide)]; exact saG_k P L _ _ (by decide) _ _
set_option maxRecDepth 20000 in
theorem ggX5_shareAmongChildren_X4_axisOf : GoodIn wsX5_shareAmongChildren wsX4_axisOf := goodIn_r _ [12, 13, 14, 15, 16, 93, 94, 95, 96, 97, 98, 99, 100] (by decide +kernel) (by decide +kernel)
set_option maxRecDepth 20000 in
theorem gX5_shareAmongChildren_X4_axisOf : GoodIn wsX5_shareAmongChildren (wsV RX5 133 RX4 yX4_axisOf wsX4_axisOf) := goodIn_app (goodIn_of _ (by decide +kernel)) ggX5_shareAmongChildren_X4_axisOf
set_option maxRecDepth 20000 in
theorem ggX5_shareAmongChildren_X4_countOf : GoodIn wsX5_shareAmongChildren wsX4_countOf := goodIn_r _ [20, 21, 14, 15, 16, 93, 94, 95, 96, 97, 98, 99, 100] (by decide +kernel) (by decide +kernel)
set_option maxRecDepth 20000 in
theorem gX5_shareAmongChildren_X4_countOf : GoodIn wsX5_shareAmongChildren (wsV RX5 130 RX4 yX4_countOf wsX4_countOf) := goodIn_app (goodIn_of _ (by decide +kernel)) ggX5_shareAmongChildren_X4_countOf
set_option maxRecDepth 20000 in
theorem ggX5_shareAmongChildren_X5_sizeOf : GoodIn wsX5_shareAmongChildren wsX5_sizeOf := goodIn_r _ [26, 27, 14, 15, 16, 80, 81, 82, 83, 84, 85, 86, 87, 88, 89, 90, 91, 92] (by decide +kernel) (by decide +kernel)
set_option maxRecDepth 20000 in
theorem gX5_shareAmongChildren_X5_sizeOf : GoodIn wsX5_shareAmongChildren (wsV RX5 93 RX5 yX5_sizeOf wsX5_sizeOf) := goodIn_app (goodIn_of _ (by decide +kernel)) ggX5_shareAmongChildren_X5_sizeOf
set_option maxRecDepth 20000 in
theorem ggX5_shareAmongChildren_X6_clear : GoodIn wsX5_shareAmongChildren wsX6_clear := goodIn_r _ [32, 33, 34, 101, 102, 103, 104, 105, 106] (by decide +kernel) (by decide +kernel)
set_option maxRecDepth 20000 in
theorem gX5_shareAmongChildren_X6_clear : GoodIn wsX5_shareAmongChildren (wsV RX5 146 RX6 yX6_clear wsX6_clear) := goodIn_app (goodIn_of _ (by decide +kernel)) ggX5_shareAmongChildren_X6_clear
set_option maxRecDepth 20000 in
theorem ggX5_shareAmongChildren_X5_memberOf : GoodIn wsX5_shareAmongChildren wsX5_memberOf := goodIn_r _ [38, 39, 14, 15, 16, 80, 81, 82, 83, 84, 85, 86, 87, 88, 89, 90, 91, 92] (by decide +kernel) (by decide +kernel)
set_option maxRecDepth 20000 in
theorem gX5_shareAmongChildren_X5_memberOf : GoodIn wsX5_shareAmongChildren (wsV RX5 127 RX5 yX5_memberOf wsX5_memberOf) := goodIn_app (goodIn_of _ (by decide +kernel)) ggX5_shareAmongChildren_X5_memberOf
set_option maxRecDepth 20000 in
theorem ggX5_shareAmongChildren_X5_leastOf : GoodIn wsX5_shareAmongChildren wsX5_leastOf := goodIn_r _ [43, 44, 14, 15, 16, 80, 81, 82, 83, 84, 85, 86, 87, 88, 89, 90, 91, 92] (by decide +kernel) (by decide +kernel)
set_option maxRecDepth 20000 in
theorem gX5_shareAmongChildren_X5_leastOf : GoodIn wsX5_shareAmongChildren (wsV RX5 89 RX5 yX5_leastOf wsX5_leastOf) := goodIn_app (goodIn_of _ (by decide +kernel)) ggX5_shareAmongChildren_X5_leastOf
set_option maxRecDepth 20000 in
theorem ggX5_shareAmongChildren_X4_weightOf : GoodIn wsX5_shareAmongChildren wsX4_weightOf := goodIn_r _ [48, 49, 14, 15, 16, 93, 94, 95, 96, 97, 98, 99, 100] (by decide +kernel) (by decide +kernel)
set_option maxRecDepth 20000 in
theorem gX5_shareAmongChildren_X4_weightOf : GoodIn wsX5_shareAmongChildren (wsV RX5 149 RX4 yX4_weightOf wsX4_weightOf) := goodIn_app (goodIn_of _ (by decide +kernel)) ggX5_shareAmongChildren_X4_weightOf
set_option maxRecDepth 20000 in
theorem ggX5_shareAmongChildren_X6_add : GoodIn wsX5_shareAmongChildren wsX6_add := goodIn_r _ [53, 54, 33, 55, 56, 34, 57, 15, 58, 101, 102, 103, 104, 105, 106] (by decide +kernel) (by decide +kernel)
set_option maxRecDepth 20000 in
theorem gX5_shareAmongChildren_X6_add : GoodIn wsX5_shareAmongChildren (wsV RX5 152 RX6 yX6_add wsX6_add) := goodIn_app (goodIn_of _ (by decide +kernel)) ggX5_shareAmongChildren_X6_add
set_option maxRecDepth 20000 in
theorem ggX5_shareAmongChildren_X6_needed : GoodIn wsX5_shareAmongChildren wsX6_needed := goodIn_r _ [62, 34, 101, 102, 103, 104, 105, 106] (by decide +kernel) (by decide +kernel)
set_option maxRecDepth 20000 in
theorem gX5_shareAmongChildren_X6_needed : GoodIn wsX5_shareAmongChildren (wsV RX5 155 RX6 yX6_needed wsX6_needed) := goodIn_app (goodIn_of _ (by decide +kernel)) ggX5_shareAmongChildren_X6_needed
set_option maxRecDepth 20000 in
theorem ggX5_shareAmongChildren_X6_giveByLeast : GoodIn wsX5_shareAmongChildren wsX6_giveByLeast := goodIn_r _ [66, 33, 34, 54, 67, 14, 15, 16, 57, 58, 68, 69, 70, 31, 71, 56, 101, 102, 103, 104, 105, 106] (by decide +kernel) (by decide +kernel)
set_option maxRecDepth 20000 in
theorem gX5_shareAmongChildren_X6_giveByLeast : GoodIn wsX5_shareAmongChildren (wsV RX5 159 RX6 yX6_giveByLeast wsX6_giveByLeast) := goodIn_app (goodIn_of _ (by decide +kernel)) ggX5_shareAmongChildren_X6_giveByLeast
set_option maxRecDepth 20000 in
theorem ggX5_shareAmongChildren_X6_giveByWeight : GoodIn wsX5_shareAmongChildren wsX6_giveByWeight := goodIn_r _ [75, 33, 56, 67, 76, 77, 78, 31, 79, 55, 54, 14, 15, 16, 57, 58, 68, 69, 70, 71, 101, 102, 103, 104, 105, 106] (by decide +kernel) (by decide +kernel)
set_option maxRecDepth 20000 in
theorem gX5_shareAmongChildren_X6_giveByWeight : GoodIn wsX5_shareAmongChildren (wsV RX5 163 RX6 yX6_giveByWeight wsX6_giveByWeight) := goodIn_app (goodIn_of _ (by decide +kernel)) ggX5_shareAmongChildren_X6_giveByWeight
set_option maxRecDepth 20000 in
theorem ggX5_shareAmongChildren_X8_put : GoodIn wsX5_shareAmongChildren wsX8_put := goodIn_r _ [58] (by decide +kernel) (by decide +kernel)
set_option maxRecDepth 20000 in
theorem gX5_shareAmongChildren_X8_put_n123 : GoodIn wsX5_shareAmongChildren (wsX8_put) := ggX5_shareAmongChildren_X8_put
theorem dX5_shareAmongChildren_0 : decode cX5_shareAmongChildren 0 = .ok (.aload_n 1, 1) := by decide +kernel
theorem dX5_shareAmongChildren_1 : decode cX5_shareAmongChildren 1 = .ok (.iload_n 2, 1) := by decide +kernel
theorem dX5_shareAmongChildren_2 : decode cX5_shareAmongChildren 2 = .ok (.invokevirtual 133, 3) := by decide +kernel
theorem dX5_shareAmongChildren_5 : decode cX5_shareAmongChildren 5 = .ok (.istore_n 3, 1) := by decide +kernel
theorem dX5_shareAmongChildren_6 : decode cX5_shareAmongChildren 6 = .ok (.aload_n 1, 1) := by decide +kernel
theorem dX5_shareAmongChildren_7 : decode cX5_shareAmongChildren 7 = .ok (.iload_n 2, 1) := by decide +kernel
theorem dX5_shareAmongChildren_8 : decode cX5_shareAmongChildren 8 = .ok (.invokevirtual 130, 3) := by decide +kernel
theorem dX5_shareAmongChildren_11 : decode cX5_shareAmongChildren 11 = .ok (.istore 4, 2) := by decide +kernel
theorem dX5_shareAmongChildren_13 : decode cX5_shareAmongChildren 13 = .ok (.iconst 0, 1) := by decide +kernel
theorem dX5_shareAmongChildren_14 : decode cX5_shareAmongChildren 14 = .ok (.aload_n 0, 1) := by decide +kernel
theorem dX5_shareAmongChildren_15 : decode cX5_shareAmongChildren 15 = .ok (.iload_n 2, 1) := by decide +kernel
theorem dX5_shareAmongChildren_16 : decode cX5_shareAmongChildren 16 = .ok (.iload_n 3, 1) := by decide +kernel
theorem dX5_shareAmongChildren_17 : decode cX5_shareAmongChildren 17 = .ok (.invokevirtual 93, 3) := by decide +kernel
theorem dX5_shareAmongChildren_20 : decode cX5_shareAmongChildren 20 = .ok (.iload 4, 2) := by decide +kernel
theorem dX5_shareAmongChildren_22 : decode cX5_shareAmongChildren 22 = .ok (.iconst 1, 1) := by decide +kernel
theorem dX5_shareAmongChildren_23 : decode cX5_shareAmongChildren 23 = .ok (.isub, 1) := by decide +kernel
theorem dX5_shareAmongChildren_24 : decode cX5_shareAmongChildren 24 = .ok (.isub, 1) := by decide +kernel
theorem dX5_shareAmongChildren_25 : decode cX5_shareAmongChildren 25 = .ok (.invokestatic 96, 3) := by decide +kernel
theorem dX5_shareAmongChildren_28 : decode cX5_shareAmongChildren 28 = .ok (.istore 5, 2) := by decide +kernel
theorem dX5_shareAmongChildren_30 : decode cX5_shareAmongChildren 30 = .ok (.aload_n 0, 1) := by decide +kernel
theorem dX5_shareAmongChildren_31 : decode cX5_shareAmongChildren 31 = .ok (.getfield 39, 3) := by decide +kernel
theorem dX5_shareAmongChildren_34 : decode cX5_shareAmongChildren 34 = .ok (.invokevirtual 146, 3) := by decide +kernel
theorem dX5_shareAmongChildren_37 : decode cX5_shareAmongChildren 37 = .ok (.iconst 0, 1) := by decide +kernel
theorem dX5_shareAmongChildren_38 : decode cX5_shareAmongChildren 38 = .ok (.istore 6, 2) := by decide +kernel
theorem dX5_shareAmongChildren_40 : decode cX5_shareAmongChildren 40 = .ok (.iload 6, 2) := by decide +kernel
theorem dX5_shareAmongChildren_42 : decode cX5_shareAmongChildren 42 = .ok (.iload 4, 2) := by decide +kernel
theorem dX5_shareAmongChildren_44 : decode cX5_shareAmongChildren 44 = .ok (.if_icmp .ge 38, 3) := by decide +kernel
theorem dX5_shareAmongChildren_47 : decode cX5_shareAmongChildren 47 = .ok (.aload_n 0, 1) := by decide +kernel
theorem dX5_shareAmongChildren_48 : decode cX5_shareAmongChildren 48 = .ok (.iload_n 2, 1) := by decide +kernel
theorem dX5_shareAmongChildren_49 : decode cX5_shareAmongChildren 49 = .ok (.iload 6, 2) := by decide +kernel
theorem dX5_shareAmongChildren_51 : decode cX5_shareAmongChildren 51 = .ok (.invokevirtual 127, 3) := by decide +kernel
theorem dX5_shareAmongChildren_54 : decode cX5_shareAmongChildren 54 = .ok (.istore 7, 2) := by decide +kernel
theorem dX5_shareAmongChildren_56 : decode cX5_shareAmongChildren 56 = .ok (.aload_n 0, 1) := by decide +kernel
theorem dX5_shareAmongChildren_57 : decode cX5_shareAmongChildren 57 = .ok (.getfield 39, 3) := by decide +kernel
theorem dX5_shareAmongChildren_60 : decode cX5_shareAmongChildren 60 = .ok (.aload_n 0, 1) := by decide +kernel
theorem dX5_shareAmongChildren_61 : decode cX5_shareAmongChildren 61 = .ok (.iload 7, 2) := by decide +kernel
theorem dX5_shareAmongChildren_63 : decode cX5_shareAmongChildren 63 = .ok (.iload_n 3, 1) := by decide +kernel
theorem dX5_shareAmongChildren_64 : decode cX5_shareAmongChildren 64 = .ok (.invokevirtual 89, 3) := by decide +kernel
theorem dX5_shareAmongChildren_67 : decode cX5_shareAmongChildren 67 = .ok (.aload_n 1, 1) := by decide +kernel
theorem dX5_shareAmongChildren_68 : decode cX5_shareAmongChildren 68 = .ok (.iload 7, 2) := by decide +kernel
theorem dX5_shareAmongChildren_70 : decode cX5_shareAmongChildren 70 = .ok (.invokevirtual 149, 3) := by decide +kernel
theorem dX5_shareAmongChildren_73 : decode cX5_shareAmongChildren 73 = .ok (.invokevirtual 152, 3) := by decide +kernel
theorem dX5_shareAmongChildren_76 : decode cX5_shareAmongChildren 76 = .ok (.iinc 6 1, 3) := by decide +kernel
theorem dX5_shareAmongChildren_79 : decode cX5_shareAmongChildren 79 = .ok (.goto (-39), 3) := by decide +kernel
theorem dX5_shareAmongChildren_82 : decode cX5_shareAmongChildren 82 = .ok (.aload_n 0, 1) := by decide +kernel
theorem dX5_shareAmongChildren_83 : decode cX5_shareAmongChildren 83 = .ok (.getfield 39, 3) := by decide +kernel
theorem dX5_shareAmongChildren_86 : decode cX5_shareAmongChildren 86 = .ok (.invokevirtual 155, 3) := by decide +kernel
theorem dX5_shareAmongChildren_89 : decode cX5_shareAmongChildren 89 = .ok (.iload 5, 2) := by decide +kernel
theorem dX5_shareAmongChildren_91 : decode cX5_shareAmongChildren 91 = .ok (.if_icmp .lt 7, 3) := by decide +kernel
theorem dX5_shareAmongChildren_94 : decode cX5_shareAmongChildren 94 = .ok (.iconst 1, 1) := by decide +kernel
theorem dX5_shareAmongChildren_95 : decode cX5_shareAmongChildren 95 = .ok (.goto 4, 3) := by decide +kernel
theorem dX5_shareAmongChildren_98 : decode cX5_shareAmongChildren 98 = .ok (.iconst 0, 1) := by decide +kernel
theorem dX5_shareAmongChildren_99 : decode cX5_shareAmongChildren 99 = .ok (.istore 6, 2) := by decide +kernel
theorem dX5_shareAmongChildren_101 : decode cX5_shareAmongChildren 101 = .ok (.iload 6, 2) := by decide +kernel
theorem dX5_shareAmongChildren_103 : decode cX5_shareAmongChildren 103 = .ok (.ifCond .eq 25, 3) := by decide +kernel
theorem dX5_shareAmongChildren_106 : decode cX5_shareAmongChildren 106 = .ok (.aload_n 0, 1) := by decide +kernel
theorem dX5_shareAmongChildren_107 : decode cX5_shareAmongChildren 107 = .ok (.getfield 39, 3) := by decide +kernel
theorem dX5_shareAmongChildren_110 : decode cX5_shareAmongChildren 110 = .ok (.iload 5, 2) := by decide +kernel
theorem dX5_shareAmongChildren_112 : decode cX5_shareAmongChildren 112 = .ok (.invokevirtual 159, 3) := by decide +kernel
theorem dX5_shareAmongChildren_115 : decode cX5_shareAmongChildren 115 = .ok (.aload_n 0, 1) := by decide +kernel
theorem dX5_shareAmongChildren_116 : decode cX5_shareAmongChildren 116 = .ok (.dup, 1) := by decide +kernel
theorem dX5_shareAmongChildren_117 : decode cX5_shareAmongChildren 117 = .ok (.getfield 69, 3) := by decide +kernel
theorem dX5_shareAmongChildren_120 : decode cX5_shareAmongChildren 120 = .ok (.iconst 1, 1) := by decide +kernel
theorem dX5_shareAmongChildren_121 : decode cX5_shareAmongChildren 121 = .ok (.iadd, 1) := by decide +kernel
theorem dX5_shareAmongChildren_122 : decode cX5_shareAmongChildren 122 = .ok (.putfield 69, 3) := by decide +kernel
theorem dX5_shareAmongChildren_125 : decode cX5_shareAmongChildren 125 = .ok (.goto 12, 3) := by decide +kernel
theorem dX5_shareAmongChildren_128 : decode cX5_shareAmongChildren 128 = .ok (.aload_n 0, 1) := by decide +kernel
theorem dX5_shareAmongChildren_129 : decode cX5_shareAmongChildren 129 = .ok (.getfield 39, 3) := by decide +kernel
theorem dX5_shareAmongChildren_132 : decode cX5_shareAmongChildren 132 = .ok (.iload 5, 2) := by decide +kernel
theorem dX5_shareAmongChildren_134 : decode cX5_shareAmongChildren 134 = .ok (.invokevirtual 163, 3) := by decide +kernel
theorem dX5_shareAmongChildren_137 : decode cX5_shareAmongChildren 137 = .ok (.aload_n 0, 1) := by decide +kernel
theorem dX5_shareAmongChildren_138 : decode cX5_shareAmongChildren 138 = .ok (.getfield 33, 3) := by decide +kernel
theorem dX5_shareAmongChildren_141 : decode cX5_shareAmongChildren 141 = .ok (.iload_n 2, 1) := by decide +kernel
theorem dX5_shareAmongChildren_142 : decode cX5_shareAmongChildren 142 = .ok (.iload 6, 2) := by decide +kernel
theorem dX5_shareAmongChildren_144 : decode cX5_shareAmongChildren 144 = .ok (.ifCond .eq 7, 3) := by decide +kernel
theorem dX5_shareAmongChildren_147 : decode cX5_shareAmongChildren 147 = .ok (.iconst 1, 1) := by decide +kernel
theorem dX5_shareAmongChildren_148 : decode cX5_shareAmongChildren 148 = .ok (.goto 4, 3) := by decide +kernel
theorem dX5_shareAmongChildren_151 : decode cX5_shareAmongChildren 151 = .ok (.iconst 0, 1) := by decide +kernel
theorem dX5_shareAmongChildren_152 : decode cX5_shareAmongChildren 152 = .ok (.invokestatic 123, 3) := by decide +kernel
theorem dX5_shareAmongChildren_155 : decode cX5_shareAmongChildren 155 = .ok (.return_, 1) := by decide +kernel
theorem hin_X5_shareAmongChildren_X5 : ∀ w ∈ wsX50, w ∈ wsX5_shareAmongChildren := by decide +kernel
theorem lk_X5_shareAmongChildren_39 : Cond.fieldLink RX5 39 RX5 "sharing" "LDockTree$Sharing;" ∈ wsX5_shareAmongChildren := by decide +kernel
theorem lk_X5_shareAmongChildren_69 : Cond.fieldLink RX5 69 RX5 "tightSplits" "I" ∈ wsX5_shareAmongChildren := by decide +kernel
theorem lk_X5_shareAmongChildren_33 : Cond.fieldLink RX5 33 RX5 "tight" "[I" ∈ wsX5_shareAmongChildren := by decide +kernel
theorem c_shareAmongChildren (hG : GP G) (hP : PlanS S p) (hR : R32 P) (hL : LayS S b) (hA : LayAt mu b L) (hd : b + 8 < p ∨ p + 14 ≤ b + 1) (hRL : R32 L) (hC : ∀ i, -16777216 ≤ gL L 2 i ∧ gL L 2 i ≤ 16777216) {sp : Int} : Ct G l yX5_shareAmongChildren wsX5_shareAmongChildren 3 0 0 [.ref p, .ref b, .int (I32 sp)] S n (putK mu p 14 P) la (Dt none S n (putK mu p 14 (scF P L sp)) la) := by
  have o5 := hP.1
  have o6 := hP.2.1
  have o4 := hL.1
  have bc := hC sp
  have hRQ : R32 (scQ P L sp) := saG_R hR L _ _ _
  have b95 := hRQ 9 5
  have bw := wr_b (gK P 6 98 (2 * sp + gL L 5 (sp - 32)) - (gL L 2 sp - 1))
  have bC : 0 ≤ scC P L sp ∧ scC P L sp ≤ 2147483647 := by unfold scC; omega
  refine Ct.ofV (cc := cX5_shareAmongChildren) (nL := 8) (ret := none) [some (.ref p), some (.ref b), some (.int (I32 sp)), none, none, none, none, none] hG (by decide) rfl (Nat.le_of_ble_eq_true rfl) rfl ?_
  rintro X rfl rfl C hcl hsl E
  have out : ∀ (t : Int) (Q : Mem) (w7 : Option Value), (t = 0 ∨ t = 1) → scF P L sp = sK Q 8 49 sp t → V X 137 [some (.ref p), some (.ref b), some (.int (I32 sp)), some (.int (I32 (gL L 5 (sp - 32)))), some (.int (I32 (gL L 2 sp))), some (.int (I32 (scC P L sp))), some (.int (I32 t)), w7] [] S n (putK mu p 14 Q) la 0 0 := by
    intro t Q w7 ht hQ
    refine V_aload_n C dX5_shareAmongChildren_137 rfl ?_
    refine V_getR C 7 dX5_shareAmongChildren_138 o5 rfl hin_X5_shareAmongChildren_X5 (by decide) lk_X5_shareAmongChildren_33 rfl rfl ?_
    refine V_iload_n C dX5_shareAmongChildren_141 rfl ?_
    refine V_iload C dX5_shareAmongChildren_142 rfl ?_
    refine V_if_eq C 151 dX5_shareAmongChildren_144 (by decide) (by omega) (fun z => ?_) (fun z => ?_)
    · refine V_iconst C dX5_shareAmongChildren_151 ?_
      refine V_callSND (nA := 3) (host := "DockTree") C dX5_shareAmongChildren_152 (c_pK C.gp hP 8 49 rfl (by decide)) gX5_shareAmongChildren_X8_put_n123 (by decide +kernel) (by decide +kernel) (by decide +kernel) rfl (by decide +kernel) rfl (by decide) (by decide) (Nat.le_of_ble_eq_true rfl) ⟨by omega, by omega⟩ rfl ?_
      refine V_return C E dX5_shareAmongChildren_155 (by omega) (by omega) ?_
      rw [hQ, z]; exact Dt_rfl
    · refine V_iconst C dX5_shareAmongChildren_147 ?_
      refine V_goto C 152 dX5_shareAmongChildren_148 (by decide) ?_
      refine V_callSND (nA := 3) (host := "DockTree") C dX5_shareAmongChildren_152 (c_pK C.gp hP 8 49 rfl (by decide)) gX5_shareAmongChildren_X8_put_n123 (by decide +kernel) (by decide +kernel) (by decide +kernel) rfl (by decide +kernel) rfl (by decide) (by decide) (Nat.le_of_ble_eq_true rfl) ⟨by omega, by omega⟩ rfl ?_
      refine V_return C E dX5_shareAmongChildren_155 (by omega) (by omega) ?_
      rw [hQ, show t = 1 by omega]; exact Dt_rfl
  have loop : ∀ (d j : Nat) (w7 : Option Value), j + d = (gL L 2 sp).toNat → V X 40 [some (.ref p), some (.ref b), some (.int (I32 sp)), some (.int (I32 (gL L 5 (sp - 32)))), some (.int (I32 (gL L 2 sp))), some (.int (I32 (scC P L sp))), some (.int (I32 (j : Int))), w7] [] S n (putK mu p 14 (saG P L sp (gL L 5 (sp - 32)) j)) la 0 0 := by
    intro d
    induction d with
    | zero =>
      intro j w7 hj
      have e : j = (gL L 2 sp).toNat := by omega
      refine V_iload C dX5_shareAmongChildren_40 rfl ?_
      refine V_iload C dX5_shareAmongChildren_42 rfl ?_
      refine V_icmp_ge C 82 dX5_shareAmongChildren_44 (by decide) (by omega) (by omega) (fun z => ?_) (fun z => ?_)
      · rw [e]
        change V X _ _ _ _ _ (putK mu p 14 (scQ P L sp)) _ _ _
        refine V_aload_n C dX5_shareAmongChildren_82 rfl ?_
        refine V_getR C 8 dX5_shareAmongChildren_83 o5 rfl hin_X5_shareAmongChildren_X5 (by decide) lk_X5_shareAmongChildren_39 rfl rfl ?_
        refine V_callVD (nA := 0) C dX5_shareAmongChildren_86 (c_shNeeded C.gp hP) gX5_shareAmongChildren_X6_needed rfl o6 rfl (by decide +kernel) rfl (by decide) (by decide) (Nat.le_of_ble_eq_true rfl) ⟨by omega, by omega⟩ rfl ?_
        refine V_iload C dX5_shareAmongChildren_89 rfl ?_
        refine V_icmp_lt C 98 dX5_shareAmongChildren_91 (by decide) (by omega) (by omega) (fun z1 => ?_) (fun z1 => ?_)
        · refine V_iconst C dX5_shareAmongChildren_98 ?_
          refine V_istore C dX5_shareAmongChildren_99 rfl (by decide) ?_
          refine V_iload C dX5_shareAmongChildren_101 rfl ?_
          refine V_if_eq C 128 dX5_shareAmongChildren_103 (by decide) (by omega) (fun _ => ?_) (fun y => absurd rfl y)
          refine V_aload_n C dX5_shareAmongChildren_128 rfl ?_
          refine V_getR C 8 dX5_shareAmongChildren_129 o5 rfl hin_X5_shareAmongChildren_X5 (by decide) lk_X5_shareAmongChildren_39 rfl rfl ?_
          refine V_iload C dX5_shareAmongChildren_132 rfl ?_
          refine V_callVD (nA := 1) C dX5_shareAmongChildren_134 (c_giveByWeight C.gp hP hRQ (by rw [scQ, saG_4 _ _ _ _ _ (by omega)]; omega) (by omega)) gX5_shareAmongChildren_X6_giveByWeight rfl o6 rfl (by decide +kernel) rfl (by decide) (by decide) (Nat.le_of_ble_eq_true rfl) ⟨by omega, by omega⟩ rfl ?_
          exact out 0 _ w7 (Or.inl rfl) (by rw [scF, if_neg (by omega)])
        · refine V_iconst C dX5_shareAmongChildren_94 ?_
          refine V_goto C 99 dX5_shareAmongChildren_95 (by decide) ?_
          refine V_istore C dX5_shareAmongChildren_99 rfl (by decide) ?_
          refine V_iload C dX5_shareAmongChildren_101 rfl ?_
          refine V_if_eq C 128 dX5_shareAmongChildren_103 (by decide) (by omega) (fun y => absurd y (by decide)) (fun _ => ?_)
          refine V_aload_n C dX5_shareAmongChildren_106 rfl ?_
          refine V_getR C 8 dX5_shareAmongChildren_107 o5 rfl hin_X5_shareAmongChildren_X5 (by decide) lk_X5_shareAmongChildren_39 rfl rfl ?_
          refine V_iload C dX5_shareAmongChildren_110 rfl ?_
          refine V_callVD (nA := 1) C dX5_shareAmongChildren_112 (c_giveByLeast C.gp hP hRQ (by omega)) gX5_shareAmongChildren_X6_giveByLeast rfl o6 rfl (by decide +kernel) rfl (by decide) (by decide) (Nat.le_of_ble_eq_true rfl) ⟨by omega, by omega⟩ rfl ?_
          refine V_aload_n C dX5_shareAmongChildren_115 rfl ?_
          refine V_dup C dX5_shareAmongChildren_116 rfl ?_
          refine V_getJ C 11 11 rfl dX5_shareAmongChildren_117 o5 rfl hin_X5_shareAmongChildren_X5 (by decide) lk_X5_shareAmongChildren_69 rfl rfl (putK_0 (by decide) _) ?_
          refine V_iconst C dX5_shareAmongChildren_120 ?_
          refine V_iadd C dX5_shareAmongChildren_121 ?_
          rw [show glF (scQ P L sp) (scC P L sp) 0 11 = P 0 11 by rw [glF_k _ _ (by decide)]; exact saG_k P L _ _ (by decide) _ _]
          refine V_wr ?_
          refine V_putJ C 11 11 rfl dX5_shareAmongChildren_122 o5 rfl hin_X5_shareAmongChildren_X5 tyX5 tyX5_ok nmX5 (by decide) lk_X5_shareAmongChildren_69 rfl rfl (by decide +kernel) rfl (up_putK0 (by decide) _ _) ?_
          refine V_goto C 137 dX5_shareAmongChildren_125 (by decide) ?_
          exact out 1 _ w7 (Or.inr rfl) (by rw [scF, if_pos (by omega)])
      · exact absurd z (by omega)
    | succ d ih =>
      intro j w7 hj
      have hn : ((j + 1 : Nat) : Int) = (j : Int) + 1 := by omega
      have h9 := ih (j + 1) (some (.int (I32 (mo (saG P L sp (gL L 5 (sp - 32)) j) sp j)))) (by omega)
      rw [saG, hn] at h9
      refine V_iload C dX5_shareAmongChildren_40 rfl ?_
      refine V_iload C dX5_shareAmongChildren_42 rfl ?_
      refine V_icmp_ge C 82 dX5_shareAmongChildren_44 (by decide) (by omega) (by omega) (fun z => ?_) (fun z => ?_)
      · exact absurd z (by omega)
      · refine V_aload_n C dX5_shareAmongChildren_47 rfl ?_
        refine V_iload_n C dX5_shareAmongChildren_48 rfl ?_
        refine V_iload C dX5_shareAmongChildren_49 rfl ?_
        refine V_callVD (nA := 2) C dX5_shareAmongChildren_51 (c_memberOf C.gp hP (by omega)) gX5_shareAmongChildren_X5_memberOf rfl o5 rfl (by decide +kernel) rfl (by decide) (by decide) (Nat.le_of_ble_eq_true rfl) ⟨by omega, by omega⟩ rfl ?_
        refine V_istore C dX5_shareAmongChildren_54 rfl (by decide) ?_
        refine V_aload_n C dX5_shareAmongChildren_56 rfl ?_
        refine V_getR C 8 dX5_shareAmongChildren_57 o5 rfl hin_X5_shareAmongChildren_X5 (by decide) lk_X5_shareAmongChildren_39 rfl rfl ?_
        refine V_aload_n C dX5_shareAmongChildren_60 rfl ?_
        refine V_iload C dX5_shareAmongChildren_61 rfl ?_
        refine V_iload_n C dX5_shareAmongChildren_63 rfl ?_
        refine V_callVD (nA := 2) C dX5_shareAmongChildren_64 (c_leastOf C.gp hP) gX5_shareAmongChildren_X5_leastOf rfl o5 rfl (by decide +kernel) rfl (by decide) (by decide) (Nat.le_of_ble_eq_true rfl) ⟨by omega, by omega⟩ rfl ?_
        refine V_aload_n C dX5_shareAmongChildren_67 rfl ?_
        refine V_iload C dX5_shareAmongChildren_68 rfl ?_
        refine V_callVD (nA := 1) C dX5_shareAmongChildren_70 (r_weightOf C.gp hL (LayAt_putK hA hd)) gX5_shareAmongChildren_X4_weightOf rfl o4 rfl (by decide +kernel) rfl (by decide) (by decide) (Nat.le_of_ble_eq_true rfl) ⟨by omega, by omega⟩ rfl ?_
        refine V_callVD (nA := 2) C dX5_shareAmongChildren_73 (c_shAdd C.gp hP) gX5_shareAmongChildren_X6_add rfl o6 rfl (by decide +kernel) rfl (by decide) (by decide) (Nat.le_of_ble_eq_true rfl) ⟨by omega, by omega⟩ rfl ?_
        refine V_iinc C dX5_shareAmongChildren_76 rfl rfl (by decide) ?_
        refine V_goto C 40 dX5_shareAmongChildren_79 (by decide) ?_
        exact h9
  refine V_aload_n C dX5_shareAmongChildren_0 rfl ?_
  refine V_iload_n C dX5_shareAmongChildren_1 rfl ?_
  refine V_callVD (nA := 1) C dX5_shareAmongChildren_2 (r_axisOf C.gp hL (LayAt_putK hA hd)) gX5_shareAmongChildren_X4_axisOf rfl o4 rfl (by decide +kernel) rfl (by decide) (by decide) (Nat.le_of_ble_eq_true rfl) ⟨by omega, by omega⟩ rfl ?_
  refine V_istore_n C dX5_shareAmongChildren_5 rfl (by decide) ?_
  refine V_aload_n C dX5_shareAmongChildren_6 rfl ?_
  refine V_iload_n C dX5_shareAmongChildren_7 rfl ?_
  refine V_callVD (nA := 1) C dX5_shareAmongChildren_8 (r_countOf C.gp hL (LayAt_putK hA hd)) gX5_shareAmongChildren_X4_countOf rfl o4 rfl (by decide +kernel) rfl (by decide) (by decide) (Nat.le_of_ble_eq_true rfl) ⟨by omega, by omega⟩ rfl ?_
  refine V_istore C dX5_shareAmongChildren_11 rfl (by decide) ?_
  refine V_iconst C dX5_shareAmongChildren_13 ?_
  refine V_aload_n C dX5_shareAmongChildren_14 rfl ?_
  refine V_iload_n C dX5_shareAmongChildren_15 rfl ?_
  refine V_iload_n C dX5_shareAmongChildren_16 rfl ?_
  refine V_callVD (nA := 2) C dX5_shareAmongChildren_17 (c_sizeOf C.gp hP) gX5_shareAmongChildren_X5_sizeOf rfl o5 rfl (by decide +kernel) rfl (by decide) (by decide) (Nat.le_of_ble_eq_true rfl) ⟨by omega, by omega⟩ rfl ?_
  refine V_iload C dX5_shareAmongChildren_20 rfl ?_
  refine V_iconst C dX5_shareAmongChildren_22 ?_
  refine V_isub C dX5_shareAmongChildren_23 ?_
  refine V_isub C dX5_shareAmongChildren_24 ?_
  refine V_wr ?_
  refine V_mmax C dX5_shareAmongChildren_25 (by decide +kernel) (by decide +kernel) (by decide +kernel) (by decide +kernel) (by decide) (Nat.le_of_ble_eq_true rfl) ⟨by omega, by omega⟩ (by omega) (by omega) ?_
  refine V_istore C dX5_shareAmongChildren_28 rfl (by decide) ?_
  refine V_aload_n C dX5_shareAmongChildren_30 rfl ?_
  refine V_getR C 8 dX5_shareAmongChildren_31 o5 rfl hin_X5_shareAmongChildren_X5 (by decide) lk_X5_shareAmongChildren_39 rfl rfl ?_
  refine V_callVD (nA := 0) C dX5_shareAmongChildren_34 (c_shClr C.gp hP) gX5_shareAmongChildren_X6_clear rfl o6 rfl (by decide +kernel) rfl (by decide) (by decide) (Nat.le_of_ble_eq_true rfl) ⟨by omega, by omega⟩ rfl ?_
  refine V_iconst C dX5_shareAmongChildren_37 ?_
  refine V_istore C dX5_shareAmongChildren_38 rfl (by decide) ?_
  exact loop (gL L 2 sp).toNat 0 none (by omega)
/-- a split's children are placed -/
def pcA (L : Mem) (sp : Int) : Int := if gL L 5 (sp - 32) = 0 then 1 else 0
def pcQ (P L : Mem) (sp : Int) : Mem := up P 0 12 (wr (P 0 12 + (gL L 2 sp - 1) * gK P 6 98 (2 * sp + pcA L sp)))
def pcS (Q : Mem) (sp al ac nx ch : Int) (j : Int) : Mem :=
  let Q1 := spnF Q ch al nx (gK Q 12 16 j)
  let Q2 := spnF Q1 ch ac (gK Q1 5 98 (2 * sp + ac)) (gK Q1 6 98 (2 * sp + ac))
  sK Q2 7 49 ch (gK Q2 7 49 sp + 1)
def pcG (P L : Mem) (sp : Int) : Nat → Mem × Int
  | 0 => (pcQ P L sp, gK (pcQ P L sp) 5 98 (2 * sp + gL L 5 (sp - 32)))
  | j + 1 => (pcS (pcG P L sp j).1 sp (gL L 5 (sp - 32)) (pcA L sp) (pcG P L sp j).2 (mo (pcG P L sp j).1 sp j) j, (pcG P L sp j).2 + (gK (pcS (pcG P L sp j).1 sp (gL L 5 (sp - 32)) (pcA L sp) (pcG P L sp j).2 (mo (pcG P L sp j).1 sp j) j) 12 16 j + 1))
def pcF (P L : Mem) (sp : Int) : Mem := (pcG P L sp (gL L 2 sp).toNat).1
theorem pcS_R {Q : Mem} (h : R32 Q) (sp al ac nx ch j : Int) : R32 (pcS Q sp al ac nx ch j) := R32_sK (spnF_R (spnF_R h _ _ _ _) _ _ _ _) _ _ _ _
theorem pcS_0 (Q : Mem) (sp al ac nx ch j i : Int) : pcS Q sp al ac nx ch j 0 i = Q 0 i := by
  unfold pcS
  rw [sK_ne (by decide), spnF_k (by decide) (by decide), spnF_k (by decide) (by decide)]
theorem pcG_R {P : Mem} (h : R32 P) (L : Mem) (sp : Int) : ∀ j, R32 (pcG P L sp j).1
  | 0 => R32_up h _ _ (wr_b _)
  | j + 1 => pcS_R (pcG_R h L sp j) _ _ _ _ _ _
theorem pcG_9 (P L : Mem) (sp : Int) : ∀ j, (pcG P L sp j).1 0 9 = P 0 9
  | 0 => by
    show pcQ P L sp 0 9 = _
    rw [pcQ, up_i _ _ _ (by decide)]
  | j + 1 => (pcS_0 _ _ _ _ _ _ _ _).trans (pcG_9 P L sp j)
set_option maxRecDepth 20000 in
theorem ggX5_placeChildren_X4_axisOf : GoodIn wsX5_placeChildren wsX4_axisOf := goodIn_r _ [8, 9, 10, 11, 12, 59, 60, 61, 62, 63, 64, 65, 66] (by decide +kernel) (by decide +kernel)
set_option maxRecDepth 20000 in
theorem gX5_placeChildren_X4_axisOf : GoodIn wsX5_placeChildren (wsV RX5 133 RX4 yX4_axisOf wsX4_axisOf) := goodIn_app (goodIn_of _ (by decide +kernel)) ggX5_placeChildren_X4_axisOf
set_option maxRecDepth 20000 in
theorem ggX5_placeChildren_X4_countOf : GoodIn wsX5_placeChildren wsX4_countOf := goodIn_r _ [16, 17, 10, 11, 12, 59, 60, 61, 62, 63, 64, 65, 66] (by decide +kernel) (by decide +kernel)
set_option maxRecDepth 20000 in
theorem gX5_placeChildren_X4_countOf : GoodIn wsX5_placeChildren (wsV RX5 130 RX4 yX4_countOf wsX4_countOf) := goodIn_app (goodIn_of _ (by decide +kernel)) ggX5_placeChildren_X4_countOf
set_option maxRecDepth 20000 in
theorem ggX5_placeChildren_X5_sizeOf : GoodIn wsX5_placeChildren wsX5_sizeOf := goodIn_r _ [22, 23, 10, 11, 12, 46, 47, 48, 49, 50, 51, 52, 53, 54, 55, 56, 57, 58] (by decide +kernel) (by decide +kernel)
set_option maxRecDepth 20000 in
theorem gX5_placeChildren_X5_sizeOf : GoodIn wsX5_placeChildren (wsV RX5 93 RX5 yX5_sizeOf wsX5_sizeOf) := goodIn_app (goodIn_of _ (by decide +kernel)) ggX5_placeChildren_X5_sizeOf
set_option maxRecDepth 20000 in
theorem ggX5_placeChildren_X5_startOf : GoodIn wsX5_placeChildren wsX5_startOf := goodIn_r _ [27, 28, 10, 11, 12, 46, 47, 48, 49, 50, 51, 52, 53, 54, 55, 56, 57, 58] (by decide +kernel) (by decide +kernel)
set_option maxRecDepth 20000 in
theorem gX5_placeChildren_X5_startOf : GoodIn wsX5_placeChildren (wsV RX5 101 RX5 yX5_startOf wsX5_startOf) := goodIn_app (goodIn_of _ (by decide +kernel)) ggX5_placeChildren_X5_startOf
set_option maxRecDepth 20000 in
theorem ggX5_placeChildren_X5_memberOf : GoodIn wsX5_placeChildren wsX5_memberOf := goodIn_r _ [32, 33, 10, 11, 12, 46, 47, 48, 49, 50, 51, 52, 53, 54, 55, 56, 57, 58] (by decide +kernel) (by decide +kernel)
set_option maxRecDepth 20000 in
theorem gX5_placeChildren_X5_memberOf : GoodIn wsX5_placeChildren (wsV RX5 127 RX5 yX5_memberOf wsX5_memberOf) := goodIn_app (goodIn_of _ (by decide +kernel)) ggX5_placeChildren_X5_memberOf
set_option maxRecDepth 20000 in
theorem ggX5_placeChildren_X6_givenTo : GoodIn wsX5_placeChildren wsX6_givenTo := goodIn_r _ [38, 39, 10, 11, 12, 67, 68, 69, 70, 71, 72] (by decide +kernel) (by decide +kernel)
set_option maxRecDepth 20000 in
theorem gX5_placeChildren_X6_givenTo : GoodIn wsX5_placeChildren (wsV RX5 166 RX6 yX6_givenTo wsX6_givenTo) := goodIn_app (goodIn_of _ (by decide +kernel)) ggX5_placeChildren_X6_givenTo
set_option maxRecDepth 20000 in
theorem ggX5_placeChildren_X5_setSpan : GoodIn wsX5_placeChildren wsX5_setSpan := goodIn_r _ [43, 28, 23, 44, 11, 45, 46, 47, 48, 49, 50, 51, 52, 53, 54, 55, 56, 57, 58] (by decide +kernel) (by decide +kernel)
set_option maxRecDepth 20000 in
theorem gX5_placeChildren_X5_setSpan : GoodIn wsX5_placeChildren (wsV RX5 142 RX5 yX5_setSpan wsX5_setSpan) := goodIn_app (goodIn_of _ (by decide +kernel)) ggX5_placeChildren_X5_setSpan
set_option maxRecDepth 20000 in
theorem ggX5_placeChildren_X8_at : GoodIn wsX5_placeChildren wsX8_at := goodIn_r _ [12] (by decide +kernel) (by decide +kernel)
set_option maxRecDepth 20000 in
theorem gX5_placeChildren_X8_at_n54 : GoodIn wsX5_placeChildren (wsX8_at) := ggX5_placeChildren_X8_at
set_option maxRecDepth 20000 in
theorem ggX5_placeChildren_X8_put : GoodIn wsX5_placeChildren wsX8_put := goodIn_r _ [45] (by decide +kernel) (by decide +kernel)
set_option maxRecDepth 20000 in
theorem gX5_placeChildren_X8_put_n123 : GoodIn wsX5_placeChildren (wsX8_put) := ggX5_placeChildren_X8_put
theorem dX5_placeChildren_0 : decode cX5_placeChildren 0 = .ok (.aload_n 1, 1) := by decide +kernel
theorem dX5_placeChildren_1 : decode cX5_placeChildren 1 = .ok (.iload_n 2, 1) := by decide +kernel
theorem dX5_placeChildren_2 : decode cX5_placeChildren 2 = .ok (.invokevirtual 133, 3) := by decide +kernel
theorem dX5_placeChildren_5 : decode cX5_placeChildren 5 = .ok (.istore_n 3, 1) := by decide +kernel
theorem dX5_placeChildren_6 : decode cX5_placeChildren 6 = .ok (.iload_n 3, 1) := by decide +kernel
theorem dX5_placeChildren_7 : decode cX5_placeChildren 7 = .ok (.ifCond .ne 7, 3) := by decide +kernel
theorem dX5_placeChildren_10 : decode cX5_placeChildren 10 = .ok (.iconst 1, 1) := by decide +kernel
theorem dX5_placeChildren_11 : decode cX5_placeChildren 11 = .ok (.goto 4, 3) := by decide +kernel
theorem dX5_placeChildren_14 : decode cX5_placeChildren 14 = .ok (.iconst 0, 1) := by decide +kernel
theorem dX5_placeChildren_15 : decode cX5_placeChildren 15 = .ok (.istore 4, 2) := by decide +kernel
theorem dX5_placeChildren_17 : decode cX5_placeChildren 17 = .ok (.aload_n 1, 1) := by decide +kernel
theorem dX5_placeChildren_18 : decode cX5_placeChildren 18 = .ok (.iload_n 2, 1) := by decide +kernel
theorem dX5_placeChildren_19 : decode cX5_placeChildren 19 = .ok (.invokevirtual 130, 3) := by decide +kernel
theorem dX5_placeChildren_22 : decode cX5_placeChildren 22 = .ok (.istore 5, 2) := by decide +kernel
theorem dX5_placeChildren_24 : decode cX5_placeChildren 24 = .ok (.aload_n 0, 1) := by decide +kernel
theorem dX5_placeChildren_25 : decode cX5_placeChildren 25 = .ok (.dup, 1) := by decide +kernel
theorem dX5_placeChildren_26 : decode cX5_placeChildren 26 = .ok (.getfield 72, 3) := by decide +kernel
theorem dX5_placeChildren_29 : decode cX5_placeChildren 29 = .ok (.iload 5, 2) := by decide +kernel
theorem dX5_placeChildren_31 : decode cX5_placeChildren 31 = .ok (.iconst 1, 1) := by decide +kernel
theorem dX5_placeChildren_32 : decode cX5_placeChildren 32 = .ok (.isub, 1) := by decide +kernel
theorem dX5_placeChildren_33 : decode cX5_placeChildren 33 = .ok (.aload_n 0, 1) := by decide +kernel
theorem dX5_placeChildren_34 : decode cX5_placeChildren 34 = .ok (.iload_n 2, 1) := by decide +kernel
theorem dX5_placeChildren_35 : decode cX5_placeChildren 35 = .ok (.iload 4, 2) := by decide +kernel
theorem dX5_placeChildren_37 : decode cX5_placeChildren 37 = .ok (.invokevirtual 93, 3) := by decide +kernel
theorem dX5_placeChildren_40 : decode cX5_placeChildren 40 = .ok (.imul, 1) := by decide +kernel
theorem dX5_placeChildren_41 : decode cX5_placeChildren 41 = .ok (.iadd, 1) := by decide +kernel
theorem dX5_placeChildren_42 : decode cX5_placeChildren 42 = .ok (.putfield 72, 3) := by decide +kernel
theorem dX5_placeChildren_45 : decode cX5_placeChildren 45 = .ok (.aload_n 0, 1) := by decide +kernel
theorem dX5_placeChildren_46 : decode cX5_placeChildren 46 = .ok (.iload_n 2, 1) := by decide +kernel
theorem dX5_placeChildren_47 : decode cX5_placeChildren 47 = .ok (.iload_n 3, 1) := by decide +kernel
theorem dX5_placeChildren_48 : decode cX5_placeChildren 48 = .ok (.invokevirtual 101, 3) := by decide +kernel
theorem dX5_placeChildren_51 : decode cX5_placeChildren 51 = .ok (.istore 6, 2) := by decide +kernel
theorem dX5_placeChildren_53 : decode cX5_placeChildren 53 = .ok (.iconst 0, 1) := by decide +kernel
theorem dX5_placeChildren_54 : decode cX5_placeChildren 54 = .ok (.istore 7, 2) := by decide +kernel
theorem dX5_placeChildren_56 : decode cX5_placeChildren 56 = .ok (.iload 7, 2) := by decide +kernel
theorem dX5_placeChildren_58 : decode cX5_placeChildren 58 = .ok (.iload 5, 2) := by decide +kernel
theorem dX5_placeChildren_60 : decode cX5_placeChildren 60 = .ok (.if_icmp .ge 93, 3) := by decide +kernel
theorem dX5_placeChildren_63 : decode cX5_placeChildren 63 = .ok (.aload_n 0, 1) := by decide +kernel
theorem dX5_placeChildren_64 : decode cX5_placeChildren 64 = .ok (.iload_n 2, 1) := by decide +kernel
theorem dX5_placeChildren_65 : decode cX5_placeChildren 65 = .ok (.iload 7, 2) := by decide +kernel
theorem dX5_placeChildren_67 : decode cX5_placeChildren 67 = .ok (.invokevirtual 127, 3) := by decide +kernel
theorem dX5_placeChildren_70 : decode cX5_placeChildren 70 = .ok (.istore 8, 2) := by decide +kernel
theorem dX5_placeChildren_72 : decode cX5_placeChildren 72 = .ok (.aload_n 0, 1) := by decide +kernel
theorem dX5_placeChildren_73 : decode cX5_placeChildren 73 = .ok (.iload 8, 2) := by decide +kernel
theorem dX5_placeChildren_75 : decode cX5_placeChildren 75 = .ok (.iload_n 3, 1) := by decide +kernel
theorem dX5_placeChildren_76 : decode cX5_placeChildren 76 = .ok (.iload 6, 2) := by decide +kernel
theorem dX5_placeChildren_78 : decode cX5_placeChildren 78 = .ok (.aload_n 0, 1) := by decide +kernel
theorem dX5_placeChildren_79 : decode cX5_placeChildren 79 = .ok (.getfield 39, 3) := by decide +kernel
theorem dX5_placeChildren_82 : decode cX5_placeChildren 82 = .ok (.iload 7, 2) := by decide +kernel
theorem dX5_placeChildren_84 : decode cX5_placeChildren 84 = .ok (.invokevirtual 166, 3) := by decide +kernel
theorem dX5_placeChildren_87 : decode cX5_placeChildren 87 = .ok (.invokevirtual 142, 3) := by decide +kernel
theorem dX5_placeChildren_90 : decode cX5_placeChildren 90 = .ok (.aload_n 0, 1) := by decide +kernel
theorem dX5_placeChildren_91 : decode cX5_placeChildren 91 = .ok (.iload 8, 2) := by decide +kernel
theorem dX5_placeChildren_93 : decode cX5_placeChildren 93 = .ok (.iload 4, 2) := by decide +kernel
theorem dX5_placeChildren_95 : decode cX5_placeChildren 95 = .ok (.aload_n 0, 1) := by decide +kernel
theorem dX5_placeChildren_96 : decode cX5_placeChildren 96 = .ok (.iload_n 2, 1) := by decide +kernel
theorem dX5_placeChildren_97 : decode cX5_placeChildren 97 = .ok (.iload 4, 2) := by decide +kernel
theorem dX5_placeChildren_99 : decode cX5_placeChildren 99 = .ok (.invokevirtual 101, 3) := by decide +kernel
theorem dX5_placeChildren_102 : decode cX5_placeChildren 102 = .ok (.aload_n 0, 1) := by decide +kernel
theorem dX5_placeChildren_103 : decode cX5_placeChildren 103 = .ok (.iload_n 2, 1) := by decide +kernel
theorem dX5_placeChildren_104 : decode cX5_placeChildren 104 = .ok (.iload 4, 2) := by decide +kernel
theorem dX5_placeChildren_106 : decode cX5_placeChildren 106 = .ok (.invokevirtual 93, 3) := by decide +kernel
theorem dX5_placeChildren_109 : decode cX5_placeChildren 109 = .ok (.invokevirtual 142, 3) := by decide +kernel
theorem dX5_placeChildren_112 : decode cX5_placeChildren 112 = .ok (.aload_n 0, 1) := by decide +kernel
theorem dX5_placeChildren_113 : decode cX5_placeChildren 113 = .ok (.getfield 30, 3) := by decide +kernel
theorem dX5_placeChildren_116 : decode cX5_placeChildren 116 = .ok (.iload 8, 2) := by decide +kernel
theorem dX5_placeChildren_118 : decode cX5_placeChildren 118 = .ok (.aload_n 0, 1) := by decide +kernel
theorem dX5_placeChildren_119 : decode cX5_placeChildren 119 = .ok (.getfield 30, 3) := by decide +kernel
theorem dX5_placeChildren_122 : decode cX5_placeChildren 122 = .ok (.iload_n 2, 1) := by decide +kernel
theorem dX5_placeChildren_123 : decode cX5_placeChildren 123 = .ok (.invokestatic 54, 3) := by decide +kernel
theorem dX5_placeChildren_126 : decode cX5_placeChildren 126 = .ok (.iconst 1, 1) := by decide +kernel
theorem dX5_placeChildren_127 : decode cX5_placeChildren 127 = .ok (.iadd, 1) := by decide +kernel
theorem dX5_placeChildren_128 : decode cX5_placeChildren 128 = .ok (.invokestatic 123, 3) := by decide +kernel
theorem dX5_placeChildren_131 : decode cX5_placeChildren 131 = .ok (.iload 6, 2) := by decide +kernel
theorem dX5_placeChildren_133 : decode cX5_placeChildren 133 = .ok (.aload_n 0, 1) := by decide +kernel
theorem dX5_placeChildren_134 : decode cX5_placeChildren 134 = .ok (.getfield 39, 3) := by decide +kernel
theorem dX5_placeChildren_137 : decode cX5_placeChildren 137 = .ok (.iload 7, 2) := by decide +kernel
theorem dX5_placeChildren_139 : decode cX5_placeChildren 139 = .ok (.invokevirtual 166, 3) := by decide +kernel
theorem dX5_placeChildren_142 : decode cX5_placeChildren 142 = .ok (.iconst 1, 1) := by decide +kernel
theorem dX5_placeChildren_143 : decode cX5_placeChildren 143 = .ok (.iadd, 1) := by decide +kernel
theorem dX5_placeChildren_144 : decode cX5_placeChildren 144 = .ok (.iadd, 1) := by decide +kernel
theorem dX5_placeChildren_145 : decode cX5_placeChildren 145 = .ok (.istore 6, 2) := by decide +kernel
theorem dX5_placeChildren_147 : decode cX5_placeChildren 147 = .ok (.iinc 7 1, 3) := by decide +kernel
theorem dX5_placeChildren_150 : decode cX5_placeChildren 150 = .ok (.goto (-94), 3) := by decide +kernel
theorem dX5_placeChildren_153 : decode cX5_placeChildren 153 = .ok (.return_, 1) := by decide +kernel
theorem hin_X5_placeChildren_X5 : ∀ w ∈ wsX50, w ∈ wsX5_placeChildren := by decide +kernel
theorem lk_X5_placeChildren_72 : Cond.fieldLink RX5 72 RX5 "dividerCells" "I" ∈ wsX5_placeChildren := by decide +kernel
theorem lk_X5_placeChildren_39 : Cond.fieldLink RX5 39 RX5 "sharing" "LDockTree$Sharing;" ∈ wsX5_placeChildren := by decide +kernel
theorem lk_X5_placeChildren_30 : Cond.fieldLink RX5 30 RX5 "depth" "[I" ∈ wsX5_placeChildren := by decide +kernel
theorem c_placeChildren (hG : GP G) (hP : PlanS S p) (hR : R32 P) (hL : LayS S b) (hA : LayAt mu b L) (hd : b + 8 < p ∨ p + 14 ≤ b + 1) (hRL : R32 L) {sp : Int} : Ct G l yX5_placeChildren wsX5_placeChildren 2 0 0 [.ref p, .ref b, .int (I32 sp)] S n (putK mu p 14 P) la (Dt none S n (putK mu p 14 (pcF P L sp)) la) := by
  have o5 := hP.1
  have o6 := hP.2.1
  have o4 := hL.1
  have bc := gL_b hRL 2 sp
  have ba := gL_b hRL 5 (sp - 32)
  refine Ct.ofV (cc := cX5_placeChildren) (nL := 9) (ret := none) [some (.ref p), some (.ref b), some (.int (I32 sp)), none, none, none, none, none, none] hG (by decide) rfl (Nat.le_of_ble_eq_true rfl) rfl ?_
  rintro X rfl rfl C hcl hsl E
  have loop : ∀ (d j : Nat) (w8 : Option Value), j + d = (gL L 2 sp).toNat → V X 56 [some (.ref p), some (.ref b), some (.int (I32 sp)), some (.int (I32 (gL L 5 (sp - 32)))), some (.int (I32 (pcA L sp))), some (.int (I32 (gL L 2 sp))), some (.int (I32 (pcG P L sp j).2)), some (.int (I32 (j : Int))), w8] [] S n (putK mu p 14 (pcG P L sp j).1) la 0 0 := by
    intro d
    induction d with
    | zero =>
      intro j w8 hj
      have e : j = (gL L 2 sp).toNat := by omega
      refine V_iload C dX5_placeChildren_56 rfl ?_
      refine V_iload C dX5_placeChildren_58 rfl ?_
      refine V_icmp_ge C 153 dX5_placeChildren_60 (by decide) (by omega) (by omega) (fun z => ?_) (fun z => ?_)
      · refine V_return C E dX5_placeChildren_153 (by omega) (by omega) ?_
        rw [pcF, ← e]; exact Dt_rfl
      · exact absurd z (by omega)
    | succ d ih =>
      intro j w8 hj
      have hn : ((j + 1 : Nat) : Int) = (j : Int) + 1 := by omega
      have h9 := ih (j + 1) (some (.int (I32 (mo (pcG P L sp j).1 sp j)))) (by omega)
      rw [pcG, hn] at h9
      refine V_iload C dX5_placeChildren_56 rfl ?_
      refine V_iload C dX5_placeChildren_58 rfl ?_
      refine V_icmp_ge C 153 dX5_placeChildren_60 (by decide) (by omega) (by omega) (fun z => ?_) (fun z => ?_)
      · exact absurd z (by omega)
      · refine V_aload_n C dX5_placeChildren_63 rfl ?_
        refine V_iload_n C dX5_placeChildren_64 rfl ?_
        refine V_iload C dX5_placeChildren_65 rfl ?_
        refine V_callVD (nA := 2) C dX5_placeChildren_67 (c_memberOf C.gp hP (by omega)) gX5_placeChildren_X5_memberOf rfl o5 rfl (by decide +kernel) rfl (by decide) (by decide) (Nat.le_of_ble_eq_true rfl) ⟨by omega, by omega⟩ rfl ?_
        refine V_istore C dX5_placeChildren_70 rfl (by decide) ?_
        refine V_aload_n C dX5_placeChildren_72 rfl ?_
        refine V_iload C dX5_placeChildren_73 rfl ?_
        refine V_iload_n C dX5_placeChildren_75 rfl ?_
        refine V_iload C dX5_placeChildren_76 rfl ?_
        refine V_aload_n C dX5_placeChildren_78 rfl ?_
        refine V_getR C 8 dX5_placeChildren_79 o5 rfl hin_X5_placeChildren_X5 (by decide) lk_X5_placeChildren_39 rfl rfl ?_
        refine V_iload C dX5_placeChildren_82 rfl ?_
        refine V_callVD (nA := 1) C dX5_placeChildren_84 (c_givenTo C.gp hP) gX5_placeChildren_X6_givenTo rfl o6 rfl (by decide +kernel) rfl (by decide) (by decide) (Nat.le_of_ble_eq_true rfl) ⟨by omega, by omega⟩ rfl ?_
        refine V_callVD (nA := 4) C dX5_placeChildren_87 (c_setSpan C.gp hP) gX5_placeChildren_X5_setSpan rfl o5 rfl (by decide +kernel) rfl (by decide) (by decide) (Nat.le_of_ble_eq_true rfl) ⟨by omega, by omega⟩ rfl ?_
        refine V_aload_n C dX5_placeChildren_90 rfl ?_
        refine V_iload C dX5_placeChildren_91 rfl ?_
        refine V_iload C dX5_placeChildren_93 rfl ?_
        refine V_aload_n C dX5_placeChildren_95 rfl ?_
        refine V_iload_n C dX5_placeChildren_96 rfl ?_
        refine V_iload C dX5_placeChildren_97 rfl ?_
        refine V_callVD (nA := 2) C dX5_placeChildren_99 (c_startOf C.gp hP) gX5_placeChildren_X5_startOf rfl o5 rfl (by decide +kernel) rfl (by decide) (by decide) (Nat.le_of_ble_eq_true rfl) ⟨by omega, by omega⟩ rfl ?_
        refine V_aload_n C dX5_placeChildren_102 rfl ?_
        refine V_iload_n C dX5_placeChildren_103 rfl ?_
        refine V_iload C dX5_placeChildren_104 rfl ?_
        refine V_callVD (nA := 2) C dX5_placeChildren_106 (c_sizeOf C.gp hP) gX5_placeChildren_X5_sizeOf rfl o5 rfl (by decide +kernel) rfl (by decide) (by decide) (Nat.le_of_ble_eq_true rfl) ⟨by omega, by omega⟩ rfl ?_
        refine V_callVD (nA := 4) C dX5_placeChildren_109 (c_setSpan C.gp hP) gX5_placeChildren_X5_setSpan rfl o5 rfl (by decide +kernel) rfl (by decide) (by decide) (Nat.le_of_ble_eq_true rfl) ⟨by omega, by omega⟩ rfl ?_
        refine V_aload_n C dX5_placeChildren_112 rfl ?_
        refine V_getR C 6 dX5_placeChildren_113 o5 rfl hin_X5_placeChildren_X5 (by decide) lk_X5_placeChildren_30 rfl rfl ?_
        refine V_iload C dX5_placeChildren_116 rfl ?_
        refine V_aload_n C dX5_placeChildren_118 rfl ?_
        refine V_getR C 6 dX5_placeChildren_119 o5 rfl hin_X5_placeChildren_X5 (by decide) lk_X5_placeChildren_30 rfl rfl ?_
        refine V_iload_n C dX5_placeChildren_122 rfl ?_
        refine V_callSND (nA := 2) (host := "DockTree") C dX5_placeChildren_123 (c_aK C.gp hP 7 49 rfl (by decide)) gX5_placeChildren_X8_at_n54 (by decide +kernel) (by decide +kernel) (by decide +kernel) rfl (by decide +kernel) rfl (by decide) (by decide) (Nat.le_of_ble_eq_true rfl) ⟨by omega, by omega⟩ rfl ?_
        refine V_iconst C dX5_placeChildren_126 ?_
        refine V_iadd C dX5_placeChildren_127 ?_
        refine V_callSND (nA := 3) (host := "DockTree") C dX5_placeChildren_128 (c_pK C.gp hP 7 49 rfl (by decide)) gX5_placeChildren_X8_put_n123 (by decide +kernel) (by decide +kernel) (by decide +kernel) rfl (by decide +kernel) rfl (by decide) (by decide) (Nat.le_of_ble_eq_true rfl) ⟨by omega, by omega⟩ rfl ?_
        refine V_iload C dX5_placeChildren_131 rfl ?_
        refine V_aload_n C dX5_placeChildren_133 rfl ?_
        refine V_getR C 8 dX5_placeChildren_134 o5 rfl hin_X5_placeChildren_X5 (by decide) lk_X5_placeChildren_39 rfl rfl ?_
        refine V_iload C dX5_placeChildren_137 rfl ?_
        refine V_callVD (nA := 1) C dX5_placeChildren_139 (c_givenTo C.gp hP) gX5_placeChildren_X6_givenTo rfl o6 rfl (by decide +kernel) rfl (by decide) (by decide) (Nat.le_of_ble_eq_true rfl) ⟨by omega, by omega⟩ rfl ?_
        refine V_iconst C dX5_placeChildren_142 ?_
        refine V_iadd C dX5_placeChildren_143 ?_
        refine V_iadd C dX5_placeChildren_144 ?_
        refine V_istore C dX5_placeChildren_145 rfl (by decide) ?_
        refine V_iinc C dX5_placeChildren_147 rfl rfl (by decide) ?_
        refine V_goto C 56 dX5_placeChildren_150 (by decide) ?_
        exact h9
  have rest : V X 15 [some (.ref p), some (.ref b), some (.int (I32 sp)), some (.int (I32 (gL L 5 (sp - 32)))), none, none, none, none, none] [.int (I32 (pcA L sp))] S n (putK mu p 14 P) la 0 0 := by
    refine V_istore C dX5_placeChildren_15 rfl (by decide) ?_
    refine V_aload_n C dX5_placeChildren_17 rfl ?_
    refine V_iload_n C dX5_placeChildren_18 rfl ?_
    refine V_callVD (nA := 1) C dX5_placeChildren_19 (r_countOf C.gp hL (LayAt_putK hA hd)) gX5_placeChildren_X4_countOf rfl o4 rfl (by decide +kernel) rfl (by decide) (by decide) (Nat.le_of_ble_eq_true rfl) ⟨by omega, by omega⟩ rfl ?_
    refine V_istore C dX5_placeChildren_22 rfl (by decide) ?_
    refine V_aload_n C dX5_placeChildren_24 rfl ?_
    refine V_dup C dX5_placeChildren_25 rfl ?_
    refine V_getJ C 12 12 rfl dX5_placeChildren_26 o5 rfl hin_X5_placeChildren_X5 (by decide) lk_X5_placeChildren_72 rfl rfl (putK_0 (by decide) _) ?_
    refine V_iload C dX5_placeChildren_29 rfl ?_
    refine V_iconst C dX5_placeChildren_31 ?_
    refine V_isub C dX5_placeChildren_32 ?_
    refine V_aload_n C dX5_placeChildren_33 rfl ?_
    refine V_iload_n C dX5_placeChildren_34 rfl ?_
    refine V_iload C dX5_placeChildren_35 rfl ?_
    refine V_callVD (nA := 2) C dX5_placeChildren_37 (c_sizeOf C.gp hP) gX5_placeChildren_X5_sizeOf rfl o5 rfl (by decide +kernel) rfl (by decide) (by decide) (Nat.le_of_ble_eq_true rfl) ⟨by omega, by omega⟩ rfl ?_
    refine V_imul C dX5_placeChildren_40 ?_
    refine V_iadd C dX5_placeChildren_41 ?_
    refine V_wr ?_
    refine V_putJ C 12 12 rfl dX5_placeChildren_42 o5 rfl hin_X5_placeChildren_X5 tyX5 tyX5_ok nmX5 (by decide) lk_X5_placeChildren_72 rfl rfl (by decide +kernel) rfl (up_putK0 (by decide) _ _) ?_
    refine V_aload_n C dX5_placeChildren_45 rfl ?_
    refine V_iload_n C dX5_placeChildren_46 rfl ?_
    refine V_iload_n C dX5_placeChildren_47 rfl ?_
    refine V_callVD (nA := 2) C dX5_placeChildren_48 (c_startOf C.gp hP) gX5_placeChildren_X5_startOf rfl o5 rfl (by decide +kernel) rfl (by decide) (by decide) (Nat.le_of_ble_eq_true rfl) ⟨by omega, by omega⟩ rfl ?_
    refine V_istore C dX5_placeChildren_51 rfl (by decide) ?_
    refine V_iconst C dX5_placeChildren_53 ?_
    refine V_istore C dX5_placeChildren_54 rfl (by decide) ?_
    exact loop (gL L 2 sp).toNat 0 none (by omega)
  refine V_aload_n C dX5_placeChildren_0 rfl ?_
  refine V_iload_n C dX5_placeChildren_1 rfl ?_
  refine V_callVD (nA := 1) C dX5_placeChildren_2 (r_axisOf C.gp hL (LayAt_putK hA hd)) gX5_placeChildren_X4_axisOf rfl o4 rfl (by decide +kernel) rfl (by decide) (by decide) (Nat.le_of_ble_eq_true rfl) ⟨by omega, by omega⟩ rfl ?_
  refine V_istore_n C dX5_placeChildren_5 rfl (by decide) ?_
  refine V_iload_n C dX5_placeChildren_6 rfl ?_
  refine V_if_ne C 14 dX5_placeChildren_7 (by decide) (by omega) (fun z => ?_) (fun z => ?_)
  · refine V_iconst C dX5_placeChildren_14 ?_
    rw [pcA, if_neg z] at rest
    exact rest
  · refine V_iconst C dX5_placeChildren_10 ?_
    refine V_goto C 15 dX5_placeChildren_11 (by decide) ?_
    rw [pcA, if_pos z] at rest
    exact rest
/-- the plan of a layout -/
def mdG (L : Mem) (f : Int → Int) : Nat → Mem → Mem
  | 0, Q => Q
  | r + 1, Q => mdG L f r (msF (msF Q L f (gK Q 2 31 r) 0) L f (gK Q 2 31 r) 1)
def wkS (L Q : Mem) (nd : Int) : Mem := if 32 ≤ nd ∧ nd < 47 then pcF (scF Q L nd) L nd else Q
def wkG (P L : Mem) : Nat → Mem
  | 0 => P
  | j + 1 => wkS L (wkG P L j) (gK (wkG P L j) 2 31 j)
def wkM (P L : Mem) (f : Int → Int) : Mem := mdG L f (lnF (lmF P L) L 0 9).toNat (lnF (lmF P L) L)
def wkZ (P L : Mem) (f : Int → Int) (w h : Int) : Mem := up (up (prF (pfF (wkM P L f) L) w h) 0 11 0) 0 12 0
def wkF (P L : Mem) (f : Int → Int) (w h : Int) : Mem := wkG (wkZ P L f w h) L (wkZ P L f w h 0 9).toNat
theorem mdG_R {L : Mem} {f : Int → Int} : ∀ (r : Nat) (Q : Mem), R32 Q → R32 (mdG L f r Q)
  | 0, Q, h => h
  | r + 1, Q, h => mdG_R r _ (R32_sK (R32_sK h _ _ _ _) _ _ _ _)
theorem mdG_k {L : Mem} {f : Int → Int} {k : Nat} (hk : k ≠ 4) (i : Int) : ∀ (r : Nat) (Q : Mem), mdG L f r Q k i = Q k i
  | 0, Q => rfl
  | r + 1, Q => by rw [mdG, mdG_k hk i r, msF, sK_ne hk, msF, sK_ne hk]
theorem wkS_R {Q : Mem} (h : R32 Q) (L : Mem) (nd : Int) : R32 (wkS L Q nd) := by
  unfold wkS
  split
  · exact pcG_R (scF_R h L nd) L nd _
  · exact h
theorem wkS_9 (L Q : Mem) (nd : Int) : wkS L Q nd 0 9 = Q 0 9 := by
  unfold wkS
  split
  · exact (pcG_9 _ _ _ _).trans (scF_9 _ _ _)
  · rfl
theorem wkG_R {P : Mem} (h : R32 P) (L : Mem) : ∀ j, R32 (wkG P L j)
  | 0 => h
  | j + 1 => wkS_R (wkG_R h L j) _ _
theorem wkG_9 (P L : Mem) : ∀ j, wkG P L j 0 9 = P 0 9
  | 0 => rfl
  | j + 1 => (wkS_9 _ _ _).trans (wkG_9 P L j)
theorem lnI_R {P : Mem} (h : R32 P) : R32 (lnI P) := R32_sK (R32_up (R32_up h _ _ (by omega)) _ _ (by omega)) _ _ _ _
theorem lnF_R {P : Mem} (h : R32 P) (L : Mem) : R32 (lnF P L) := lnG_R _ _ _ (lnI_R h)
theorem lnF_9 (P L : Mem) : 0 ≤ lnF P L 0 9 ∧ lnF P L 0 9 ≤ 31 := lnG_9 31 _ _ (by rw [lnI, sK_ne (by decide), up_i _ _ _ (by decide), up_s]; rfl) (by omega)
theorem wkZ_R {P : Mem} (h : R32 P) (L : Mem) (f : Int → Int) (x y : Int) : R32 (wkZ P L f x y) := R32_up (R32_up (prF_R (pfG_R (mdG_R _ _ (lnF_R (lmG_R h L 49) L)) L _) x y) _ _ (by omega)) _ _ (by omega)
theorem wkF_R {P : Mem} (h : R32 P) (L : Mem) (f : Int → Int) (x y : Int) : R32 (wkF P L f x y) := wkG_R (wkZ_R h L f x y) L _
theorem wkZ_9 (P L : Mem) (f : Int → Int) (x y : Int) : wkZ P L f x y 0 9 = lnF (lmF P L) L 0 9 := by
  unfold wkZ
  rw [up_i _ _ _ (by decide), up_i _ _ _ (by decide), prF_0, pfF, pfG_0, wkM, mdG_k (by decide)]
set_option maxRecDepth 20000 in
theorem ggX5_work_X5_listMembers : GoodIn wsX5_work wsX5_listMembers := goodIn_r _ [9, 10, 11, 12, 13, 14, 15, 16, 17, 18, 19, 20, 21, 22, 23, 24, 25, 26, 27, 28, 29, 30, 153, 154, 155, 156, 157, 158, 159, 160, 161, 162, 163, 164, 165, 166, 167, 168, 169, 170, 171, 172, 173] (by decide +kernel) (by decide +kernel)
set_option maxRecDepth 20000 in
theorem gX5_work_X5_listMembers : GoodIn wsX5_work (wsV RX5 43 RX5 yX5_listMembers wsX5_listMembers) := goodIn_app (goodIn_of _ (by decide +kernel)) ggX5_work_X5_listMembers
set_option maxRecDepth 20000 in
theorem ggX5_work_X5_listNodes : GoodIn wsX5_work wsX5_listNodes := goodIn_r _ [34, 1, 35, 36, 2, 37, 38, 39, 8, 40, 10, 21, 22, 23, 29, 30, 41, 42, 43, 18, 44, 45, 46, 47, 153, 154, 155, 156, 157, 158, 159, 160, 161, 162, 163, 164, 165, 166, 167, 168, 169, 170, 171, 172, 173] (by decide +kernel) (by decide +kernel)
set_option maxRecDepth 20000 in
theorem gX5_work_X5_listNodes : GoodIn wsX5_work (wsV RX5 47 RX5 yX5_listNodes wsX5_listNodes) := goodIn_app (goodIn_of _ (by decide +kernel)) ggX5_work_X5_listNodes
set_option maxRecDepth 20000 in
theorem ggX5_work_X8_at : GoodIn wsX5_work wsX8_at := goodIn_r _ [23] (by decide +kernel) (by decide +kernel)
set_option maxRecDepth 20000 in
theorem gX5_work_X8_at_n54 : GoodIn wsX5_work (wsX8_at) := ggX5_work_X8_at
set_option maxRecDepth 20000 in
theorem ggX5_work_X5_measure : GoodIn wsX5_work wsX5_measure := goodIn_r _ [51, 52, 53, 54, 55, 56, 46, 22, 47, 41, 42, 43, 18, 44, 45, 21, 23, 37, 38, 39, 8, 40, 10, 57, 58, 59, 60, 61, 29, 30, 153, 154, 155, 156, 157, 158, 159, 160, 161, 162, 163, 164, 165, 166, 167, 168, 169, 170, 171, 172, 173] (by decide +kernel) (by decide +kernel)
set_option maxRecDepth 20000 in
theorem gX5_work_X5_measure : GoodIn wsX5_work (wsV RX5 58 RX5 yX5_measure wsX5_measure) := goodIn_app (goodIn_of _ (by decide +kernel)) ggX5_work_X5_measure
set_option maxRecDepth 20000 in
theorem ggX5_work_X5_placeFloating : GoodIn wsX5_work wsX5_placeFloating := goodIn_r _ [65, 66, 41, 42, 43, 18, 44, 45, 21, 22, 23, 37, 38, 39, 8, 40, 10, 67, 68, 69, 70, 71, 72, 73, 74, 75, 76, 77, 78, 79, 80, 81, 82, 29, 30, 153, 154, 155, 156, 157, 158, 159, 160, 161, 162, 163, 164, 165, 166, 167, 168, 169, 170, 171, 172, 173] (by decide +kernel) (by decide +kernel)
set_option maxRecDepth 20000 in
theorem gX5_work_X5_placeFloating : GoodIn wsX5_work (wsV RX5 62 RX5 yX5_placeFloating wsX5_placeFloating) := goodIn_app (goodIn_of _ (by decide +kernel)) ggX5_work_X5_placeFloating
set_option maxRecDepth 20000 in
theorem ggX5_work_X5_placeRoot : GoodIn wsX5_work wsX5_placeRoot := goodIn_r _ [86, 66, 37, 38, 39, 8, 40, 10, 21, 22, 23, 77, 78, 79, 80, 81, 82, 29, 30, 153, 154, 155, 156, 157, 158, 159, 160, 161, 162, 163, 164, 165] (by decide +kernel) (by decide +kernel)
set_option maxRecDepth 20000 in
theorem gX5_work_X5_placeRoot : GoodIn wsX5_work (wsV RX5 65 RX5 yX5_placeRoot wsX5_placeRoot) := goodIn_app (goodIn_of _ (by decide +kernel)) ggX5_work_X5_placeRoot
set_option maxRecDepth 20000 in
theorem ggX5_work_X8_isSplit : GoodIn wsX5_work wsX8_isSplit := goodIn_r _ [47] (by decide +kernel) (by decide +kernel)
set_option maxRecDepth 20000 in
theorem gX5_work_X8_isSplit_n75 : GoodIn wsX5_work (wsX8_isSplit) := ggX5_work_X8_isSplit
set_option maxRecDepth 20000 in
theorem ggX5_work_X5_shareAmongChildren : GoodIn wsX5_work wsX5_shareAmongChildren := goodIn_s _ [(90, 1), (53, 4), (91, 1), (3, 1), (92, 1), (57, 3), (18, 1), (60, 2), (21, 3), (41, 5), (93, 3), (8, 1), (96, 1), (82, 1), (97, 7), (37, 4), (10, 1), (104, 4), (52, 1), (108, 12), (29, 2), (120, 21), (153, 27)] (by rfl) (by decide +kernel)
set_option maxRecDepth 20000 in
theorem gX5_work_X5_shareAmongChildren : GoodIn wsX5_work (wsV RX5 79 RX5 yX5_shareAmongChildren wsX5_shareAmongChildren) := goodIn_app (goodIn_of _ (by decide +kernel)) ggX5_work_X5_shareAmongChildren
set_option maxRecDepth 20000 in
theorem ggX5_work_X5_placeChildren : GoodIn wsX5_work wsX5_placeChildren := goodIn_r _ [144, 4, 91, 66, 57, 58, 59, 18, 60, 61, 21, 22, 23, 41, 42, 43, 44, 45, 93, 94, 95, 8, 96, 82, 145, 146, 147, 148, 81, 37, 38, 39, 40, 10, 149, 150, 151, 100, 152, 128, 77, 78, 79, 80, 29, 30, 153, 154, 155, 156, 157, 158, 159, 160, 161, 162, 163, 164, 165, 166, 167, 168, 169, 170, 171, 172, 173, 174, 175, 176, 177, 178, 179] (by decide +kernel) (by decide +kernel)
set_option maxRecDepth 20000 in
theorem gX5_work_X5_placeChildren : GoodIn wsX5_work (wsV RX5 83 RX5 yX5_placeChildren wsX5_placeChildren) := goodIn_app (goodIn_of _ (by decide +kernel)) ggX5_work_X5_placeChildren
theorem dX5_work_0 : decode cX5_work 0 = .ok (.aload_n 0, 1) := by decide +kernel
theorem dX5_work_1 : decode cX5_work 1 = .ok (.aload_n 1, 1) := by decide +kernel
theorem dX5_work_2 : decode cX5_work 2 = .ok (.invokevirtual 43, 3) := by decide +kernel
theorem dX5_work_5 : decode cX5_work 5 = .ok (.aload_n 0, 1) := by decide +kernel
theorem dX5_work_6 : decode cX5_work 6 = .ok (.aload_n 1, 1) := by decide +kernel
theorem dX5_work_7 : decode cX5_work 7 = .ok (.invokevirtual 47, 3) := by decide +kernel
theorem dX5_work_10 : decode cX5_work 10 = .ok (.aload_n 0, 1) := by decide +kernel
theorem dX5_work_11 : decode cX5_work 11 = .ok (.getfield 50, 3) := by decide +kernel
theorem dX5_work_14 : decode cX5_work 14 = .ok (.iconst 1, 1) := by decide +kernel
theorem dX5_work_15 : decode cX5_work 15 = .ok (.isub, 1) := by decide +kernel
theorem dX5_work_16 : decode cX5_work 16 = .ok (.istore 5, 2) := by decide +kernel
theorem dX5_work_18 : decode cX5_work 18 = .ok (.iload 5, 2) := by decide +kernel
theorem dX5_work_20 : decode cX5_work 20 = .ok (.ifCond .lt 38, 3) := by decide +kernel
theorem dX5_work_23 : decode cX5_work 23 = .ok (.aload_n 0, 1) := by decide +kernel
theorem dX5_work_24 : decode cX5_work 24 = .ok (.getfield 15, 3) := by decide +kernel
theorem dX5_work_27 : decode cX5_work 27 = .ok (.iload 5, 2) := by decide +kernel
theorem dX5_work_29 : decode cX5_work 29 = .ok (.invokestatic 54, 3) := by decide +kernel
theorem dX5_work_32 : decode cX5_work 32 = .ok (.istore 6, 2) := by decide +kernel
theorem dX5_work_34 : decode cX5_work 34 = .ok (.aload_n 0, 1) := by decide +kernel
theorem dX5_work_35 : decode cX5_work 35 = .ok (.aload_n 1, 1) := by decide +kernel
theorem dX5_work_36 : decode cX5_work 36 = .ok (.aload_n 2, 1) := by decide +kernel
theorem dX5_work_37 : decode cX5_work 37 = .ok (.iload 6, 2) := by decide +kernel
theorem dX5_work_39 : decode cX5_work 39 = .ok (.iconst 0, 1) := by decide +kernel
theorem dX5_work_40 : decode cX5_work 40 = .ok (.invokevirtual 58, 3) := by decide +kernel
theorem dX5_work_43 : decode cX5_work 43 = .ok (.aload_n 0, 1) := by decide +kernel
theorem dX5_work_44 : decode cX5_work 44 = .ok (.aload_n 1, 1) := by decide +kernel
theorem dX5_work_45 : decode cX5_work 45 = .ok (.aload_n 2, 1) := by decide +kernel
theorem dX5_work_46 : decode cX5_work 46 = .ok (.iload 6, 2) := by decide +kernel
theorem dX5_work_48 : decode cX5_work 48 = .ok (.iconst 1, 1) := by decide +kernel
theorem dX5_work_49 : decode cX5_work 49 = .ok (.invokevirtual 58, 3) := by decide +kernel
theorem dX5_work_52 : decode cX5_work 52 = .ok (.iinc 5 (-1), 3) := by decide +kernel
theorem dX5_work_55 : decode cX5_work 55 = .ok (.goto (-37), 3) := by decide +kernel
theorem dX5_work_58 : decode cX5_work 58 = .ok (.aload_n 0, 1) := by decide +kernel
theorem dX5_work_59 : decode cX5_work 59 = .ok (.aload_n 1, 1) := by decide +kernel
theorem dX5_work_60 : decode cX5_work 60 = .ok (.invokevirtual 62, 3) := by decide +kernel
theorem dX5_work_63 : decode cX5_work 63 = .ok (.aload_n 0, 1) := by decide +kernel
theorem dX5_work_64 : decode cX5_work 64 = .ok (.iload_n 3, 1) := by decide +kernel
theorem dX5_work_65 : decode cX5_work 65 = .ok (.iload 4, 2) := by decide +kernel
theorem dX5_work_67 : decode cX5_work 67 = .ok (.invokevirtual 65, 3) := by decide +kernel
theorem dX5_work_70 : decode cX5_work 70 = .ok (.aload_n 0, 1) := by decide +kernel
theorem dX5_work_71 : decode cX5_work 71 = .ok (.iconst 0, 1) := by decide +kernel
theorem dX5_work_72 : decode cX5_work 72 = .ok (.putfield 69, 3) := by decide +kernel
theorem dX5_work_75 : decode cX5_work 75 = .ok (.aload_n 0, 1) := by decide +kernel
theorem dX5_work_76 : decode cX5_work 76 = .ok (.iconst 0, 1) := by decide +kernel
theorem dX5_work_77 : decode cX5_work 77 = .ok (.putfield 72, 3) := by decide +kernel
theorem dX5_work_80 : decode cX5_work 80 = .ok (.iconst 0, 1) := by decide +kernel
theorem dX5_work_81 : decode cX5_work 81 = .ok (.istore 5, 2) := by decide +kernel
theorem dX5_work_83 : decode cX5_work 83 = .ok (.iload 5, 2) := by decide +kernel
theorem dX5_work_85 : decode cX5_work 85 = .ok (.aload_n 0, 1) := by decide +kernel
theorem dX5_work_86 : decode cX5_work 86 = .ok (.getfield 50, 3) := by decide +kernel
theorem dX5_work_89 : decode cX5_work 89 = .ok (.if_icmp .ge 42, 3) := by decide +kernel
theorem dX5_work_92 : decode cX5_work 92 = .ok (.aload_n 0, 1) := by decide +kernel
theorem dX5_work_93 : decode cX5_work 93 = .ok (.getfield 15, 3) := by decide +kernel
theorem dX5_work_96 : decode cX5_work 96 = .ok (.iload 5, 2) := by decide +kernel
theorem dX5_work_98 : decode cX5_work 98 = .ok (.invokestatic 54, 3) := by decide +kernel
theorem dX5_work_101 : decode cX5_work 101 = .ok (.istore 6, 2) := by decide +kernel
theorem dX5_work_103 : decode cX5_work 103 = .ok (.iload 6, 2) := by decide +kernel
theorem dX5_work_105 : decode cX5_work 105 = .ok (.invokestatic 75, 3) := by decide +kernel
theorem dX5_work_108 : decode cX5_work 108 = .ok (.ifCond .eq 17, 3) := by decide +kernel
theorem dX5_work_111 : decode cX5_work 111 = .ok (.aload_n 0, 1) := by decide +kernel
theorem dX5_work_112 : decode cX5_work 112 = .ok (.aload_n 1, 1) := by decide +kernel
theorem dX5_work_113 : decode cX5_work 113 = .ok (.iload 6, 2) := by decide +kernel
theorem dX5_work_115 : decode cX5_work 115 = .ok (.invokevirtual 79, 3) := by decide +kernel
theorem dX5_work_118 : decode cX5_work 118 = .ok (.aload_n 0, 1) := by decide +kernel
theorem dX5_work_119 : decode cX5_work 119 = .ok (.aload_n 1, 1) := by decide +kernel
theorem dX5_work_120 : decode cX5_work 120 = .ok (.iload 6, 2) := by decide +kernel
theorem dX5_work_122 : decode cX5_work 122 = .ok (.invokevirtual 83, 3) := by decide +kernel
theorem dX5_work_125 : decode cX5_work 125 = .ok (.iinc 5 1, 3) := by decide +kernel
theorem dX5_work_128 : decode cX5_work 128 = .ok (.goto (-45), 3) := by decide +kernel
theorem dX5_work_131 : decode cX5_work 131 = .ok (.return_, 1) := by decide +kernel
theorem hin_X5_work_X5 : ∀ w ∈ wsX50, w ∈ wsX5_work := by decide +kernel
theorem lk_X5_work_50 : Cond.fieldLink RX5 50 RX5 "nodes" "I" ∈ wsX5_work := by decide +kernel
theorem lk_X5_work_15 : Cond.fieldLink RX5 15 RX5 "order" "[I" ∈ wsX5_work := by decide +kernel
theorem lk_X5_work_69 : Cond.fieldLink RX5 69 RX5 "tightSplits" "I" ∈ wsX5_work := by decide +kernel
theorem lk_X5_work_72 : Cond.fieldLink RX5 72 RX5 "dividerCells" "I" ∈ wsX5_work := by decide +kernel
theorem c_work (hG : GP G) (hP : PlanS S p) (hR : R32 P) (hL : LayS S b) (hA : LayAt mu b L) (hd : b + 8 < p ∨ p + 14 ≤ b + 1) (hRL : R32 L) (hC : ∀ i, -16777216 ≤ gL L 2 i ∧ gL L 2 i ≤ 16777216) {q : Nat} {f : Int → Int} (hq : hasS S q (.inl (0, 32))) (hqd : q < p ∨ p + 14 ≤ q) (hqf : ∀ i, mu q i = f i) (hf : F32 f) {w h : Int} : Ct G l yX5_work wsX5_work 4 0 0 [.ref p, .ref b, .ref q, .int (I32 w), .int (I32 h)] S n (putK mu p 14 P) la (Dt none S n (putK mu p 14 (wkF P L f w h)) la) := by
  have o5 := hP.1
  have o4 := hL.1
  have hR1 : R32 (lmF P L) := lmG_R hR L 49
  have hR2 := lnF_R hR1 L
  have h9 := lnF_9 (lmF P L) L
  have hR3 := wkZ_R hR L f w h
  have hz9 := wkZ_9 P L f w h
  refine Ct.ofV (cc := cX5_work) (nL := 7) (ret := none) [some (.ref p), some (.ref b), some (.ref q), some (.int (I32 w)), some (.int (I32 h)), none, none] hG (by decide) rfl (Nat.le_of_ble_eq_true rfl) rfl ?_
  rintro X rfl rfl C hcl hsl E
  have loop2 : ∀ (d j : Nat) (w6 : Option Value), j + d = (wkZ P L f w h 0 9).toNat → V X 83 [some (.ref p), some (.ref b), some (.ref q), some (.int (I32 w)), some (.int (I32 h)), some (.int (I32 (j : Int))), w6] [] S n (putK mu p 14 (wkG (wkZ P L f w h) L j)) la 0 0 := by
    intro d
    induction d with
    | zero =>
      intro j w6 hj
      have e : j = (wkZ P L f w h 0 9).toNat := by omega
      refine V_iload C dX5_work_83 rfl ?_
      refine V_aload_n C dX5_work_85 rfl ?_
      refine V_getJ C 9 9 rfl dX5_work_86 o5 rfl hin_X5_work_X5 (by decide) lk_X5_work_50 rfl rfl (putK_0 (by decide) _) ?_
      rw [wkG_9]
      refine V_icmp_ge C 131 dX5_work_89 (by decide) (by omega) (by omega) (fun z => ?_) (fun z => ?_)
      · refine V_return C E dX5_work_131 (by omega) (by omega) ?_
        rw [wkF, ← e]; exact Dt_rfl
      · exact absurd z (by omega)
    | succ d ih =>
      intro j w6 hj
      have hn : ((j + 1 : Nat) : Int) = (j : Int) + 1 := by omega
      have hRj := wkG_R hR3 L j
      have bn := R32_gK hRj 2 31 j
      have bs := spF_b (gK (wkG (wkZ P L f w h) L j) 2 31 j)
      have h8 := ih (j + 1) (some (.int (I32 (gK (wkG (wkZ P L f w h) L j) 2 31 j)))) (by omega)
      rw [wkG, wkS, hn] at h8
      refine V_iload C dX5_work_83 rfl ?_
      refine V_aload_n C dX5_work_85 rfl ?_
      refine V_getJ C 9 9 rfl dX5_work_86 o5 rfl hin_X5_work_X5 (by decide) lk_X5_work_50 rfl rfl (putK_0 (by decide) _) ?_
      rw [wkG_9]
      refine V_icmp_ge C 131 dX5_work_89 (by decide) (by omega) (by omega) (fun z => ?_) (fun z => ?_)
      · exact absurd z (by omega)
      · refine V_aload_n C dX5_work_92 rfl ?_
        refine V_getR C 1 dX5_work_93 o5 rfl hin_X5_work_X5 (by decide) lk_X5_work_15 rfl rfl ?_
        refine V_iload C dX5_work_96 rfl ?_
        refine V_callSND (nA := 2) (host := "DockTree") C dX5_work_98 (c_aK C.gp hP 2 31 rfl (by decide)) gX5_work_X8_at_n54 (by decide +kernel) (by decide +kernel) (by decide +kernel) rfl (by decide +kernel) rfl (by decide) (by decide) (Nat.le_of_ble_eq_true rfl) ⟨by omega, by omega⟩ rfl ?_
        refine V_istore C dX5_work_101 rfl (by decide) ?_
        refine V_iload C dX5_work_103 rfl ?_
        refine V_callSND (nA := 1) (host := "DockTree") C dX5_work_105 (c_isSplit C.gp (by omega)) gX5_work_X8_isSplit_n75 (by decide +kernel) (by decide +kernel) (by decide +kernel) rfl (by decide +kernel) rfl (by decide) (by decide) (Nat.le_of_ble_eq_true rfl) ⟨by omega, by omega⟩ rfl ?_
        refine V_if_eq C 125 dX5_work_108 (by decide) (by omega) (fun z1 => ?_) (fun z1 => ?_)
        · rw [if_neg (fun y => spF_1.mpr y z1)] at h8
          refine V_iinc C dX5_work_125 rfl rfl (by decide) ?_
          refine V_goto C 83 dX5_work_128 (by decide) ?_
          exact h8
        · rw [if_pos (spF_1.mp z1)] at h8
          refine V_aload_n C dX5_work_111 rfl ?_
          refine V_aload_n C dX5_work_112 rfl ?_
          refine V_iload C dX5_work_113 rfl ?_
          refine V_callVD (nA := 2) C dX5_work_115 (c_shareAmongChildren C.gp hP hRj hL hA hd hRL hC) gX5_work_X5_shareAmongChildren rfl o5 rfl (by decide +kernel) rfl (by decide) (by decide) (Nat.le_of_ble_eq_true rfl) ⟨by omega, by omega⟩ rfl ?_
          refine V_aload_n C dX5_work_118 rfl ?_
          refine V_aload_n C dX5_work_119 rfl ?_
          refine V_iload C dX5_work_120 rfl ?_
          refine V_callVD (nA := 2) C dX5_work_122 (c_placeChildren C.gp hP (scF_R hRj L _) hL hA hd hRL) gX5_work_X5_placeChildren rfl o5 rfl (by decide +kernel) rfl (by decide) (by decide) (Nat.le_of_ble_eq_true rfl) ⟨by omega, by omega⟩ rfl ?_
          refine V_iinc C dX5_work_125 rfl rfl (by decide) ?_
          refine V_goto C 83 dX5_work_128 (by decide) ?_
          exact h8
  have loop1 : ∀ (r : Nat) (Q : Mem) (k5 : Int) (w6 : Option Value), R32 Q → k5 + 1 = r → r ≤ 31 → wkM P L f = mdG L f r Q → V X 18 [some (.ref p), some (.ref b), some (.ref q), some (.int (I32 w)), some (.int (I32 h)), some (.int (I32 k5)), w6] [] S n (putK mu p 14 Q) la 0 0 := by
    intro r
    induction r with
    | zero =>
      intro Q k5 w6 hRQ hk hr hm
      refine V_iload C dX5_work_18 rfl ?_
      refine V_if_lt C 58 dX5_work_20 (by decide) (by omega) (fun z => ?_) (fun z => ?_)
      · refine V_aload_n C dX5_work_58 rfl ?_
        refine V_aload_n C dX5_work_59 rfl ?_
        refine V_callVD (nA := 1) C dX5_work_60 (c_placeFloating C.gp hP hL hA hd hRL) gX5_work_X5_placeFloating rfl o5 rfl (by decide +kernel) rfl (by decide) (by decide) (Nat.le_of_ble_eq_true rfl) ⟨by omega, by omega⟩ rfl ?_
        refine V_aload_n C dX5_work_63 rfl ?_
        refine V_iload_n C dX5_work_64 rfl ?_
        refine V_iload C dX5_work_65 rfl ?_
        refine V_callVD (nA := 2) C dX5_work_67 (c_placeRoot C.gp hP (pfG_R hRQ L _)) gX5_work_X5_placeRoot rfl o5 rfl (by decide +kernel) rfl (by decide) (by decide) (Nat.le_of_ble_eq_true rfl) ⟨by omega, by omega⟩ rfl ?_
        refine V_aload_n C dX5_work_70 rfl ?_
        refine V_iconst C dX5_work_71 ?_
        refine V_putJ C 11 11 rfl dX5_work_72 o5 rfl hin_X5_work_X5 tyX5 tyX5_ok nmX5 (by decide) lk_X5_work_69 rfl rfl (by decide +kernel) rfl (up_putK0 (by decide) _ _) ?_
        refine V_aload_n C dX5_work_75 rfl ?_
        refine V_iconst C dX5_work_76 ?_
        refine V_putJ C 12 12 rfl dX5_work_77 o5 rfl hin_X5_work_X5 tyX5 tyX5_ok nmX5 (by decide) lk_X5_work_72 rfl rfl (by decide +kernel) rfl (up_putK0 (by decide) _ _) ?_
        refine V_iconst C dX5_work_80 ?_
        refine V_istore C dX5_work_81 rfl (by decide) ?_
        have hm2 : Q = wkM P L f := hm.symm
        subst hm2
        exact loop2 (wkZ P L f w h 0 9).toNat 0 w6 (by omega)
      · exact absurd z (by omega)
    | succ r ih =>
      intro Q k5 w6 hRQ hk hr hm
      have ek : k5 = r := by omega
      have bn := R32_gK hRQ 2 31 r
      have hR4 : R32 (msF Q L f (gK Q 2 31 r) 0) := R32_sK hRQ _ _ _ _
      refine V_iload C dX5_work_18 rfl ?_
      refine V_if_lt C 58 dX5_work_20 (by decide) (by omega) (fun z => ?_) (fun z => ?_)
      · exact absurd z (by omega)
      · refine V_aload_n C dX5_work_23 rfl ?_
        refine V_getR C 1 dX5_work_24 o5 rfl hin_X5_work_X5 (by decide) lk_X5_work_15 rfl rfl ?_
        refine V_iload C dX5_work_27 rfl ?_
        refine V_callSND (nA := 2) (host := "DockTree") C dX5_work_29 (c_aK C.gp hP 2 31 rfl (by decide)) gX5_work_X8_at_n54 (by decide +kernel) (by decide +kernel) (by decide +kernel) rfl (by decide +kernel) rfl (by decide) (by decide) (Nat.le_of_ble_eq_true rfl) ⟨by omega, by omega⟩ rfl ?_
        rw [ek]
        refine V_istore C dX5_work_32 rfl (by decide) ?_
        refine V_aload_n C dX5_work_34 rfl ?_
        refine V_aload_n C dX5_work_35 rfl ?_
        refine V_aload_n C dX5_work_36 rfl ?_
        refine V_iload C dX5_work_37 rfl ?_
        refine V_iconst C dX5_work_39 ?_
        refine V_callVD (nA := 4) C dX5_work_40 (c_measure C.gp hP hRQ hL hA hd hRL hq hqd hqf hf (by omega) (by omega)) gX5_work_X5_measure rfl o5 rfl (by decide +kernel) rfl (by decide) (by decide) (Nat.le_of_ble_eq_true rfl) ⟨by omega, by omega⟩ rfl ?_
        refine V_aload_n C dX5_work_43 rfl ?_
        refine V_aload_n C dX5_work_44 rfl ?_
        refine V_aload_n C dX5_work_45 rfl ?_
        refine V_iload C dX5_work_46 rfl ?_
        refine V_iconst C dX5_work_48 ?_
        refine V_callVD (nA := 4) C dX5_work_49 (c_measure C.gp hP hR4 hL hA hd hRL hq hqd hqf hf (by omega) (by omega)) gX5_work_X5_measure rfl o5 rfl (by decide +kernel) rfl (by decide) (by decide) (Nat.le_of_ble_eq_true rfl) ⟨by omega, by omega⟩ rfl ?_
        refine V_iinc C dX5_work_52 rfl rfl (by decide) ?_
        refine V_goto C 18 dX5_work_55 (by decide) ?_
        exact ih _ _ _ (R32_sK hR4 _ _ _ _) (by omega) (by omega) (by rw [hm, mdG])
  refine V_aload_n C dX5_work_0 rfl ?_
  refine V_aload_n C dX5_work_1 rfl ?_
  refine V_callVD (nA := 1) C dX5_work_2 (c_listMembers C.gp hP hL hA hd hRL) gX5_work_X5_listMembers rfl o5 rfl (by decide +kernel) rfl (by decide) (by decide) (Nat.le_of_ble_eq_true rfl) ⟨by omega, by omega⟩ rfl ?_
  refine V_aload_n C dX5_work_5 rfl ?_
  refine V_aload_n C dX5_work_6 rfl ?_
  refine V_callVD (nA := 1) C dX5_work_7 (c_listNodes C.gp hP hR1 hL hA hd hC) gX5_work_X5_listNodes rfl o5 rfl (by decide +kernel) rfl (by decide) (by decide) (Nat.le_of_ble_eq_true rfl) ⟨by omega, by omega⟩ rfl ?_
  refine V_aload_n C dX5_work_10 rfl ?_
  refine V_getJ C 9 9 rfl dX5_work_11 o5 rfl hin_X5_work_X5 (by decide) lk_X5_work_50 rfl rfl (putK_0 (by decide) _) ?_
  refine V_iconst C dX5_work_14 ?_
  refine V_isub C dX5_work_15 ?_
  refine V_istore C dX5_work_16 rfl (by decide) ?_
  exact loop1 (lnF (lmF P L) L 0 9).toNat _ _ none hR2 (by omega) (by omega) rfl
end PC
