theorem dkF_bd {N : Int} {L : Mem} (h : Bd N L) (hN : 100 ≤ N) {p : Int} (hp : -N ≤ p ∧ p ≤ N) (t side : Int) : Bd (N + 12) (dkF L p t side) := by
  have h1 := tkF_bd h hN p
  have b1 := aL_bd h1 (by omega) 0 t
  have b2 := aL_bd h1 (by omega) 2 (aL (tkF L p) 0 t)
  unfold dkF
  split
  · exact pL_bd ((insF_bd h1 (by omega) _ (by omega) (by omega)).mono (by omega)) _ _ (by omega)
  · exact (pbF_bd (grpF_bd h1 (by omega) (p := p) (by omega)) (by omega) _ _ _).mono (by omega)
theorem dwF_bd {N : Int} {L : Mem} (h : Bd N L) (hN : 100 ≤ N) {p : Int} (hp : -N ≤ p ∧ p ≤ N) (side : Int) : Bd (N + 12) (dwF L p side) := by
  have h1 := tkF_bd h hN p
  have h2 := grpF_bd h1 (by omega) (p := p) (by omega)
  unfold dwF
  dsimp only
  split
  · exact (insF_bd h2 (by omega) _ (by omega) (by omega)).mono (by omega)
  · split
    · exact (pbF_bd h2 (by omega) _ _ _).mono (by omega)
    · exact (wrapF_bd h2 (by omega) _ _ _).mono (by omega)
section LC
variable {G : Gx} {l : Launch} {S : Sh} {n : Nat} {mu : Mem} {la : Lam} {b : Nat} {L : Mem} {N : Int}
set_option maxRecDepth 20000 in
theorem ggX4_dockAt_X4_takeAway : GoodIn wsX4_dockAt wsX4_takeAway := goodIn_r _ [7, 1, 8, 2, 9, 10, 11, 12, 13, 14, 15, 16, 17, 18, 6, 19, 20, 21, 22, 23, 24, 25, 26, 27, 28, 29, 30, 31, 32, 33, 34, 35, 36, 37, 38, 39, 40, 41, 42, 43, 44, 45, 77, 78, 79, 80, 81, 82, 83, 84] (by decide +kernel) (by decide +kernel)
set_option maxRecDepth 20000 in
theorem gX4_dockAt_X4_takeAway : GoodIn wsX4_dockAt (wsV RX4 54 RX4 yX4_takeAway wsX4_takeAway) := goodIn_app (goodIn_of _ (by decide +kernel)) ggX4_dockAt_X4_takeAway
set_option maxRecDepth 20000 in
theorem ggX4_dockAt_X8_at : GoodIn wsX4_dockAt wsX8_at := goodIn_r _ [15] (by decide +kernel) (by decide +kernel)
set_option maxRecDepth 20000 in
theorem gX4_dockAt_X8_at_n46 : GoodIn wsX4_dockAt (wsX8_at) := ggX4_dockAt_X8_at
set_option maxRecDepth 20000 in
theorem ggX4_dockAt_X4_insert : GoodIn wsX4_dockAt wsX4_insert := goodIn_r _ [49, 1, 8, 2, 13, 14, 15, 20, 21, 77, 78, 79, 80, 81, 82, 83, 84] (by decide +kernel) (by decide +kernel)
set_option maxRecDepth 20000 in
theorem gX4_dockAt_X4_insert : GoodIn wsX4_dockAt (wsV RX4 58 RX4 yX4_insert wsX4_insert) := goodIn_app (goodIn_of _ (by decide +kernel)) ggX4_dockAt_X4_insert
set_option maxRecDepth 20000 in
theorem ggX4_dockAt_X4_changeActive : GoodIn wsX4_dockAt wsX4_changeActive := goodIn_r _ [45, 41, 20, 14, 21, 77, 78, 79, 80, 81, 82, 83, 84] (by decide +kernel) (by decide +kernel)
set_option maxRecDepth 20000 in
theorem gX4_dockAt_X4_changeActive : GoodIn wsX4_dockAt (wsV RX4 62 RX4 yX4_changeActive wsX4_changeActive) := goodIn_app (goodIn_of _ (by decide +kernel)) ggX4_dockAt_X4_changeActive
set_option maxRecDepth 20000 in
theorem ggX4_dockAt_X4_groupOf : GoodIn wsX4_dockAt wsX4_groupOf := goodIn_r _ [53, 54, 55, 56, 6, 57, 2, 13, 14, 15, 46, 47, 48, 49, 1, 8, 20, 21, 42, 43, 44, 45, 41, 77, 78, 79, 80, 81, 82, 83, 84] (by decide +kernel) (by decide +kernel)
set_option maxRecDepth 20000 in
theorem gX4_dockAt_X4_groupOf : GoodIn wsX4_dockAt (wsV RX4 66 RX4 yX4_groupOf wsX4_groupOf) := goodIn_app (goodIn_of _ (by decide +kernel)) ggX4_dockAt_X4_groupOf
set_option maxRecDepth 20000 in
theorem ggX4_dockAt_X4_putBeside : GoodIn wsX4_dockAt wsX4_putBeside := goodIn_r _ [61, 1, 8, 36, 13, 14, 15, 26, 27, 62, 63, 64, 6, 65, 66, 67, 68, 69, 70, 71, 72, 46, 47, 48, 49, 2, 20, 21, 73, 74, 75, 76, 54, 55, 56, 57, 32, 33, 34, 35, 77, 78, 79, 80, 81, 82, 83, 84] (by decide +kernel) (by decide +kernel)
set_option maxRecDepth 20000 in
theorem gX4_dockAt_X4_putBeside : GoodIn wsX4_dockAt (wsV RX4 70 RX4 yX4_putBeside wsX4_putBeside) := goodIn_app (goodIn_of _ (by decide +kernel)) ggX4_dockAt_X4_putBeside
theorem dX4_dockAt_0 : decode cX4_dockAt 0 = .ok (.aload_n 0, 1) := by decide +kernel
theorem dX4_dockAt_1 : decode cX4_dockAt 1 = .ok (.iload_n 1, 1) := by decide +kernel
theorem dX4_dockAt_2 : decode cX4_dockAt 2 = .ok (.invokevirtual 54, 3) := by decide +kernel
theorem dX4_dockAt_5 : decode cX4_dockAt 5 = .ok (.aload_n 0, 1) := by decide +kernel
theorem dX4_dockAt_6 : decode cX4_dockAt 6 = .ok (.getfield 9, 3) := by decide +kernel
theorem dX4_dockAt_9 : decode cX4_dockAt 9 = .ok (.iload_n 2, 1) := by decide +kernel
theorem dX4_dockAt_10 : decode cX4_dockAt 10 = .ok (.invokestatic 46, 3) := by decide +kernel
theorem dX4_dockAt_13 : decode cX4_dockAt 13 = .ok (.istore 4, 2) := by decide +kernel
theorem dX4_dockAt_15 : decode cX4_dockAt 15 = .ok (.iload_n 3, 1) := by decide +kernel
theorem dX4_dockAt_16 : decode cX4_dockAt 16 = .ok (.iconst 4, 1) := by decide +kernel
theorem dX4_dockAt_17 : decode cX4_dockAt 17 = .ok (.if_icmp .ne 29, 3) := by decide +kernel
theorem dX4_dockAt_20 : decode cX4_dockAt 20 = .ok (.aload_n 0, 1) := by decide +kernel
theorem dX4_dockAt_21 : decode cX4_dockAt 21 = .ok (.iload_n 1, 1) := by decide +kernel
theorem dX4_dockAt_22 : decode cX4_dockAt 22 = .ok (.iload 4, 2) := by decide +kernel
theorem dX4_dockAt_24 : decode cX4_dockAt 24 = .ok (.aload_n 0, 1) := by decide +kernel
theorem dX4_dockAt_25 : decode cX4_dockAt 25 = .ok (.getfield 18, 3) := by decide +kernel
theorem dX4_dockAt_28 : decode cX4_dockAt 28 = .ok (.iload 4, 2) := by decide +kernel
theorem dX4_dockAt_30 : decode cX4_dockAt 30 = .ok (.invokestatic 46, 3) := by decide +kernel
theorem dX4_dockAt_33 : decode cX4_dockAt 33 = .ok (.invokevirtual 58, 3) := by decide +kernel
theorem dX4_dockAt_36 : decode cX4_dockAt 36 = .ok (.aload_n 0, 1) := by decide +kernel
theorem dX4_dockAt_37 : decode cX4_dockAt 37 = .ok (.iload 4, 2) := by decide +kernel
theorem dX4_dockAt_39 : decode cX4_dockAt 39 = .ok (.iload_n 1, 1) := by decide +kernel
theorem dX4_dockAt_40 : decode cX4_dockAt 40 = .ok (.invokevirtual 62, 3) := by decide +kernel
theorem dX4_dockAt_43 : decode cX4_dockAt 43 = .ok (.goto 15, 3) := by decide +kernel
theorem dX4_dockAt_46 : decode cX4_dockAt 46 = .ok (.aload_n 0, 1) := by decide +kernel
theorem dX4_dockAt_47 : decode cX4_dockAt 47 = .ok (.aload_n 0, 1) := by decide +kernel
theorem dX4_dockAt_48 : decode cX4_dockAt 48 = .ok (.iload_n 1, 1) := by decide +kernel
theorem dX4_dockAt_49 : decode cX4_dockAt 49 = .ok (.invokevirtual 66, 3) := by decide +kernel
theorem dX4_dockAt_52 : decode cX4_dockAt 52 = .ok (.iload 4, 2) := by decide +kernel
theorem dX4_dockAt_54 : decode cX4_dockAt 54 = .ok (.iload_n 3, 1) := by decide +kernel
theorem dX4_dockAt_55 : decode cX4_dockAt 55 = .ok (.invokevirtual 70, 3) := by decide +kernel
theorem dX4_dockAt_58 : decode cX4_dockAt 58 = .ok (.return_, 1) := by decide +kernel
theorem hin_X4_dockAt_X4 : ∀ w ∈ wsX40, w ∈ wsX4_dockAt := by decide +kernel
theorem lk_X4_dockAt_9 : Cond.fieldLink RX4 9 RX4 "holder" "[I" ∈ wsX4_dockAt := by decide +kernel
theorem lk_X4_dockAt_18 : Cond.fieldLink RX4 18 RX4 "count" "[I" ∈ wsX4_dockAt := by decide +kernel
theorem c_dockAt (hG : GP G) (hL : LayS S b) (hB : Bd N L) (hN : 100 ≤ N ∧ N ≤ 1073700000) {p t side : Int} (hp : -N ≤ p ∧ p ≤ N) (ht : -N ≤ t ∧ t ≤ N) (hs : -N ≤ side ∧ side ≤ N) : Ct G l yX4_dockAt wsX4_dockAt 4 0 0 [.ref b, .int (I32 p), .int (I32 t), .int (I32 side)] S n (putL mu b L) la (Dt none S n (putL mu b (dkF L p t side)) la) := by
  have o4 := hL.1
  have h1 := tkF_bd hB hN.1 p
  have b1 := aL_bd h1 (by omega) 0 t
  have b2 := aL_bd h1 (by omega) 2 (aL (tkF L p) 0 t)
  have h2 := grpF_bd h1 (by omega) (p := p) (by omega)
  have r := unuF_rng (tkF L p) (a := 16) (e := 32) (by omega)
  refine Ct.ofV (cc := cX4_dockAt) (nL := 5) (ret := none) [some (.ref b), some (.int (I32 p)), some (.int (I32 t)), some (.int (I32 side)), none] hG (by decide) rfl (Nat.le_of_ble_eq_true rfl) rfl ?_
  rintro X rfl rfl C hcl hsl E
  refine V_aload_n C dX4_dockAt_0 rfl ?_
  refine V_iload_n C dX4_dockAt_1 rfl ?_
  refine V_callVD (nA := 1) C dX4_dockAt_2 (c_takeAway C.gp hL hB (by omega) (by omega)) gX4_dockAt_X4_takeAway rfl o4 rfl (by decide +kernel) rfl (by decide) (by decide) (Nat.le_of_ble_eq_true rfl) ⟨by omega, by omega⟩ rfl ?_
  refine V_aload_n C dX4_dockAt_5 rfl ?_
  refine V_getR C 0 dX4_dockAt_6 o4 rfl hin_X4_dockAt_X4 (by decide) lk_X4_dockAt_9 rfl rfl ?_
  refine V_iload_n C dX4_dockAt_9 rfl ?_
  refine V_callSND (nA := 2) (host := "DockTree") C dX4_dockAt_10 (c_aL C.gp hL 0 _ (by decide) rfl (by omega)) gX4_dockAt_X8_at_n46 (by decide +kernel) (by decide +kernel) (by decide +kernel) rfl (by decide +kernel) rfl (by decide) (by decide) (Nat.le_of_ble_eq_true rfl) ⟨by omega, by omega⟩ rfl ?_
  refine V_istore C dX4_dockAt_13 rfl (by decide) ?_
  refine V_iload_n C dX4_dockAt_15 rfl ?_
  refine V_iconst C dX4_dockAt_16 ?_
  refine V_icmp_ne C 46 dX4_dockAt_17 (by decide) (by omega) (by omega) (fun c => ?_) (fun c => ?_)
  · refine V_aload_n C dX4_dockAt_46 rfl ?_
    refine V_aload_n C dX4_dockAt_47 rfl ?_
    refine V_iload_n C dX4_dockAt_48 rfl ?_
    refine V_callVD (nA := 1) C dX4_dockAt_49 (c_groupOf C.gp hL h1 (by omega) (by omega)) gX4_dockAt_X4_groupOf rfl o4 rfl (by decide +kernel) rfl (by decide) (by decide) (Nat.le_of_ble_eq_true rfl) ⟨by omega, by omega⟩ rfl ?_
    refine V_iload C dX4_dockAt_52 rfl ?_
    refine V_iload_n C dX4_dockAt_54 rfl ?_
    refine V_callVD (nA := 3) C dX4_dockAt_55 (c_putBeside C.gp hL h2 (by omega) (by omega) (by omega) (by omega)) gX4_dockAt_X4_putBeside rfl o4 rfl (by decide +kernel) rfl (by decide) (by decide) (Nat.le_of_ble_eq_true rfl) ⟨by omega, by omega⟩ rfl ?_
    refine V_return C E dX4_dockAt_58 (by omega) (by omega) ?_
    rw [dkF, if_neg c]
    exact Dt_rfl
  · refine V_aload_n C dX4_dockAt_20 rfl ?_
    refine V_iload_n C dX4_dockAt_21 rfl ?_
    refine V_iload C dX4_dockAt_22 rfl ?_
    refine V_aload_n C dX4_dockAt_24 rfl ?_
    refine V_getR C 2 dX4_dockAt_25 o4 rfl hin_X4_dockAt_X4 (by decide) lk_X4_dockAt_18 rfl rfl ?_
    refine V_iload C dX4_dockAt_28 rfl ?_
    refine V_callSND (nA := 2) (host := "DockTree") C dX4_dockAt_30 (c_aL C.gp hL 2 _ (by decide) rfl (by omega)) gX4_dockAt_X8_at_n46 (by decide +kernel) (by decide +kernel) (by decide +kernel) rfl (by decide +kernel) rfl (by decide) (by decide) (Nat.le_of_ble_eq_true rfl) ⟨by omega, by omega⟩ rfl ?_
    refine V_callVD (nA := 3) C dX4_dockAt_33 (c_insert C.gp hL h1 (by omega) (by omega) (by omega) (by omega)) gX4_dockAt_X4_insert rfl o4 rfl (by decide +kernel) rfl (by decide) (by decide) (Nat.le_of_ble_eq_true rfl) ⟨by omega, by omega⟩ rfl ?_
    refine V_aload_n C dX4_dockAt_36 rfl ?_
    refine V_iload C dX4_dockAt_37 rfl ?_
    refine V_iload_n C dX4_dockAt_39 rfl ?_
    refine V_callVD (nA := 2) C dX4_dockAt_40 (c_changeActive C.gp hL (by omega)) gX4_dockAt_X4_changeActive rfl o4 rfl (by decide +kernel) rfl (by decide) (by decide) (Nat.le_of_ble_eq_true rfl) ⟨by omega, by omega⟩ rfl ?_
    refine V_goto C 58 dX4_dockAt_43 (by decide) ?_
    refine V_return C E dX4_dockAt_58 (by omega) (by omega) ?_
    rw [dkF, if_pos c]
    exact Dt_rfl
set_option maxRecDepth 20000 in
theorem ggX4_dockAtWindow_X4_takeAway : GoodIn wsX4_dockAtWindow wsX4_takeAway := goodIn_r _ [6, 7, 8, 1, 9, 10, 11, 12, 13, 14, 15, 16, 17, 18, 5, 19, 20, 21, 22, 23, 24, 25, 26, 27, 28, 29, 30, 31, 32, 33, 34, 35, 36, 37, 38, 39, 40, 41, 42, 43, 44, 45, 77, 78, 79, 80, 81, 82, 83, 84] (by decide +kernel) (by decide +kernel)
set_option maxRecDepth 20000 in
theorem gX4_dockAtWindow_X4_takeAway : GoodIn wsX4_dockAtWindow (wsV RX4 54 RX4 yX4_takeAway wsX4_takeAway) := goodIn_app (goodIn_of _ (by decide +kernel)) ggX4_dockAtWindow_X4_takeAway
set_option maxRecDepth 20000 in
theorem ggX4_dockAtWindow_X4_groupOf : GoodIn wsX4_dockAtWindow wsX4_groupOf := goodIn_r _ [49, 50, 51, 52, 5, 53, 1, 13, 14, 15, 54, 55, 56, 57, 7, 8, 20, 21, 42, 43, 44, 45, 41, 77, 78, 79, 80, 81, 82, 83, 84] (by decide +kernel) (by decide +kernel)
set_option maxRecDepth 20000 in
theorem gX4_dockAtWindow_X4_groupOf : GoodIn wsX4_dockAtWindow (wsV RX4 66 RX4 yX4_groupOf wsX4_groupOf) := goodIn_app (goodIn_of _ (by decide +kernel)) ggX4_dockAtWindow_X4_groupOf
set_option maxRecDepth 20000 in
theorem ggX4_dockAtWindow_X4_memberAt : GoodIn wsX4_dockAtWindow wsX4_memberAt := goodIn_r _ [31, 7, 8, 13, 14, 15, 77, 78, 79, 80, 81, 82, 83, 84] (by decide +kernel) (by decide +kernel)
set_option maxRecDepth 20000 in
theorem gX4_dockAtWindow_X4_memberAt : GoodIn wsX4_dockAtWindow (wsV RX4 73 RX4 yX4_memberAt wsX4_memberAt) := goodIn_app (goodIn_of _ (by decide +kernel)) ggX4_dockAtWindow_X4_memberAt
set_option maxRecDepth 20000 in
theorem ggX4_dockAtWindow_X4_insert : GoodIn wsX4_dockAtWindow wsX4_insert := goodIn_r _ [57, 7, 8, 1, 13, 14, 15, 20, 21, 77, 78, 79, 80, 81, 82, 83, 84] (by decide +kernel) (by decide +kernel)
set_option maxRecDepth 20000 in
theorem gX4_dockAtWindow_X4_insert : GoodIn wsX4_dockAtWindow (wsV RX4 58 RX4 yX4_insert wsX4_insert) := goodIn_app (goodIn_of _ (by decide +kernel)) ggX4_dockAtWindow_X4_insert
set_option maxRecDepth 20000 in
theorem ggX4_dockAtWindow_X8_isSplit : GoodIn wsX4_dockAtWindow wsX8_isSplit := goodIn_r _ [27] (by decide +kernel) (by decide +kernel)
set_option maxRecDepth 20000 in
theorem gX4_dockAtWindow_X8_isSplit_n77 : GoodIn wsX4_dockAtWindow (wsX8_isSplit) := ggX4_dockAtWindow_X8_isSplit
set_option maxRecDepth 20000 in
theorem ggX4_dockAtWindow_X4_axisOf : GoodIn wsX4_dockAtWindow wsX4_axisOf := goodIn_r _ [61, 62, 13, 14, 15, 77, 78, 79, 80, 81, 82, 83, 84] (by decide +kernel) (by decide +kernel)
set_option maxRecDepth 20000 in
theorem gX4_dockAtWindow_X4_axisOf : GoodIn wsX4_dockAtWindow (wsV RX4 81 RX4 yX4_axisOf wsX4_axisOf) := goodIn_app (goodIn_of _ (by decide +kernel)) ggX4_dockAtWindow_X4_axisOf
set_option maxRecDepth 20000 in
theorem ggX4_dockAtWindow_X4_axisAt : GoodIn wsX4_dockAtWindow wsX4_axisAt := goodIn_r _ [65] (by decide +kernel) (by decide +kernel)
set_option maxRecDepth 20000 in
theorem gX4_dockAtWindow_X4_axisAt : GoodIn wsX4_dockAtWindow (va_wsS RX4 84 yX4_axisAt wsX4_axisAt) := goodIn_app (goodIn_of _ (by decide +kernel)) ggX4_dockAtWindow_X4_axisAt
set_option maxRecDepth 20000 in
theorem ggX4_dockAtWindow_X4_isBehind : GoodIn wsX4_dockAtWindow wsX4_isBehind := goodIn_r _ [68] (by decide +kernel) (by decide +kernel)
set_option maxRecDepth 20000 in
theorem gX4_dockAtWindow_X4_isBehind : GoodIn wsX4_dockAtWindow (va_wsS RX4 87 yX4_isBehind wsX4_isBehind) := goodIn_app (goodIn_of _ (by decide +kernel)) ggX4_dockAtWindow_X4_isBehind
set_option maxRecDepth 20000 in
theorem ggX4_dockAtWindow_X8_at : GoodIn wsX4_dockAtWindow wsX8_at := goodIn_r _ [15] (by decide +kernel) (by decide +kernel)
set_option maxRecDepth 20000 in
theorem gX4_dockAtWindow_X8_at_n46 : GoodIn wsX4_dockAtWindow (wsX8_at) := ggX4_dockAtWindow_X8_at
set_option maxRecDepth 20000 in
theorem ggX4_dockAtWindow_X4_putBeside : GoodIn wsX4_dockAtWindow wsX4_putBeside := goodIn_r _ [72, 7, 8, 36, 13, 14, 15, 26, 27, 58, 59, 60, 5, 61, 62, 63, 64, 65, 66, 67, 68, 54, 55, 56, 57, 1, 20, 21, 73, 74, 75, 76, 50, 51, 52, 53, 32, 33, 34, 35, 77, 78, 79, 80, 81, 82, 83, 84] (by decide +kernel) (by decide +kernel)
set_option maxRecDepth 20000 in
theorem gX4_dockAtWindow_X4_putBeside : GoodIn wsX4_dockAtWindow (wsV RX4 70 RX4 yX4_putBeside wsX4_putBeside) := goodIn_app (goodIn_of _ (by decide +kernel)) ggX4_dockAtWindow_X4_putBeside
set_option maxRecDepth 20000 in
theorem ggX4_dockAtWindow_X4_wrap : GoodIn wsX4_dockAtWindow wsX4_wrap := goodIn_r _ [76, 62, 36, 50, 51, 52, 5, 53, 1, 13, 14, 15, 63, 64, 65, 20, 21, 32, 33, 34, 35, 7, 8, 54, 55, 56, 57, 66, 67, 68, 77, 78, 79, 80, 81, 82, 83, 84] (by decide +kernel) (by decide +kernel)
set_option maxRecDepth 20000 in
theorem gX4_dockAtWindow_X4_wrap : GoodIn wsX4_dockAtWindow (wsV RX4 90 RX4 yX4_wrap wsX4_wrap) := goodIn_app (goodIn_of _ (by decide +kernel)) ggX4_dockAtWindow_X4_wrap
theorem dX4_dockAtWindow_0 : decode cX4_dockAtWindow 0 = .ok (.aload_n 0, 1) := by decide +kernel
theorem dX4_dockAtWindow_1 : decode cX4_dockAtWindow 1 = .ok (.iload_n 1, 1) := by decide +kernel
theorem dX4_dockAtWindow_2 : decode cX4_dockAtWindow 2 = .ok (.invokevirtual 54, 3) := by decide +kernel
theorem dX4_dockAtWindow_5 : decode cX4_dockAtWindow 5 = .ok (.aload_n 0, 1) := by decide +kernel
theorem dX4_dockAtWindow_6 : decode cX4_dockAtWindow 6 = .ok (.iload_n 1, 1) := by decide +kernel
theorem dX4_dockAtWindow_7 : decode cX4_dockAtWindow 7 = .ok (.invokevirtual 66, 3) := by decide +kernel
theorem dX4_dockAtWindow_10 : decode cX4_dockAtWindow 10 = .ok (.istore_n 3, 1) := by decide +kernel
theorem dX4_dockAtWindow_11 : decode cX4_dockAtWindow 11 = .ok (.aload_n 0, 1) := by decide +kernel
theorem dX4_dockAtWindow_12 : decode cX4_dockAtWindow 12 = .ok (.bipush 47, 2) := by decide +kernel
theorem dX4_dockAtWindow_14 : decode cX4_dockAtWindow 14 = .ok (.iconst 0, 1) := by decide +kernel
theorem dX4_dockAtWindow_15 : decode cX4_dockAtWindow 15 = .ok (.invokevirtual 73, 3) := by decide +kernel
theorem dX4_dockAtWindow_18 : decode cX4_dockAtWindow 18 = .ok (.istore 4, 2) := by decide +kernel
theorem dX4_dockAtWindow_20 : decode cX4_dockAtWindow 20 = .ok (.iload 4, 2) := by decide +kernel
theorem dX4_dockAtWindow_22 : decode cX4_dockAtWindow 22 = .ok (.iconst (-1), 1) := by decide +kernel
theorem dX4_dockAtWindow_23 : decode cX4_dockAtWindow 23 = .ok (.if_icmp .ne 14, 3) := by decide +kernel
theorem dX4_dockAtWindow_26 : decode cX4_dockAtWindow 26 = .ok (.aload_n 0, 1) := by decide +kernel
theorem dX4_dockAtWindow_27 : decode cX4_dockAtWindow 27 = .ok (.iload_n 3, 1) := by decide +kernel
theorem dX4_dockAtWindow_28 : decode cX4_dockAtWindow 28 = .ok (.bipush 47, 2) := by decide +kernel
theorem dX4_dockAtWindow_30 : decode cX4_dockAtWindow 30 = .ok (.iconst 0, 1) := by decide +kernel
theorem dX4_dockAtWindow_31 : decode cX4_dockAtWindow 31 = .ok (.invokevirtual 58, 3) := by decide +kernel
theorem dX4_dockAtWindow_34 : decode cX4_dockAtWindow 34 = .ok (.goto 73, 3) := by decide +kernel
theorem dX4_dockAtWindow_37 : decode cX4_dockAtWindow 37 = .ok (.iload 4, 2) := by decide +kernel
theorem dX4_dockAtWindow_39 : decode cX4_dockAtWindow 39 = .ok (.invokestatic 77, 3) := by decide +kernel
theorem dX4_dockAtWindow_42 : decode cX4_dockAtWindow 42 = .ok (.ifCond .eq 57, 3) := by decide +kernel
theorem dX4_dockAtWindow_45 : decode cX4_dockAtWindow 45 = .ok (.aload_n 0, 1) := by decide +kernel
theorem dX4_dockAtWindow_46 : decode cX4_dockAtWindow 46 = .ok (.iload 4, 2) := by decide +kernel
theorem dX4_dockAtWindow_48 : decode cX4_dockAtWindow 48 = .ok (.invokevirtual 81, 3) := by decide +kernel
theorem dX4_dockAtWindow_51 : decode cX4_dockAtWindow 51 = .ok (.iload_n 2, 1) := by decide +kernel
theorem dX4_dockAtWindow_52 : decode cX4_dockAtWindow 52 = .ok (.invokestatic 84, 3) := by decide +kernel
theorem dX4_dockAtWindow_55 : decode cX4_dockAtWindow 55 = .ok (.if_icmp .ne 44, 3) := by decide +kernel
theorem dX4_dockAtWindow_58 : decode cX4_dockAtWindow 58 = .ok (.iload_n 2, 1) := by decide +kernel
theorem dX4_dockAtWindow_59 : decode cX4_dockAtWindow 59 = .ok (.invokestatic 87, 3) := by decide +kernel
theorem dX4_dockAtWindow_62 : decode cX4_dockAtWindow 62 = .ok (.ifCond .eq 17, 3) := by decide +kernel
theorem dX4_dockAtWindow_65 : decode cX4_dockAtWindow 65 = .ok (.aload_n 0, 1) := by decide +kernel
theorem dX4_dockAtWindow_66 : decode cX4_dockAtWindow 66 = .ok (.getfield 18, 3) := by decide +kernel
theorem dX4_dockAtWindow_69 : decode cX4_dockAtWindow 69 = .ok (.iload 4, 2) := by decide +kernel
theorem dX4_dockAtWindow_71 : decode cX4_dockAtWindow 71 = .ok (.invokestatic 46, 3) := by decide +kernel
theorem dX4_dockAtWindow_74 : decode cX4_dockAtWindow 74 = .ok (.iconst 1, 1) := by decide +kernel
theorem dX4_dockAtWindow_75 : decode cX4_dockAtWindow 75 = .ok (.isub, 1) := by decide +kernel
theorem dX4_dockAtWindow_76 : decode cX4_dockAtWindow 76 = .ok (.goto 4, 3) := by decide +kernel
theorem dX4_dockAtWindow_79 : decode cX4_dockAtWindow 79 = .ok (.iconst 0, 1) := by decide +kernel
theorem dX4_dockAtWindow_80 : decode cX4_dockAtWindow 80 = .ok (.istore 5, 2) := by decide +kernel
theorem dX4_dockAtWindow_82 : decode cX4_dockAtWindow 82 = .ok (.aload_n 0, 1) := by decide +kernel
theorem dX4_dockAtWindow_83 : decode cX4_dockAtWindow 83 = .ok (.iload_n 3, 1) := by decide +kernel
theorem dX4_dockAtWindow_84 : decode cX4_dockAtWindow 84 = .ok (.aload_n 0, 1) := by decide +kernel
theorem dX4_dockAtWindow_85 : decode cX4_dockAtWindow 85 = .ok (.iload 4, 2) := by decide +kernel
theorem dX4_dockAtWindow_87 : decode cX4_dockAtWindow 87 = .ok (.iload 5, 2) := by decide +kernel
theorem dX4_dockAtWindow_89 : decode cX4_dockAtWindow 89 = .ok (.invokevirtual 73, 3) := by decide +kernel
theorem dX4_dockAtWindow_92 : decode cX4_dockAtWindow 92 = .ok (.iload_n 2, 1) := by decide +kernel
theorem dX4_dockAtWindow_93 : decode cX4_dockAtWindow 93 = .ok (.invokevirtual 70, 3) := by decide +kernel
theorem dX4_dockAtWindow_96 : decode cX4_dockAtWindow 96 = .ok (.goto 11, 3) := by decide +kernel
theorem dX4_dockAtWindow_99 : decode cX4_dockAtWindow 99 = .ok (.aload_n 0, 1) := by decide +kernel
theorem dX4_dockAtWindow_100 : decode cX4_dockAtWindow 100 = .ok (.iload 4, 2) := by decide +kernel
theorem dX4_dockAtWindow_102 : decode cX4_dockAtWindow 102 = .ok (.iload_n 3, 1) := by decide +kernel
theorem dX4_dockAtWindow_103 : decode cX4_dockAtWindow 103 = .ok (.iload_n 2, 1) := by decide +kernel
theorem dX4_dockAtWindow_104 : decode cX4_dockAtWindow 104 = .ok (.invokevirtual 90, 3) := by decide +kernel
theorem dX4_dockAtWindow_107 : decode cX4_dockAtWindow 107 = .ok (.return_, 1) := by decide +kernel
theorem hin_X4_dockAtWindow_X4 : ∀ w ∈ wsX40, w ∈ wsX4_dockAtWindow := by decide +kernel
theorem lk_X4_dockAtWindow_18 : Cond.fieldLink RX4 18 RX4 "count" "[I" ∈ wsX4_dockAtWindow := by decide +kernel
theorem c_dockAtWindow (hG : GP G) (hL : LayS S b) (hB : Bd N L) (hN : 100 ≤ N ∧ N ≤ 1073700000) {p side : Int} (hp : -N ≤ p ∧ p ≤ N) (hs : -N ≤ side ∧ side ≤ N) : Ct G l yX4_dockAtWindow wsX4_dockAtWindow 4 0 0 [.ref b, .int (I32 p), .int (I32 side)] S n (putL mu b L) la (Dt none S n (putL mu b (dwF L p side)) la) := by
  have o4 := hL.1
  have h1 := tkF_bd hB hN.1 p
  have h2 := grpF_bd h1 (by omega) (p := p) (by omega)
  have r := unuF_rng (tkF L p) (a := 16) (e := 32) (by omega)
  have r2 := mbrF_rng (grpF (tkF L p) p) 47 0
  change rtF (grpF (tkF L p) p) = -1 ∨ (0 ≤ rtF (grpF (tkF L p) p) ∧ rtF (grpF (tkF L p) p) < 49) at r2
  have b4 := spF_b (rtF (grpF (tkF L p) p))
  have b5 := aL_bd h2 (by omega) 5 (rtF (grpF (tkF L p) p) - 32)
  have b6 := aL_bd h2 (by omega) 2 (rtF (grpF (tkF L p) p))
  have b7 := axF_b side
  have b8 := bhF_b side
  refine Ct.ofV (cc := cX4_dockAtWindow) (nL := 6) (ret := none) [some (.ref b), some (.int (I32 p)), some (.int (I32 side)), none, none, none] hG (by decide) rfl (Nat.le_of_ble_eq_true rfl) rfl ?_
  rintro X rfl rfl C hcl hsl E
  refine V_aload_n C dX4_dockAtWindow_0 rfl ?_
  refine V_iload_n C dX4_dockAtWindow_1 rfl ?_
  refine V_callVD (nA := 1) C dX4_dockAtWindow_2 (c_takeAway C.gp hL hB (by omega) (by omega)) gX4_dockAtWindow_X4_takeAway rfl o4 rfl (by decide +kernel) rfl (by decide) (by decide) (Nat.le_of_ble_eq_true rfl) ⟨by omega, by omega⟩ rfl ?_
  refine V_aload_n C dX4_dockAtWindow_5 rfl ?_
  refine V_iload_n C dX4_dockAtWindow_6 rfl ?_
  refine V_callVD (nA := 1) C dX4_dockAtWindow_7 (c_groupOf C.gp hL h1 (by omega) (by omega)) gX4_dockAtWindow_X4_groupOf rfl o4 rfl (by decide +kernel) rfl (by decide) (by decide) (Nat.le_of_ble_eq_true rfl) ⟨by omega, by omega⟩ rfl ?_
  refine V_istore_n C dX4_dockAtWindow_10 rfl (by decide) ?_
  refine V_aload_n C dX4_dockAtWindow_11 rfl ?_
  refine V_bipush C dX4_dockAtWindow_12 (by decide +kernel) ?_
  refine V_iconst C dX4_dockAtWindow_14 ?_
  refine V_callVD (nA := 2) C dX4_dockAtWindow_15 (c_memberAt C.gp hL h2 (by omega) (by omega) (by omega)) gX4_dockAtWindow_X4_memberAt rfl o4 rfl (by decide +kernel) rfl (by decide) (by decide) (Nat.le_of_ble_eq_true rfl) ⟨by omega, by omega⟩ rfl ?_
  change V X _ _ [.int (I32 (rtF (grpF (tkF L p) p)))] _ _ _ _ _ _
  have other : dwF L p side = wrapF (grpF (tkF L p) p) (rtF (grpF (tkF L p) p)) (unuF (tkF L p) 16 32) side → V X 99 [some (.ref b), some (.int (I32 p)), some (.int (I32 side)), some (.int (I32 (unuF (tkF L p) 16 32))), some (.int (I32 (rtF (grpF (tkF L p) p)))), none] [] S n (putL mu b (grpF (tkF L p) p)) la 0 0 := by
    intro h9
    refine V_aload_n C dX4_dockAtWindow_99 rfl ?_
    refine V_iload C dX4_dockAtWindow_100 rfl ?_
    refine V_iload_n C dX4_dockAtWindow_102 rfl ?_
    refine V_iload_n C dX4_dockAtWindow_103 rfl ?_
    refine V_callVD (nA := 3) C dX4_dockAtWindow_104 (c_wrap C.gp hL h2 (by omega) (by omega) (by omega) (by omega)) gX4_dockAtWindow_X4_wrap rfl o4 rfl (by decide +kernel) rfl (by decide) (by decide) (Nat.le_of_ble_eq_true rfl) ⟨by omega, by omega⟩ rfl ?_
    refine V_return C E dX4_dockAtWindow_107 (by omega) (by omega) ?_
    rw [h9]
    exact Dt_rfl
  refine V_istore C dX4_dockAtWindow_18 rfl (by decide) ?_
  refine V_iload C dX4_dockAtWindow_20 rfl ?_
  refine V_iconst C dX4_dockAtWindow_22 ?_
  refine V_icmp_ne C 37 dX4_dockAtWindow_23 (by decide) (by omega) (by omega) (fun c => ?_) (fun c => ?_)
  · refine V_iload C dX4_dockAtWindow_37 rfl ?_
    refine V_callSND (nA := 1) (host := "DockTree") C dX4_dockAtWindow_39 (c_isSplit C.gp (by omega)) gX4_dockAtWindow_X8_isSplit_n77 (by decide +kernel) (by decide +kernel) (by decide +kernel) rfl (by decide +kernel) rfl (by decide) (by decide) (Nat.le_of_ble_eq_true rfl) ⟨by omega, by omega⟩ rfl ?_
    refine V_if_eq C 99 dX4_dockAtWindow_42 (by decide) (by omega) (fun c2 => ?_) (fun c2 => ?_)
    · exact other (by rw [dwF, if_neg c, if_neg (fun q => spF_1.mpr q.1 c2)])
    · refine V_aload_n C dX4_dockAtWindow_45 rfl ?_
      refine V_iload C dX4_dockAtWindow_46 rfl ?_
      refine V_callVD (nA := 1) C dX4_dockAtWindow_48 (c_axisOf C.gp hL (by omega)) gX4_dockAtWindow_X4_axisOf rfl o4 rfl (by decide +kernel) rfl (by decide) (by decide) (Nat.le_of_ble_eq_true rfl) ⟨by omega, by omega⟩ rfl ?_
      refine V_iload_n C dX4_dockAtWindow_51 rfl ?_
      refine V_callSD (nA := 1) C dX4_dockAtWindow_52 (c_axisAt C.gp (by omega)) gX4_dockAtWindow_X4_axisAt rfl (by decide +kernel) rfl (by decide) (by decide) (Nat.le_of_ble_eq_true rfl) ⟨by omega, by omega⟩ rfl ?_
      refine V_icmp_ne C 99 dX4_dockAtWindow_55 (by decide) (by omega) (by omega) (fun c3 => ?_) (fun c3 => ?_)
      · exact other (by rw [dwF, if_neg c, if_neg (fun q => c3 q.2)])
      · have e9 : dwF L p side = pbF (grpF (tkF L p) p) (unuF (tkF L p) 16 32) (mbrF (grpF (tkF L p) p) (rtF (grpF (tkF L p) p)) (if bhF side = 1 then aL (grpF (tkF L p) p) 2 (rtF (grpF (tkF L p) p)) - 1 else 0)) side := by
          rw [dwF, if_neg c, if_pos ⟨spF_1.mp c2, c3⟩]
        have fin : ∀ x : Int, x = (if bhF side = 1 then aL (grpF (tkF L p) p) 2 (rtF (grpF (tkF L p) p)) - 1 else 0) → V X 80 [some (.ref b), some (.int (I32 p)), some (.int (I32 side)), some (.int (I32 (unuF (tkF L p) 16 32))), some (.int (I32 (rtF (grpF (tkF L p) p)))), none] [.int (I32 x)] S n (putL mu b (grpF (tkF L p) p)) la 0 0 := by
          intro x hx
          have hxb : -(N + 7) - 1 ≤ x ∧ x ≤ N + 7 := by rw [hx]; split <;> omega
          have r5 := mbrF_rng (grpF (tkF L p) p) (rtF (grpF (tkF L p) p)) x
          refine V_istore C dX4_dockAtWindow_80 rfl (by decide) ?_
          refine V_aload_n C dX4_dockAtWindow_82 rfl ?_
          refine V_iload_n C dX4_dockAtWindow_83 rfl ?_
          refine V_aload_n C dX4_dockAtWindow_84 rfl ?_
          refine V_iload C dX4_dockAtWindow_85 rfl ?_
          refine V_iload C dX4_dockAtWindow_87 rfl ?_
          refine V_callVD (nA := 2) C dX4_dockAtWindow_89 (c_memberAt C.gp hL h2 (by omega) (by omega) (by omega)) gX4_dockAtWindow_X4_memberAt rfl o4 rfl (by decide +kernel) rfl (by decide) (by decide) (Nat.le_of_ble_eq_true rfl) ⟨by omega, by omega⟩ rfl ?_
          refine V_iload_n C dX4_dockAtWindow_92 rfl ?_
          refine V_callVD (nA := 3) C dX4_dockAtWindow_93 (c_putBeside C.gp hL h2 (by omega) (by omega) (by omega) (by omega)) gX4_dockAtWindow_X4_putBeside rfl o4 rfl (by decide +kernel) rfl (by decide) (by decide) (Nat.le_of_ble_eq_true rfl) ⟨by omega, by omega⟩ rfl ?_
          refine V_goto C 107 dX4_dockAtWindow_96 (by decide) ?_
          refine V_return C E dX4_dockAtWindow_107 (by omega) (by omega) ?_
          rw [e9, ← hx]
          exact Dt_rfl
        refine V_iload_n C dX4_dockAtWindow_58 rfl ?_
        refine V_callSD (nA := 1) C dX4_dockAtWindow_59 (c_isBehind C.gp (by omega)) gX4_dockAtWindow_X4_isBehind rfl (by decide +kernel) rfl (by decide) (by decide) (Nat.le_of_ble_eq_true rfl) ⟨by omega, by omega⟩ rfl ?_
        refine V_if_eq C 79 dX4_dockAtWindow_62 (by decide) (by omega) (fun c4 => ?_) (fun c4 => ?_)
        · refine V_iconst C dX4_dockAtWindow_79 ?_
          exact fin 0 (by rw [if_neg (by omega)])
        · refine V_aload_n C dX4_dockAtWindow_65 rfl ?_
          refine V_getR C 2 dX4_dockAtWindow_66 o4 rfl hin_X4_dockAtWindow_X4 (by decide) lk_X4_dockAtWindow_18 rfl rfl ?_
          refine V_iload C dX4_dockAtWindow_69 rfl ?_
          refine V_callSND (nA := 2) (host := "DockTree") C dX4_dockAtWindow_71 (c_aL C.gp hL 2 _ (by decide) rfl (by omega)) gX4_dockAtWindow_X8_at_n46 (by decide +kernel) (by decide +kernel) (by decide +kernel) rfl (by decide +kernel) rfl (by decide) (by decide) (Nat.le_of_ble_eq_true rfl) ⟨by omega, by omega⟩ rfl ?_
          refine V_iconst C dX4_dockAtWindow_74 ?_
          refine V_isub C dX4_dockAtWindow_75 ?_
          refine V_goto C 80 dX4_dockAtWindow_76 (by decide) ?_
          exact fin _ (by rw [if_pos (by omega)])
  · refine V_aload_n C dX4_dockAtWindow_26 rfl ?_
    refine V_iload_n C dX4_dockAtWindow_27 rfl ?_
    refine V_bipush C dX4_dockAtWindow_28 (by decide +kernel) ?_
    refine V_iconst C dX4_dockAtWindow_30 ?_
    refine V_callVD (nA := 3) C dX4_dockAtWindow_31 (c_insert C.gp hL h2 (by omega) (by omega) (by omega) (by omega)) gX4_dockAtWindow_X4_insert rfl o4 rfl (by decide +kernel) rfl (by decide) (by decide) (Nat.le_of_ble_eq_true rfl) ⟨by omega, by omega⟩ rfl ?_
    refine V_goto C 107 dX4_dockAtWindow_34 (by decide) ?_
    refine V_return C E dX4_dockAtWindow_107 (by omega) (by omega) ?_
    rw [dwF, if_pos c]
    exact Dt_rfl
set_option maxRecDepth 20000 in
theorem ggX4_floatAlone_X4_takeAway : GoodIn wsX4_floatAlone wsX4_takeAway := goodIn_r _ [8, 9, 10, 1, 11, 12, 13, 14, 15, 16, 17, 18, 19, 20, 7, 21, 22, 23, 24, 25, 26, 27, 28, 29, 30, 31, 32, 33, 34, 35, 36, 37, 38, 39, 40, 41, 42, 43, 44, 45, 46, 47, 60, 61, 62, 63, 64, 65, 66, 67] (by decide +kernel) (by decide +kernel)
set_option maxRecDepth 20000 in
theorem gX4_floatAlone_X4_takeAway : GoodIn wsX4_floatAlone (wsV RX4 54 RX4 yX4_takeAway wsX4_takeAway) := goodIn_app (goodIn_of _ (by decide +kernel)) ggX4_floatAlone_X4_takeAway
set_option maxRecDepth 20000 in
theorem ggX4_floatAlone_X4_groupOf : GoodIn wsX4_floatAlone wsX4_groupOf := goodIn_r _ [51, 52, 53, 54, 7, 55, 1, 15, 16, 17, 56, 57, 58, 59, 9, 10, 22, 23, 44, 45, 46, 47, 43, 60, 61, 62, 63, 64, 65, 66, 67] (by decide +kernel) (by decide +kernel)
set_option maxRecDepth 20000 in
theorem gX4_floatAlone_X4_groupOf : GoodIn wsX4_floatAlone (wsV RX4 66 RX4 yX4_groupOf wsX4_groupOf) := goodIn_app (goodIn_of _ (by decide +kernel)) ggX4_floatAlone_X4_groupOf
set_option maxRecDepth 20000 in
theorem ggX4_floatAlone_X8_at : GoodIn wsX4_floatAlone wsX8_at := goodIn_r _ [17] (by decide +kernel) (by decide +kernel)
set_option maxRecDepth 20000 in
theorem gX4_floatAlone_X8_at_n46 : GoodIn wsX4_floatAlone (wsX8_at) := ggX4_floatAlone_X8_at
set_option maxRecDepth 20000 in
theorem ggX4_floatAlone_X4_insert : GoodIn wsX4_floatAlone wsX4_insert := goodIn_r _ [59, 9, 10, 1, 15, 16, 17, 22, 23, 60, 61, 62, 63, 64, 65, 66, 67] (by decide +kernel) (by decide +kernel)
set_option maxRecDepth 20000 in
theorem gX4_floatAlone_X4_insert : GoodIn wsX4_floatAlone (wsV RX4 58 RX4 yX4_insert wsX4_insert) := goodIn_app (goodIn_of _ (by decide +kernel)) ggX4_floatAlone_X4_insert
set_option maxRecDepth 20000 in
theorem ggX4_floatAlone_X8_put : GoodIn wsX4_floatAlone wsX8_put := goodIn_r _ [23] (by decide +kernel) (by decide +kernel)
set_option maxRecDepth 20000 in
theorem gX4_floatAlone_X8_put_n50 : GoodIn wsX4_floatAlone (wsX8_put) := ggX4_floatAlone_X8_put
theorem dX4_floatAlone_0 : decode cX4_floatAlone 0 = .ok (.aload_n 0, 1) := by decide +kernel
theorem dX4_floatAlone_1 : decode cX4_floatAlone 1 = .ok (.iload_n 1, 1) := by decide +kernel
theorem dX4_floatAlone_2 : decode cX4_floatAlone 2 = .ok (.invokevirtual 54, 3) := by decide +kernel
theorem dX4_floatAlone_5 : decode cX4_floatAlone 5 = .ok (.aload_n 0, 1) := by decide +kernel
theorem dX4_floatAlone_6 : decode cX4_floatAlone 6 = .ok (.iload_n 1, 1) := by decide +kernel
theorem dX4_floatAlone_7 : decode cX4_floatAlone 7 = .ok (.invokevirtual 66, 3) := by decide +kernel
theorem dX4_floatAlone_10 : decode cX4_floatAlone 10 = .ok (.istore 6, 2) := by decide +kernel
theorem dX4_floatAlone_12 : decode cX4_floatAlone 12 = .ok (.aload_n 0, 1) := by decide +kernel
theorem dX4_floatAlone_13 : decode cX4_floatAlone 13 = .ok (.iload 6, 2) := by decide +kernel
theorem dX4_floatAlone_15 : decode cX4_floatAlone 15 = .ok (.bipush 48, 2) := by decide +kernel
theorem dX4_floatAlone_17 : decode cX4_floatAlone 17 = .ok (.aload_n 0, 1) := by decide +kernel
theorem dX4_floatAlone_18 : decode cX4_floatAlone 18 = .ok (.getfield 18, 3) := by decide +kernel
theorem dX4_floatAlone_21 : decode cX4_floatAlone 21 = .ok (.bipush 48, 2) := by decide +kernel
theorem dX4_floatAlone_23 : decode cX4_floatAlone 23 = .ok (.invokestatic 46, 3) := by decide +kernel
theorem dX4_floatAlone_26 : decode cX4_floatAlone 26 = .ok (.invokevirtual 58, 3) := by decide +kernel
theorem dX4_floatAlone_29 : decode cX4_floatAlone 29 = .ok (.iconst 2, 1) := by decide +kernel
theorem dX4_floatAlone_30 : decode cX4_floatAlone 30 = .ok (.iload 6, 2) := by decide +kernel
theorem dX4_floatAlone_32 : decode cX4_floatAlone 32 = .ok (.bipush 16, 2) := by decide +kernel
theorem dX4_floatAlone_34 : decode cX4_floatAlone 34 = .ok (.isub, 1) := by decide +kernel
theorem dX4_floatAlone_35 : decode cX4_floatAlone 35 = .ok (.imul, 1) := by decide +kernel
theorem dX4_floatAlone_36 : decode cX4_floatAlone 36 = .ok (.istore 7, 2) := by decide +kernel
theorem dX4_floatAlone_38 : decode cX4_floatAlone 38 = .ok (.aload_n 0, 1) := by decide +kernel
theorem dX4_floatAlone_39 : decode cX4_floatAlone 39 = .ok (.getfield 30, 3) := by decide +kernel
theorem dX4_floatAlone_42 : decode cX4_floatAlone 42 = .ok (.iload 7, 2) := by decide +kernel
theorem dX4_floatAlone_44 : decode cX4_floatAlone 44 = .ok (.iconst 0, 1) := by decide +kernel
theorem dX4_floatAlone_45 : decode cX4_floatAlone 45 = .ok (.iadd, 1) := by decide +kernel
theorem dX4_floatAlone_46 : decode cX4_floatAlone 46 = .ok (.iload_n 2, 1) := by decide +kernel
theorem dX4_floatAlone_47 : decode cX4_floatAlone 47 = .ok (.invokestatic 50, 3) := by decide +kernel
theorem dX4_floatAlone_50 : decode cX4_floatAlone 50 = .ok (.aload_n 0, 1) := by decide +kernel
theorem dX4_floatAlone_51 : decode cX4_floatAlone 51 = .ok (.getfield 30, 3) := by decide +kernel
theorem dX4_floatAlone_54 : decode cX4_floatAlone 54 = .ok (.iload 7, 2) := by decide +kernel
theorem dX4_floatAlone_56 : decode cX4_floatAlone 56 = .ok (.iconst 1, 1) := by decide +kernel
theorem dX4_floatAlone_57 : decode cX4_floatAlone 57 = .ok (.iadd, 1) := by decide +kernel
theorem dX4_floatAlone_58 : decode cX4_floatAlone 58 = .ok (.iload_n 3, 1) := by decide +kernel
theorem dX4_floatAlone_59 : decode cX4_floatAlone 59 = .ok (.invokestatic 50, 3) := by decide +kernel
theorem dX4_floatAlone_62 : decode cX4_floatAlone 62 = .ok (.aload_n 0, 1) := by decide +kernel
theorem dX4_floatAlone_63 : decode cX4_floatAlone 63 = .ok (.getfield 33, 3) := by decide +kernel
theorem dX4_floatAlone_66 : decode cX4_floatAlone 66 = .ok (.iload 7, 2) := by decide +kernel
theorem dX4_floatAlone_68 : decode cX4_floatAlone 68 = .ok (.iconst 0, 1) := by decide +kernel
theorem dX4_floatAlone_69 : decode cX4_floatAlone 69 = .ok (.iadd, 1) := by decide +kernel
theorem dX4_floatAlone_70 : decode cX4_floatAlone 70 = .ok (.iload 4, 2) := by decide +kernel
theorem dX4_floatAlone_72 : decode cX4_floatAlone 72 = .ok (.invokestatic 50, 3) := by decide +kernel
theorem dX4_floatAlone_75 : decode cX4_floatAlone 75 = .ok (.aload_n 0, 1) := by decide +kernel
theorem dX4_floatAlone_76 : decode cX4_floatAlone 76 = .ok (.getfield 33, 3) := by decide +kernel
theorem dX4_floatAlone_79 : decode cX4_floatAlone 79 = .ok (.iload 7, 2) := by decide +kernel
theorem dX4_floatAlone_81 : decode cX4_floatAlone 81 = .ok (.iconst 1, 1) := by decide +kernel
theorem dX4_floatAlone_82 : decode cX4_floatAlone 82 = .ok (.iadd, 1) := by decide +kernel
theorem dX4_floatAlone_83 : decode cX4_floatAlone 83 = .ok (.iload 5, 2) := by decide +kernel
theorem dX4_floatAlone_85 : decode cX4_floatAlone 85 = .ok (.invokestatic 50, 3) := by decide +kernel
theorem dX4_floatAlone_88 : decode cX4_floatAlone 88 = .ok (.return_, 1) := by decide +kernel
theorem hin_X4_floatAlone_X4 : ∀ w ∈ wsX40, w ∈ wsX4_floatAlone := by decide +kernel
theorem lk_X4_floatAlone_18 : Cond.fieldLink RX4 18 RX4 "count" "[I" ∈ wsX4_floatAlone := by decide +kernel
theorem lk_X4_floatAlone_30 : Cond.fieldLink RX4 30 RX4 "start" "[I" ∈ wsX4_floatAlone := by decide +kernel
theorem lk_X4_floatAlone_33 : Cond.fieldLink RX4 33 RX4 "size" "[I" ∈ wsX4_floatAlone := by decide +kernel
theorem c_floatAlone (hG : GP G) (hL : LayS S b) (hB : Bd N L) (hN : 100 ≤ N ∧ N ≤ 500000000) {p x y w h : Int} (hp : -N ≤ p ∧ p ≤ N) : Ct G l yX4_floatAlone wsX4_floatAlone 4 0 0 [.ref b, .int (I32 p), .int (I32 x), .int (I32 y), .int (I32 w), .int (I32 h)] S n (putL mu b L) la (Dt none S n (putL mu b (flF L p x y w h)) la) := by
  have o4 := hL.1
  have h1 := tkF_bd hB hN.1 p
  have h2 := grpF_bd h1 (by omega) (p := p) (by omega)
  have r := unuF_rng (tkF L p) (a := 16) (e := 32) (by omega)
  have b6 := aL_bd h2 (by omega) 2 48
  refine Ct.ofV (cc := cX4_floatAlone) (nL := 8) (ret := none) [some (.ref b), some (.int (I32 p)), some (.int (I32 x)), some (.int (I32 y)), some (.int (I32 w)), some (.int (I32 h)), none, none] hG (by decide) rfl (Nat.le_of_ble_eq_true rfl) rfl ?_
  rintro X rfl rfl C hcl hsl E
  refine V_aload_n C dX4_floatAlone_0 rfl ?_
  refine V_iload_n C dX4_floatAlone_1 rfl ?_
  refine V_callVD (nA := 1) C dX4_floatAlone_2 (c_takeAway C.gp hL hB (by omega) (by omega)) gX4_floatAlone_X4_takeAway rfl o4 rfl (by decide +kernel) rfl (by decide) (by decide) (Nat.le_of_ble_eq_true rfl) ⟨by omega, by omega⟩ rfl ?_
  refine V_aload_n C dX4_floatAlone_5 rfl ?_
  refine V_iload_n C dX4_floatAlone_6 rfl ?_
  refine V_callVD (nA := 1) C dX4_floatAlone_7 (c_groupOf C.gp hL h1 (by omega) (by omega)) gX4_floatAlone_X4_groupOf rfl o4 rfl (by decide +kernel) rfl (by decide) (by decide) (Nat.le_of_ble_eq_true rfl) ⟨by omega, by omega⟩ rfl ?_
  refine V_istore C dX4_floatAlone_10 rfl (by decide) ?_
  refine V_aload_n C dX4_floatAlone_12 rfl ?_
  refine V_iload C dX4_floatAlone_13 rfl ?_
  refine V_bipush C dX4_floatAlone_15 (by decide +kernel) ?_
  refine V_aload_n C dX4_floatAlone_17 rfl ?_
  refine V_getR C 2 dX4_floatAlone_18 o4 rfl hin_X4_floatAlone_X4 (by decide) lk_X4_floatAlone_18 rfl rfl ?_
  refine V_bipush C dX4_floatAlone_21 (by decide +kernel) ?_
  refine V_callSND (nA := 2) (host := "DockTree") C dX4_floatAlone_23 (c_aL C.gp hL 2 _ (by decide) rfl (by omega)) gX4_floatAlone_X8_at_n46 (by decide +kernel) (by decide +kernel) (by decide +kernel) rfl (by decide +kernel) rfl (by decide) (by decide) (Nat.le_of_ble_eq_true rfl) ⟨by omega, by omega⟩ rfl ?_
  refine V_callVD (nA := 3) C dX4_floatAlone_26 (c_insert C.gp hL h2 (by omega) (by omega) (by omega) (by omega)) gX4_floatAlone_X4_insert rfl o4 rfl (by decide +kernel) rfl (by decide) (by decide) (Nat.le_of_ble_eq_true rfl) ⟨by omega, by omega⟩ rfl ?_
  refine V_iconst C dX4_floatAlone_29 ?_
  refine V_iload C dX4_floatAlone_30 rfl ?_
  refine V_bipush C dX4_floatAlone_32 (by decide +kernel) ?_
  refine V_isub C dX4_floatAlone_34 ?_
  refine V_imul C dX4_floatAlone_35 ?_
  refine V_istore C dX4_floatAlone_36 rfl (by decide) ?_
  refine V_aload_n C dX4_floatAlone_38 rfl ?_
  refine V_getR C 6 dX4_floatAlone_39 o4 rfl hin_X4_floatAlone_X4 (by decide) lk_X4_floatAlone_30 rfl rfl ?_
  refine V_iload C dX4_floatAlone_42 rfl ?_
  refine V_iconst C dX4_floatAlone_44 ?_
  refine V_iadd C dX4_floatAlone_45 ?_
  refine V_iload_n C dX4_floatAlone_46 rfl ?_
  refine V_callSND (nA := 3) (host := "DockTree") C dX4_floatAlone_47 (c_pL C.gp hL 6 (by decide) (by omega)) gX4_floatAlone_X8_put_n50 (by decide +kernel) (by decide +kernel) (by decide +kernel) rfl (by decide +kernel) rfl (by decide) (by decide) (Nat.le_of_ble_eq_true rfl) ⟨by omega, by omega⟩ rfl ?_
  refine V_aload_n C dX4_floatAlone_50 rfl ?_
  refine V_getR C 6 dX4_floatAlone_51 o4 rfl hin_X4_floatAlone_X4 (by decide) lk_X4_floatAlone_30 rfl rfl ?_
  refine V_iload C dX4_floatAlone_54 rfl ?_
  refine V_iconst C dX4_floatAlone_56 ?_
  refine V_iadd C dX4_floatAlone_57 ?_
  refine V_iload_n C dX4_floatAlone_58 rfl ?_
  refine V_callSND (nA := 3) (host := "DockTree") C dX4_floatAlone_59 (c_pL C.gp hL 6 (by decide) (by omega)) gX4_floatAlone_X8_put_n50 (by decide +kernel) (by decide +kernel) (by decide +kernel) rfl (by decide +kernel) rfl (by decide) (by decide) (Nat.le_of_ble_eq_true rfl) ⟨by omega, by omega⟩ rfl ?_
  refine V_aload_n C dX4_floatAlone_62 rfl ?_
  refine V_getR C 7 dX4_floatAlone_63 o4 rfl hin_X4_floatAlone_X4 (by decide) lk_X4_floatAlone_33 rfl rfl ?_
  refine V_iload C dX4_floatAlone_66 rfl ?_
  refine V_iconst C dX4_floatAlone_68 ?_
  refine V_iadd C dX4_floatAlone_69 ?_
  refine V_iload C dX4_floatAlone_70 rfl ?_
  refine V_callSND (nA := 3) (host := "DockTree") C dX4_floatAlone_72 (c_pL C.gp hL 7 (by decide) (by omega)) gX4_floatAlone_X8_put_n50 (by decide +kernel) (by decide +kernel) (by decide +kernel) rfl (by decide +kernel) rfl (by decide) (by decide) (Nat.le_of_ble_eq_true rfl) ⟨by omega, by omega⟩ rfl ?_
  refine V_aload_n C dX4_floatAlone_75 rfl ?_
  refine V_getR C 7 dX4_floatAlone_76 o4 rfl hin_X4_floatAlone_X4 (by decide) lk_X4_floatAlone_33 rfl rfl ?_
  refine V_iload C dX4_floatAlone_79 rfl ?_
  refine V_iconst C dX4_floatAlone_81 ?_
  refine V_iadd C dX4_floatAlone_82 ?_
  refine V_iload C dX4_floatAlone_83 rfl ?_
  refine V_callSND (nA := 3) (host := "DockTree") C dX4_floatAlone_85 (c_pL C.gp hL 7 (by decide) (by omega)) gX4_floatAlone_X8_put_n50 (by decide +kernel) (by decide +kernel) (by decide +kernel) rfl (by decide +kernel) rfl (by decide) (by decide) (Nat.le_of_ble_eq_true rfl) ⟨by omega, by omega⟩ rfl ?_
  refine V_return C E dX4_floatAlone_88 (by omega) (by omega) ?_
  exact Dt_rfl
set_option maxRecDepth 20000 in
theorem ggX4_raiseGroup_X8_at : GoodIn wsX4_raiseGroup wsX8_at := goodIn_r _ [5] (by decide +kernel) (by decide +kernel)
set_option maxRecDepth 20000 in
theorem gX4_raiseGroup_X8_at_n46 : GoodIn wsX4_raiseGroup (wsX8_at) := ggX4_raiseGroup_X8_at
set_option maxRecDepth 20000 in
theorem ggX4_raiseGroup_X4_remove : GoodIn wsX4_raiseGroup wsX4_remove := goodIn_r _ [10, 11, 1, 2, 3, 4, 5, 12, 13, 18, 19, 20, 21, 22, 23, 24, 25] (by decide +kernel) (by decide +kernel)
set_option maxRecDepth 20000 in
theorem gX4_raiseGroup_X4_remove : GoodIn wsX4_raiseGroup (wsV RX4 93 RX4 yX4_remove wsX4_remove) := goodIn_app (goodIn_of _ (by decide +kernel)) ggX4_raiseGroup_X4_remove
set_option maxRecDepth 20000 in
theorem ggX4_raiseGroup_X4_insert : GoodIn wsX4_raiseGroup wsX4_insert := goodIn_r _ [17, 11, 1, 2, 3, 4, 5, 12, 13, 18, 19, 20, 21, 22, 23, 24, 25] (by decide +kernel) (by decide +kernel)
set_option maxRecDepth 20000 in
theorem gX4_raiseGroup_X4_insert : GoodIn wsX4_raiseGroup (wsV RX4 58 RX4 yX4_insert wsX4_insert) := goodIn_app (goodIn_of _ (by decide +kernel)) ggX4_raiseGroup_X4_insert
theorem dX4_raiseGroup_0 : decode cX4_raiseGroup 0 = .ok (.aload_n 0, 1) := by decide +kernel
theorem dX4_raiseGroup_1 : decode cX4_raiseGroup 1 = .ok (.getfield 15, 3) := by decide +kernel
theorem dX4_raiseGroup_4 : decode cX4_raiseGroup 4 = .ok (.iload_n 1, 1) := by decide +kernel
theorem dX4_raiseGroup_5 : decode cX4_raiseGroup 5 = .ok (.invokestatic 46, 3) := by decide +kernel
theorem dX4_raiseGroup_8 : decode cX4_raiseGroup 8 = .ok (.istore_n 2, 1) := by decide +kernel
theorem dX4_raiseGroup_9 : decode cX4_raiseGroup 9 = .ok (.aload_n 0, 1) := by decide +kernel
theorem dX4_raiseGroup_10 : decode cX4_raiseGroup 10 = .ok (.iload_n 1, 1) := by decide +kernel
theorem dX4_raiseGroup_11 : decode cX4_raiseGroup 11 = .ok (.invokevirtual 93, 3) := by decide +kernel
theorem dX4_raiseGroup_14 : decode cX4_raiseGroup 14 = .ok (.aload_n 0, 1) := by decide +kernel
theorem dX4_raiseGroup_15 : decode cX4_raiseGroup 15 = .ok (.iload_n 1, 1) := by decide +kernel
theorem dX4_raiseGroup_16 : decode cX4_raiseGroup 16 = .ok (.bipush 48, 2) := by decide +kernel
theorem dX4_raiseGroup_18 : decode cX4_raiseGroup 18 = .ok (.aload_n 0, 1) := by decide +kernel
theorem dX4_raiseGroup_19 : decode cX4_raiseGroup 19 = .ok (.getfield 18, 3) := by decide +kernel
theorem dX4_raiseGroup_22 : decode cX4_raiseGroup 22 = .ok (.bipush 48, 2) := by decide +kernel
theorem dX4_raiseGroup_24 : decode cX4_raiseGroup 24 = .ok (.invokestatic 46, 3) := by decide +kernel
theorem dX4_raiseGroup_27 : decode cX4_raiseGroup 27 = .ok (.invokevirtual 58, 3) := by decide +kernel
theorem dX4_raiseGroup_30 : decode cX4_raiseGroup 30 = .ok (.iload_n 2, 1) := by decide +kernel
theorem dX4_raiseGroup_31 : decode cX4_raiseGroup 31 = .ok (.ireturn, 1) := by decide +kernel
theorem hin_X4_raiseGroup_X4 : ∀ w ∈ wsX40, w ∈ wsX4_raiseGroup := by decide +kernel
theorem lk_X4_raiseGroup_15 : Cond.fieldLink RX4 15 RX4 "place" "[I" ∈ wsX4_raiseGroup := by decide +kernel
theorem lk_X4_raiseGroup_18 : Cond.fieldLink RX4 18 RX4 "count" "[I" ∈ wsX4_raiseGroup := by decide +kernel
theorem c_raiseGroup (hG : GP G) (hL : LayS S b) (hB : Bd N L) (hN : 100 ≤ N ∧ N ≤ 1073700000) {t : Int} (ht : -N ≤ t ∧ t ≤ N) : Ct G l yX4_raiseGroup wsX4_raiseGroup 2 0 0 [.ref b, .int (I32 t)] S n (putL mu b L) la (Dt (some (.int (I32 (aL L 1 t)))) S n (putL mu b (raF L t)) la) := by
  have o4 := hL.1
  have h1 := remF_bd hB (by omega) t
  have b6 := aL_bd h1 (by omega) 2 48
  refine Ct.ofV (cc := cX4_raiseGroup) (nL := 3) (ret := (some .int)) [some (.ref b), some (.int (I32 t)), none] hG (by decide) rfl (Nat.le_of_ble_eq_true rfl) rfl ?_
  rintro X rfl rfl C hcl hsl E
  refine V_aload_n C dX4_raiseGroup_0 rfl ?_
  refine V_getR C 1 dX4_raiseGroup_1 o4 rfl hin_X4_raiseGroup_X4 (by decide) lk_X4_raiseGroup_15 rfl rfl ?_
  refine V_iload_n C dX4_raiseGroup_4 rfl ?_
  refine V_callSND (nA := 2) (host := "DockTree") C dX4_raiseGroup_5 (c_aL C.gp hL 1 _ (by decide) rfl (by omega)) gX4_raiseGroup_X8_at_n46 (by decide +kernel) (by decide +kernel) (by decide +kernel) rfl (by decide +kernel) rfl (by decide) (by decide) (Nat.le_of_ble_eq_true rfl) ⟨by omega, by omega⟩ rfl ?_
  refine V_istore_n C dX4_raiseGroup_8 rfl (by decide) ?_
  refine V_aload_n C dX4_raiseGroup_9 rfl ?_
  refine V_iload_n C dX4_raiseGroup_10 rfl ?_
  refine V_callVD (nA := 1) C dX4_raiseGroup_11 (c_remove C.gp hL hB (by omega) (by omega)) gX4_raiseGroup_X4_remove rfl o4 rfl (by decide +kernel) rfl (by decide) (by decide) (Nat.le_of_ble_eq_true rfl) ⟨by omega, by omega⟩ rfl ?_
  refine V_aload_n C dX4_raiseGroup_14 rfl ?_
  refine V_iload_n C dX4_raiseGroup_15 rfl ?_
  refine V_bipush C dX4_raiseGroup_16 (by decide +kernel) ?_
  refine V_aload_n C dX4_raiseGroup_18 rfl ?_
  refine V_getR C 2 dX4_raiseGroup_19 o4 rfl hin_X4_raiseGroup_X4 (by decide) lk_X4_raiseGroup_18 rfl rfl ?_
  refine V_bipush C dX4_raiseGroup_22 (by decide +kernel) ?_
  refine V_callSND (nA := 2) (host := "DockTree") C dX4_raiseGroup_24 (c_aL C.gp hL 2 _ (by decide) rfl (by omega)) gX4_raiseGroup_X8_at_n46 (by decide +kernel) (by decide +kernel) (by decide +kernel) rfl (by decide +kernel) rfl (by decide) (by decide) (Nat.le_of_ble_eq_true rfl) ⟨by omega, by omega⟩ rfl ?_
  refine V_callVD (nA := 3) C dX4_raiseGroup_27 (c_insert C.gp hL h1 (by omega) (by omega) (by omega) (by omega)) gX4_raiseGroup_X4_insert rfl o4 rfl (by decide +kernel) rfl (by decide) (by decide) (Nat.le_of_ble_eq_true rfl) ⟨by omega, by omega⟩ rfl ?_
  refine V_iload_n C dX4_raiseGroup_30 rfl ?_
  refine V_ireturn C E dX4_raiseGroup_31 (by omega) (by omega) ?_
  exact Dt_rfl
set_option maxRecDepth 20000 in
theorem ggX4_moveWithinGroup_X8_at : GoodIn wsX4_moveWithinGroup wsX8_at := goodIn_r _ [4] (by decide +kernel) (by decide +kernel)
set_option maxRecDepth 20000 in
theorem gX4_moveWithinGroup_X8_at_n46 : GoodIn wsX4_moveWithinGroup (wsX8_at) := ggX4_moveWithinGroup_X8_at
set_option maxRecDepth 20000 in
theorem ggX4_moveWithinGroup_X4_remove : GoodIn wsX4_moveWithinGroup wsX4_remove := goodIn_r _ [9, 1, 10, 11, 2, 3, 4, 12, 13, 18, 19, 20, 21, 22, 23, 24, 25] (by decide +kernel) (by decide +kernel)
set_option maxRecDepth 20000 in
theorem gX4_moveWithinGroup_X4_remove : GoodIn wsX4_moveWithinGroup (wsV RX4 93 RX4 yX4_remove wsX4_remove) := goodIn_app (goodIn_of _ (by decide +kernel)) ggX4_moveWithinGroup_X4_remove
set_option maxRecDepth 20000 in
theorem ggX4_moveWithinGroup_X4_insert : GoodIn wsX4_moveWithinGroup wsX4_insert := goodIn_r _ [17, 1, 10, 11, 2, 3, 4, 12, 13, 18, 19, 20, 21, 22, 23, 24, 25] (by decide +kernel) (by decide +kernel)
set_option maxRecDepth 20000 in
theorem gX4_moveWithinGroup_X4_insert : GoodIn wsX4_moveWithinGroup (wsV RX4 58 RX4 yX4_insert wsX4_insert) := goodIn_app (goodIn_of _ (by decide +kernel)) ggX4_moveWithinGroup_X4_insert
theorem dX4_moveWithinGroup_0 : decode cX4_moveWithinGroup 0 = .ok (.aload_n 0, 1) := by decide +kernel
theorem dX4_moveWithinGroup_1 : decode cX4_moveWithinGroup 1 = .ok (.getfield 9, 3) := by decide +kernel
theorem dX4_moveWithinGroup_4 : decode cX4_moveWithinGroup 4 = .ok (.iload_n 1, 1) := by decide +kernel
theorem dX4_moveWithinGroup_5 : decode cX4_moveWithinGroup 5 = .ok (.invokestatic 46, 3) := by decide +kernel
theorem dX4_moveWithinGroup_8 : decode cX4_moveWithinGroup 8 = .ok (.istore_n 3, 1) := by decide +kernel
theorem dX4_moveWithinGroup_9 : decode cX4_moveWithinGroup 9 = .ok (.aload_n 0, 1) := by decide +kernel
theorem dX4_moveWithinGroup_10 : decode cX4_moveWithinGroup 10 = .ok (.iload_n 1, 1) := by decide +kernel
theorem dX4_moveWithinGroup_11 : decode cX4_moveWithinGroup 11 = .ok (.invokevirtual 93, 3) := by decide +kernel
theorem dX4_moveWithinGroup_14 : decode cX4_moveWithinGroup 14 = .ok (.aload_n 0, 1) := by decide +kernel
theorem dX4_moveWithinGroup_15 : decode cX4_moveWithinGroup 15 = .ok (.iload_n 1, 1) := by decide +kernel
theorem dX4_moveWithinGroup_16 : decode cX4_moveWithinGroup 16 = .ok (.iload_n 3, 1) := by decide +kernel
theorem dX4_moveWithinGroup_17 : decode cX4_moveWithinGroup 17 = .ok (.iload_n 2, 1) := by decide +kernel
theorem dX4_moveWithinGroup_18 : decode cX4_moveWithinGroup 18 = .ok (.invokevirtual 58, 3) := by decide +kernel
theorem dX4_moveWithinGroup_21 : decode cX4_moveWithinGroup 21 = .ok (.return_, 1) := by decide +kernel
theorem hin_X4_moveWithinGroup_X4 : ∀ w ∈ wsX40, w ∈ wsX4_moveWithinGroup := by decide +kernel
theorem lk_X4_moveWithinGroup_9 : Cond.fieldLink RX4 9 RX4 "holder" "[I" ∈ wsX4_moveWithinGroup := by decide +kernel
theorem c_moveWithinGroup (hG : GP G) (hL : LayS S b) (hB : Bd N L) (hN : 100 ≤ N ∧ N ≤ 1073700000) {p i : Int} (hp : -N ≤ p ∧ p ≤ N) (hi : -N ≤ i ∧ i ≤ N) : Ct G l yX4_moveWithinGroup wsX4_moveWithinGroup 2 0 0 [.ref b, .int (I32 p), .int (I32 i)] S n (putL mu b L) la (Dt none S n (putL mu b (mvF L p i)) la) := by
  have o4 := hL.1
  have h1 := remF_bd hB (by omega) p
  have b0 := aL_bd hB (by omega) 0 p
  refine Ct.ofV (cc := cX4_moveWithinGroup) (nL := 4) (ret := none) [some (.ref b), some (.int (I32 p)), some (.int (I32 i)), none] hG (by decide) rfl (Nat.le_of_ble_eq_true rfl) rfl ?_
  rintro X rfl rfl C hcl hsl E
  refine V_aload_n C dX4_moveWithinGroup_0 rfl ?_
  refine V_getR C 0 dX4_moveWithinGroup_1 o4 rfl hin_X4_moveWithinGroup_X4 (by decide) lk_X4_moveWithinGroup_9 rfl rfl ?_
  refine V_iload_n C dX4_moveWithinGroup_4 rfl ?_
  refine V_callSND (nA := 2) (host := "DockTree") C dX4_moveWithinGroup_5 (c_aL C.gp hL 0 _ (by decide) rfl (by omega)) gX4_moveWithinGroup_X8_at_n46 (by decide +kernel) (by decide +kernel) (by decide +kernel) rfl (by decide +kernel) rfl (by decide) (by decide) (Nat.le_of_ble_eq_true rfl) ⟨by omega, by omega⟩ rfl ?_
  refine V_istore_n C dX4_moveWithinGroup_8 rfl (by decide) ?_
  refine V_aload_n C dX4_moveWithinGroup_9 rfl ?_
  refine V_iload_n C dX4_moveWithinGroup_10 rfl ?_
  refine V_callVD (nA := 1) C dX4_moveWithinGroup_11 (c_remove C.gp hL hB (by omega) (by omega)) gX4_moveWithinGroup_X4_remove rfl o4 rfl (by decide +kernel) rfl (by decide) (by decide) (Nat.le_of_ble_eq_true rfl) ⟨by omega, by omega⟩ rfl ?_
  refine V_aload_n C dX4_moveWithinGroup_14 rfl ?_
  refine V_iload_n C dX4_moveWithinGroup_15 rfl ?_
  refine V_iload_n C dX4_moveWithinGroup_16 rfl ?_
  refine V_iload_n C dX4_moveWithinGroup_17 rfl ?_
  refine V_callVD (nA := 3) C dX4_moveWithinGroup_18 (c_insert C.gp hL h1 (by omega) (by omega) (by omega) (by omega)) gX4_moveWithinGroup_X4_insert rfl o4 rfl (by decide +kernel) rfl (by decide) (by decide) (Nat.le_of_ble_eq_true rfl) ⟨by omega, by omega⟩ rfl ?_
  refine V_return C E dX4_moveWithinGroup_21 (by omega) (by omega) ?_
  exact Dt_rfl
/-- the eight rows of another layout -/
def cp8 (mu : Mem) (a b : Nat) : Nat → Mem
  | 0 => mu
  | k + 1 => cpF (cp8 mu a b k) (a + 1 + k) (b + 1 + k) (llen k)
set_option maxRecDepth 20000 in
theorem ggX4_copyFrom_X8_copyRow : GoodIn wsX4_copyFrom wsX8_copyRow := goodIn_r _ [11, 12, 13, 14, 15, 16, 17, 18, 19] (by decide +kernel) (by decide +kernel)
set_option maxRecDepth 20000 in
theorem gX4_copyFrom_X8_copyRow_n42 : GoodIn wsX4_copyFrom (wsX8_copyRow) := ggX4_copyFrom_X8_copyRow
theorem dX4_copyFrom_0 : decode cX4_copyFrom 0 = .ok (.aload_n 1, 1) := by decide +kernel
theorem dX4_copyFrom_1 : decode cX4_copyFrom 1 = .ok (.getfield 9, 3) := by decide +kernel
theorem dX4_copyFrom_4 : decode cX4_copyFrom 4 = .ok (.aload_n 0, 1) := by decide +kernel
theorem dX4_copyFrom_5 : decode cX4_copyFrom 5 = .ok (.getfield 9, 3) := by decide +kernel
theorem dX4_copyFrom_8 : decode cX4_copyFrom 8 = .ok (.invokestatic 42, 3) := by decide +kernel
theorem dX4_copyFrom_11 : decode cX4_copyFrom 11 = .ok (.aload_n 1, 1) := by decide +kernel
theorem dX4_copyFrom_12 : decode cX4_copyFrom 12 = .ok (.getfield 15, 3) := by decide +kernel
theorem dX4_copyFrom_15 : decode cX4_copyFrom 15 = .ok (.aload_n 0, 1) := by decide +kernel
theorem dX4_copyFrom_16 : decode cX4_copyFrom 16 = .ok (.getfield 15, 3) := by decide +kernel
theorem dX4_copyFrom_19 : decode cX4_copyFrom 19 = .ok (.invokestatic 42, 3) := by decide +kernel
theorem dX4_copyFrom_22 : decode cX4_copyFrom 22 = .ok (.aload_n 1, 1) := by decide +kernel
theorem dX4_copyFrom_23 : decode cX4_copyFrom 23 = .ok (.getfield 18, 3) := by decide +kernel
theorem dX4_copyFrom_26 : decode cX4_copyFrom 26 = .ok (.aload_n 0, 1) := by decide +kernel
theorem dX4_copyFrom_27 : decode cX4_copyFrom 27 = .ok (.getfield 18, 3) := by decide +kernel
theorem dX4_copyFrom_30 : decode cX4_copyFrom 30 = .ok (.invokestatic 42, 3) := by decide +kernel
theorem dX4_copyFrom_33 : decode cX4_copyFrom 33 = .ok (.aload_n 1, 1) := by decide +kernel
theorem dX4_copyFrom_34 : decode cX4_copyFrom 34 = .ok (.getfield 21, 3) := by decide +kernel
theorem dX4_copyFrom_37 : decode cX4_copyFrom 37 = .ok (.aload_n 0, 1) := by decide +kernel
theorem dX4_copyFrom_38 : decode cX4_copyFrom 38 = .ok (.getfield 21, 3) := by decide +kernel
theorem dX4_copyFrom_41 : decode cX4_copyFrom 41 = .ok (.invokestatic 42, 3) := by decide +kernel
theorem dX4_copyFrom_44 : decode cX4_copyFrom 44 = .ok (.aload_n 1, 1) := by decide +kernel
theorem dX4_copyFrom_45 : decode cX4_copyFrom 45 = .ok (.getfield 24, 3) := by decide +kernel
theorem dX4_copyFrom_48 : decode cX4_copyFrom 48 = .ok (.aload_n 0, 1) := by decide +kernel
theorem dX4_copyFrom_49 : decode cX4_copyFrom 49 = .ok (.getfield 24, 3) := by decide +kernel
theorem dX4_copyFrom_52 : decode cX4_copyFrom 52 = .ok (.invokestatic 42, 3) := by decide +kernel
theorem dX4_copyFrom_55 : decode cX4_copyFrom 55 = .ok (.aload_n 1, 1) := by decide +kernel
theorem dX4_copyFrom_56 : decode cX4_copyFrom 56 = .ok (.getfield 27, 3) := by decide +kernel
theorem dX4_copyFrom_59 : decode cX4_copyFrom 59 = .ok (.aload_n 0, 1) := by decide +kernel
theorem dX4_copyFrom_60 : decode cX4_copyFrom 60 = .ok (.getfield 27, 3) := by decide +kernel
theorem dX4_copyFrom_63 : decode cX4_copyFrom 63 = .ok (.invokestatic 42, 3) := by decide +kernel
theorem dX4_copyFrom_66 : decode cX4_copyFrom 66 = .ok (.aload_n 1, 1) := by decide +kernel
theorem dX4_copyFrom_67 : decode cX4_copyFrom 67 = .ok (.getfield 30, 3) := by decide +kernel
theorem dX4_copyFrom_70 : decode cX4_copyFrom 70 = .ok (.aload_n 0, 1) := by decide +kernel
theorem dX4_copyFrom_71 : decode cX4_copyFrom 71 = .ok (.getfield 30, 3) := by decide +kernel
theorem dX4_copyFrom_74 : decode cX4_copyFrom 74 = .ok (.invokestatic 42, 3) := by decide +kernel
theorem dX4_copyFrom_77 : decode cX4_copyFrom 77 = .ok (.aload_n 1, 1) := by decide +kernel
theorem dX4_copyFrom_78 : decode cX4_copyFrom 78 = .ok (.getfield 33, 3) := by decide +kernel
theorem dX4_copyFrom_81 : decode cX4_copyFrom 81 = .ok (.aload_n 0, 1) := by decide +kernel
theorem dX4_copyFrom_82 : decode cX4_copyFrom 82 = .ok (.getfield 33, 3) := by decide +kernel
theorem dX4_copyFrom_85 : decode cX4_copyFrom 85 = .ok (.invokestatic 42, 3) := by decide +kernel
theorem dX4_copyFrom_88 : decode cX4_copyFrom 88 = .ok (.return_, 1) := by decide +kernel
theorem hin_X4_copyFrom_X4 : ∀ w ∈ wsX40, w ∈ wsX4_copyFrom := by decide +kernel
theorem lk_X4_copyFrom_9 : Cond.fieldLink RX4 9 RX4 "holder" "[I" ∈ wsX4_copyFrom := by decide +kernel
theorem lk_X4_copyFrom_15 : Cond.fieldLink RX4 15 RX4 "place" "[I" ∈ wsX4_copyFrom := by decide +kernel
theorem lk_X4_copyFrom_18 : Cond.fieldLink RX4 18 RX4 "count" "[I" ∈ wsX4_copyFrom := by decide +kernel
theorem lk_X4_copyFrom_21 : Cond.fieldLink RX4 21 RX4 "weight" "[I" ∈ wsX4_copyFrom := by decide +kernel
theorem lk_X4_copyFrom_24 : Cond.fieldLink RX4 24 RX4 "active" "[I" ∈ wsX4_copyFrom := by decide +kernel
theorem lk_X4_copyFrom_27 : Cond.fieldLink RX4 27 RX4 "axis" "[I" ∈ wsX4_copyFrom := by decide +kernel
theorem lk_X4_copyFrom_30 : Cond.fieldLink RX4 30 RX4 "start" "[I" ∈ wsX4_copyFrom := by decide +kernel
theorem lk_X4_copyFrom_33 : Cond.fieldLink RX4 33 RX4 "size" "[I" ∈ wsX4_copyFrom := by decide +kernel
theorem c_copyFrom0 (hG : GP G) (hL : LayS S b) {a : Nat} (hM : LayS S a) : Ct G l yX4_copyFrom wsX4_copyFrom 2 0 0 [.ref b, .ref a] S n mu la (Dt none S n (cp8 mu a b 8) la) := by
  refine Ct.ofV (cc := cX4_copyFrom) (nL := 2) (ret := none) [some (.ref b), some (.ref a)] hG (by decide) rfl (Nat.le_of_ble_eq_true rfl) rfl ?_
  rintro X rfl rfl C hcl hsl E
  refine V_aload_n C dX4_copyFrom_0 rfl ?_
  refine V_getR C 0 dX4_copyFrom_1 hM.1 rfl hin_X4_copyFrom_X4 (by decide) lk_X4_copyFrom_9 rfl rfl ?_
  refine V_aload_n C dX4_copyFrom_4 rfl ?_
  refine V_getR C 0 dX4_copyFrom_5 hL.1 rfl hin_X4_copyFrom_X4 (by decide) lk_X4_copyFrom_9 rfl rfl ?_
  refine V_callSND (nA := 2) (host := "DockTree") C dX4_copyFrom_8 (c_copyRow C.gp (hM.2 0 (by decide)) (hL.2 0 (by decide)) (by decide)) gX4_copyFrom_X8_copyRow_n42 (by decide +kernel) (by decide +kernel) (by decide +kernel) rfl (by decide +kernel) rfl (by decide) (by decide) (Nat.le_of_ble_eq_true rfl) ⟨by omega, by omega⟩ rfl ?_
  refine V_aload_n C dX4_copyFrom_11 rfl ?_
  refine V_getR C 1 dX4_copyFrom_12 hM.1 rfl hin_X4_copyFrom_X4 (by decide) lk_X4_copyFrom_15 rfl rfl ?_
  refine V_aload_n C dX4_copyFrom_15 rfl ?_
  refine V_getR C 1 dX4_copyFrom_16 hL.1 rfl hin_X4_copyFrom_X4 (by decide) lk_X4_copyFrom_15 rfl rfl ?_
  refine V_callSND (nA := 2) (host := "DockTree") C dX4_copyFrom_19 (c_copyRow C.gp (hM.2 1 (by decide)) (hL.2 1 (by decide)) (by decide)) gX4_copyFrom_X8_copyRow_n42 (by decide +kernel) (by decide +kernel) (by decide +kernel) rfl (by decide +kernel) rfl (by decide) (by decide) (Nat.le_of_ble_eq_true rfl) ⟨by omega, by omega⟩ rfl ?_
  refine V_aload_n C dX4_copyFrom_22 rfl ?_
  refine V_getR C 2 dX4_copyFrom_23 hM.1 rfl hin_X4_copyFrom_X4 (by decide) lk_X4_copyFrom_18 rfl rfl ?_
  refine V_aload_n C dX4_copyFrom_26 rfl ?_
  refine V_getR C 2 dX4_copyFrom_27 hL.1 rfl hin_X4_copyFrom_X4 (by decide) lk_X4_copyFrom_18 rfl rfl ?_
  refine V_callSND (nA := 2) (host := "DockTree") C dX4_copyFrom_30 (c_copyRow C.gp (hM.2 2 (by decide)) (hL.2 2 (by decide)) (by decide)) gX4_copyFrom_X8_copyRow_n42 (by decide +kernel) (by decide +kernel) (by decide +kernel) rfl (by decide +kernel) rfl (by decide) (by decide) (Nat.le_of_ble_eq_true rfl) ⟨by omega, by omega⟩ rfl ?_
  refine V_aload_n C dX4_copyFrom_33 rfl ?_
  refine V_getR C 3 dX4_copyFrom_34 hM.1 rfl hin_X4_copyFrom_X4 (by decide) lk_X4_copyFrom_21 rfl rfl ?_
  refine V_aload_n C dX4_copyFrom_37 rfl ?_
  refine V_getR C 3 dX4_copyFrom_38 hL.1 rfl hin_X4_copyFrom_X4 (by decide) lk_X4_copyFrom_21 rfl rfl ?_
  refine V_callSND (nA := 2) (host := "DockTree") C dX4_copyFrom_41 (c_copyRow C.gp (hM.2 3 (by decide)) (hL.2 3 (by decide)) (by decide)) gX4_copyFrom_X8_copyRow_n42 (by decide +kernel) (by decide +kernel) (by decide +kernel) rfl (by decide +kernel) rfl (by decide) (by decide) (Nat.le_of_ble_eq_true rfl) ⟨by omega, by omega⟩ rfl ?_
  refine V_aload_n C dX4_copyFrom_44 rfl ?_
  refine V_getR C 4 dX4_copyFrom_45 hM.1 rfl hin_X4_copyFrom_X4 (by decide) lk_X4_copyFrom_24 rfl rfl ?_
  refine V_aload_n C dX4_copyFrom_48 rfl ?_
  refine V_getR C 4 dX4_copyFrom_49 hL.1 rfl hin_X4_copyFrom_X4 (by decide) lk_X4_copyFrom_24 rfl rfl ?_
  refine V_callSND (nA := 2) (host := "DockTree") C dX4_copyFrom_52 (c_copyRow C.gp (hM.2 4 (by decide)) (hL.2 4 (by decide)) (by decide)) gX4_copyFrom_X8_copyRow_n42 (by decide +kernel) (by decide +kernel) (by decide +kernel) rfl (by decide +kernel) rfl (by decide) (by decide) (Nat.le_of_ble_eq_true rfl) ⟨by omega, by omega⟩ rfl ?_
  refine V_aload_n C dX4_copyFrom_55 rfl ?_
  refine V_getR C 5 dX4_copyFrom_56 hM.1 rfl hin_X4_copyFrom_X4 (by decide) lk_X4_copyFrom_27 rfl rfl ?_
  refine V_aload_n C dX4_copyFrom_59 rfl ?_
  refine V_getR C 5 dX4_copyFrom_60 hL.1 rfl hin_X4_copyFrom_X4 (by decide) lk_X4_copyFrom_27 rfl rfl ?_
  refine V_callSND (nA := 2) (host := "DockTree") C dX4_copyFrom_63 (c_copyRow C.gp (hM.2 5 (by decide)) (hL.2 5 (by decide)) (by decide)) gX4_copyFrom_X8_copyRow_n42 (by decide +kernel) (by decide +kernel) (by decide +kernel) rfl (by decide +kernel) rfl (by decide) (by decide) (Nat.le_of_ble_eq_true rfl) ⟨by omega, by omega⟩ rfl ?_
  refine V_aload_n C dX4_copyFrom_66 rfl ?_
  refine V_getR C 6 dX4_copyFrom_67 hM.1 rfl hin_X4_copyFrom_X4 (by decide) lk_X4_copyFrom_30 rfl rfl ?_
  refine V_aload_n C dX4_copyFrom_70 rfl ?_
  refine V_getR C 6 dX4_copyFrom_71 hL.1 rfl hin_X4_copyFrom_X4 (by decide) lk_X4_copyFrom_30 rfl rfl ?_
  refine V_callSND (nA := 2) (host := "DockTree") C dX4_copyFrom_74 (c_copyRow C.gp (hM.2 6 (by decide)) (hL.2 6 (by decide)) (by decide)) gX4_copyFrom_X8_copyRow_n42 (by decide +kernel) (by decide +kernel) (by decide +kernel) rfl (by decide +kernel) rfl (by decide) (by decide) (Nat.le_of_ble_eq_true rfl) ⟨by omega, by omega⟩ rfl ?_
  refine V_aload_n C dX4_copyFrom_77 rfl ?_
  refine V_getR C 7 dX4_copyFrom_78 hM.1 rfl hin_X4_copyFrom_X4 (by decide) lk_X4_copyFrom_33 rfl rfl ?_
  refine V_aload_n C dX4_copyFrom_81 rfl ?_
  refine V_getR C 7 dX4_copyFrom_82 hL.1 rfl hin_X4_copyFrom_X4 (by decide) lk_X4_copyFrom_33 rfl rfl ?_
  refine V_callSND (nA := 2) (host := "DockTree") C dX4_copyFrom_85 (c_copyRow C.gp (hM.2 7 (by decide)) (hL.2 7 (by decide)) (by decide)) gX4_copyFrom_X8_copyRow_n42 (by decide +kernel) (by decide +kernel) (by decide +kernel) rfl (by decide +kernel) rfl (by decide) (by decide) (Nat.le_of_ble_eq_true rfl) ⟨by omega, by omega⟩ rfl ?_
  refine V_return C E dX4_copyFrom_88 (by omega) (by omega) ?_
  exact Dt_rfl
end LC
