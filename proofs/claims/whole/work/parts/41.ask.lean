/-! THE REFERENCE: its public calls that ask -/
/-- what the boxes need -/
def LyOk (mu : Mem) (r : Nat) (T Z : Mem) (w h : Int) : Prop := SO T ∧ (0 ≤ (quT T Z).1 ∧ (quT T Z).1 ≤ 32) ∧ okB T (quT T Z).1.toNat 0 (la1 mu r T Z w h)
abbrev lyA (mu : Mem) (r : Nat) (w h : Int) : Mem := lyM mu r (trT mu r) (quT (trT mu r) (zOf mu r)).1 (laZ mu r (trT mu r) (zOf mu r) w h)
abbrev lyW (mu : Mem) (r : Nat) : Mem := lyA mu r (mu (r + 1) 0) (mu (r + 1) 1)
abbrev qW (mu : Mem) (r : Nat) : Int := (quT (trT mu r) (zOf mu r)).1
abbrev zW (mu : Mem) (r : Nat) : Mem := laZ mu r (trT mu r) (zOf mu r) (mu (r + 1) 0) (mu (r + 1) 1)
theorem zOf_R {mu : Mem} (h : R32 mu) (r : Nat) : R32Z (zOf mu r) := fun k i _ => h (r + k) i
theorem ftP_k {T Z : Mem} {j i : Int} {w : Nat} (h : w < 9 ∨ 12 < w) : ftP T Z j w i = Z w i := by unfold ftP; rw [if_neg (by omega)]
theorem bxG_6 (T : Mem) (i : Int) : ∀ (d : Nat) (a : Int) (Z : Mem), bxG T d a Z 6 i = Z 6 i
  | 0, _, _ => rfl
  | d + 1, a, Z => by rw [bxG, bxG_6 T i d, bxS_6]
theorem la1_6 (mu : Mem) (r : Nat) (T Z : Mem) (w h i : Int) : la1 mu r T Z w h 6 i = (quT T Z).2 6 i := by
  unfold la1 rtZ
  split
  · unfold rbZ
    rw [up_a _ _ _ _ (by decide), up_a _ _ _ _ (by decide), up_a _ _ _ _ (by decide), up_a _ _ _ _ (by decide), leG_k _ _ _ (by decide) (by decide)]
  · rw [leG_k _ _ _ (by decide) (by decide)]
theorem laZ_6 (mu : Mem) (r : Nat) (T Z : Mem) (w h i : Int) : laZ mu r T Z w h 6 i = (quT T Z).2 6 i := by
  unfold laZ
  rw [ftP_k (by decide), bxG_6, la1_6]
theorem laZ_R {mu : Mem} {r : Nat} {T Z : Mem} (hR : R32 mu) (h : R32Z Z) {N : Int} (hB : TB N T) (hN : N ≤ 1073740000) {w k : Int} (hw : -2147483648 ≤ w ∧ w ≤ 2147483647) (hk : -2147483648 ≤ k ∧ k ≤ 2147483647) (ho : okB T (quT T Z).1.toNat 0 (la1 mu r T Z w k)) : R32Z (laZ mu r T Z w k) := by
  have h1 := bxG_R _ 0 (la1_R (r := r) (T := T) hR h hw hk) ho
  intro a i ha
  unfold laZ ftP
  split
  · rename_i z
    have := hB.n (a - 4) (by omega) (i := i) (by omega)
    omega
  · exact h1 a i ha
section MC
variable {G : Gx} {l : Launch} {S : Sh} {n : Nat} {mu : Mem} {la : Lam} {r : Nat}
theorem a_laysAll (hG : GP G) (hM : MoS S r) (hW : MWo mu r) (hy : LyOk mu r (trT mu r) (zOf mu r) (mu (r + 1) 0) (mu (r + 1) 1)) : Ct G l yX9_laysAll wsX9_laysAll 6 0 0 [.ref r] S n mu la (Dt none S n (lyW mu r) la) := by
  have h := m_laysAll (l := l) (n := n) (la := la) (q0 := mu r 9) hG hM hW.1 (zOf_R hW.1 r) hW.2.1 (by decide) hW.2.2.1 hy.1 hy.2.1.2 hy.2.1.1 hy.2.2
  rw [lyM_self] at h
  exact h
theorem a_lays (hG : GP G) (hM : MoS S r) (hW : MWo mu r) {w h : Int} (hw : -2147483648 ≤ w ∧ w ≤ 2147483647) (hh : -2147483648 ≤ h ∧ h ≤ 2147483647) (hy : LyOk mu r (trT mu r) (zOf mu r) w h) : Ct G l yX9_lays wsX9_lays 5 0 0 [.ref r, .int (I32 w), .int (I32 h)] S n mu la (Dt none S n (lyA mu r w h) la) := by
  have z := m_lays (l := l) (n := n) (la := la) (q0 := mu r 9) hG hM hW.1 (zOf_R hW.1 r) hW.2.1 (by decide) hW.2.2.1 hw hh hy.1 hy.2.1.2 hy.2.1.1 hy.2.2
  rw [lyM_self] at z
  exact z
theorem zW_R {mu : Mem} {r : Nat} (hW : MWo mu r) (hy : LyOk mu r (trT mu r) (zOf mu r) (mu (r + 1) 0) (mu (r + 1) 1)) : R32Z (zW mu r) :=
  laZ_R hW.1 (zOf_R hW.1 r) hW.2.1 (by decide) (hW.1 _ _) (hW.1 _ _) hy.2.2
theorem zW_6 {mu : Mem} {r : Nat} {w h : Int} (hy : LyOk mu r (trT mu r) (zOf mu r) w h) : ∀ i, 0 ≤ i ∧ i < qW mu r → 0 ≤ laZ mu r (trT mu r) (zOf mu r) w h 6 i ∧ laZ mu r (trT mu r) (zOf mu r) w h 6 i < 32 := by
  intro i hi
  rw [laZ_6]
  exact quT_6 hy.1 i hi
theorem ly_1 {mu : Mem} {r : Nat} {T Z : Mem} {q i : Int} (h : i < 35 ∨ 355 ≤ i) : lyM mu r T q Z (r + 1) i = mu (r + 1) i := zM_1 h
set_option maxRecDepth 20000 in
theorem ggX9_pane_X9_isPane : GoodIn wsX9_pane wsX9_isPane := goodIn_r _ [5, 6, 7, 8, 4, 9, 118, 119, 120, 121, 122, 123, 124, 125, 126, 127, 128, 129, 130, 131, 132, 133, 134, 135, 136, 137, 138, 139, 140, 141] (by decide +kernel) (by decide +kernel)
set_option maxRecDepth 20000 in
theorem gX9_pane_X9_isPane : GoodIn wsX9_pane (wsV RX9 156 RX9 yX9_isPane wsX9_isPane) := goodIn_app (goodIn_of _ (by decide +kernel)) ggX9_pane_X9_isPane
set_option maxRecDepth 20000 in
theorem ggX9_pane_X9_fails : GoodIn wsX9_pane wsX9_fails := goodIn_r _ [13, 14, 118, 119, 120, 121, 122, 123, 124, 125, 126, 127, 128, 129, 130, 131, 132, 133, 134, 135, 136, 137, 138, 139, 140, 141] (by decide +kernel) (by decide +kernel)
set_option maxRecDepth 20000 in
theorem gX9_pane_X9_fails : GoodIn wsX9_pane (wsV RX9 147 RX9 yX9_fails wsX9_fails) := goodIn_app (goodIn_of _ (by decide +kernel)) ggX9_pane_X9_fails
set_option maxRecDepth 20000 in
theorem ggX9_pane_X9_in : GoodIn wsX9_pane wsX9_in := goodIn_r _ [9] (by decide +kernel) (by decide +kernel)
set_option maxRecDepth 20000 in
theorem gX9_pane_X9_in : GoodIn wsX9_pane (va_wsS RX9 73 yX9_in wsX9_in) := goodIn_app (goodIn_of _ (by decide +kernel)) ggX9_pane_X9_in
set_option maxRecDepth 20000 in
theorem ggX9_pane_X9_laysAll : GoodIn wsX9_pane wsX9_laysAll := goodIn_r _ [18, 6, 19, 20, 21, 4, 22, 23, 24, 25, 26, 27, 28, 29, 30, 31, 32, 33, 34, 35, 36, 37, 38, 39, 40, 41, 42, 7, 8, 9, 43, 44, 45, 46, 47, 48, 49, 50, 51, 52, 53, 54, 55, 56, 57, 58, 59, 60, 61, 62, 63, 64, 65, 66, 67, 68, 69, 70, 71, 72, 73, 74, 75, 76, 77, 78, 79, 80, 81, 82, 83, 84, 85, 118, 119, 120, 121, 122, 123, 124, 125, 126, 127, 128, 129, 130, 131, 132, 133, 134, 135, 136, 137, 138, 139, 140, 141] (by decide +kernel) (by decide +kernel)
set_option maxRecDepth 20000 in
theorem gX9_pane_X9_laysAll : GoodIn wsX9_pane (wsV RX9 219 RX9 yX9_laysAll wsX9_laysAll) := goodIn_app (goodIn_of _ (by decide +kernel)) ggX9_pane_X9_laysAll
set_option maxRecDepth 20000 in
theorem ggX9_pane_X9_paneTold : GoodIn wsX9_pane wsX9_paneTold := goodIn_r _ [89, 6, 65, 66, 67, 4, 68, 90, 91, 92, 93, 39, 40, 41, 42, 94, 95, 96, 97, 98, 99, 100, 101, 102, 103, 104, 105, 106, 107, 108, 109, 25, 26, 27, 110, 111, 112, 113, 28, 118, 119, 120, 121, 122, 123, 124, 125, 126, 127, 128, 129, 130, 131, 132, 133, 134, 135, 136, 137, 138, 139, 140, 141] (by decide +kernel) (by decide +kernel)
set_option maxRecDepth 20000 in
theorem gX9_pane_X9_paneTold : GoodIn wsX9_pane (wsV RX9 243 RX9 yX9_paneTold wsX9_paneTold) := goodIn_app (goodIn_of _ (by decide +kernel)) ggX9_pane_X9_paneTold
set_option maxRecDepth 20000 in
theorem ggX9_pane_X9_tells : GoodIn wsX9_pane wsX9_tells := goodIn_r _ [117, 14, 118, 119, 120, 121, 122, 123, 124, 125, 126, 127, 128, 129, 130, 131, 132, 133, 134, 135, 136, 137, 138, 139, 140, 141] (by decide +kernel) (by decide +kernel)
set_option maxRecDepth 20000 in
theorem gX9_pane_X9_tells : GoodIn wsX9_pane (wsV RX9 69 RX9 yX9_tells wsX9_tells) := goodIn_app (goodIn_of _ (by decide +kernel)) ggX9_pane_X9_tells
theorem dX9_pane_0 : decode cX9_pane 0 = .ok (.aload_n 0, 1) := by decide +kernel
theorem dX9_pane_1 : decode cX9_pane 1 = .ok (.iload_n 1, 1) := by decide +kernel
theorem dX9_pane_2 : decode cX9_pane 2 = .ok (.invokevirtual 156, 3) := by decide +kernel
theorem dX9_pane_5 : decode cX9_pane 5 = .ok (.ifCond .ne 9, 3) := by decide +kernel
theorem dX9_pane_8 : decode cX9_pane 8 = .ok (.aload_n 0, 1) := by decide +kernel
theorem dX9_pane_9 : decode cX9_pane 9 = .ok (.iconst 1, 1) := by decide +kernel
theorem dX9_pane_10 : decode cX9_pane 10 = .ok (.invokevirtual 147, 3) := by decide +kernel
theorem dX9_pane_13 : decode cX9_pane 13 = .ok (.ireturn, 1) := by decide +kernel
theorem dX9_pane_14 : decode cX9_pane 14 = .ok (.iload_n 2, 1) := by decide +kernel
theorem dX9_pane_15 : decode cX9_pane 15 = .ok (.iconst 0, 1) := by decide +kernel
theorem dX9_pane_16 : decode cX9_pane 16 = .ok (.bipush 11, 2) := by decide +kernel
theorem dX9_pane_18 : decode cX9_pane 18 = .ok (.invokestatic 73, 3) := by decide +kernel
theorem dX9_pane_21 : decode cX9_pane 21 = .ok (.ifCond .ne 9, 3) := by decide +kernel
theorem dX9_pane_24 : decode cX9_pane 24 = .ok (.aload_n 0, 1) := by decide +kernel
theorem dX9_pane_25 : decode cX9_pane 25 = .ok (.iconst 2, 1) := by decide +kernel
theorem dX9_pane_26 : decode cX9_pane 26 = .ok (.invokevirtual 147, 3) := by decide +kernel
theorem dX9_pane_29 : decode cX9_pane 29 = .ok (.ireturn, 1) := by decide +kernel
theorem dX9_pane_30 : decode cX9_pane 30 = .ok (.aload_n 0, 1) := by decide +kernel
theorem dX9_pane_31 : decode cX9_pane 31 = .ok (.invokevirtual 219, 3) := by decide +kernel
theorem dX9_pane_34 : decode cX9_pane 34 = .ok (.aload_n 0, 1) := by decide +kernel
theorem dX9_pane_35 : decode cX9_pane 35 = .ok (.aload_n 0, 1) := by decide +kernel
theorem dX9_pane_36 : decode cX9_pane 36 = .ok (.iload_n 1, 1) := by decide +kernel
theorem dX9_pane_37 : decode cX9_pane 37 = .ok (.iload_n 2, 1) := by decide +kernel
theorem dX9_pane_38 : decode cX9_pane 38 = .ok (.invokevirtual 243, 3) := by decide +kernel
theorem dX9_pane_41 : decode cX9_pane 41 = .ok (.invokevirtual 69, 3) := by decide +kernel
theorem dX9_pane_44 : decode cX9_pane 44 = .ok (.ireturn, 1) := by decide +kernel
def pnF9 (P p w : Int) : Int := if ¬ (0 ≤ p ∧ p ≤ P - 1) then 1 else if ¬ (0 ≤ w ∧ w ≤ 11) then 2 else 0
theorem p_pane (hG : GP G) (hM : MoS S r) (hW : MWo mu r) {x w : Int} (hx : -2147483648 ≤ x ∧ x ≤ 2147483647) (hw : -2147483648 ≤ w ∧ w ≤ 2147483647) (hy : LyOk mu r (trT mu r) (zOf mu r) (mu (r + 1) 0) (mu (r + 1) 1)) (he : pnF9 (mu (r + 1) 2) x w = 0 → trT mu r 9 x ≠ -1 → abE (trT mu r) 40 (trT mu r 1 (trT mu r 9 x))) : Ct G l yX9_pane wsX9_pane 7 0 0 [.ref r, .int (I32 x), .int (I32 w)] S n mu la (Dt (some (.int (I32 (if pnF9 (mu (r + 1) 2) x w = 0 then pvF mu r (trT mu r) (zW mu r) x w else 0)))) S n (if pnF9 (mu (r + 1) 2) x w = 0 then up (lyW mu r) r 7 0 else up mu r 7 (pnF9 (mu (r + 1) 2) x w)) la) := by
  have o9 := hM.1
  have hP := hW.2.2.1
  have hB := hW.2.1
  refine Ct.ofV (cc := cX9_pane) (nL := 3) (ret := (some .int)) [some (.ref r), some (.int (I32 x)), some (.int (I32 w))] hG (by decide) rfl (Nat.le_of_ble_eq_true rfl) rfl ?_
  rintro X rfl rfl C hcl hsl E
  refine V_aload_n C dX9_pane_0 rfl ?_
  refine V_iload_n C dX9_pane_1 rfl ?_
  refine V_callVD (nA := 1) C dX9_pane_2 (m_isPane C.gp hM hP hx) gX9_pane_X9_isPane rfl o9 rfl (by decide +kernel) rfl (by decide) (by decide) (Nat.le_of_ble_eq_true rfl) ⟨by omega, by omega⟩ rfl ?_
  by_cases hb : 0 ≤ x ∧ x ≤ mu (r + 1) 2 - 1
  · rw [inI_1 hb]
    refine V_if_ne C 14 dX9_pane_5 (by decide) (by omega) (fun z0 => ?_) (fun z0 => ?_)
    · refine V_iload_n C dX9_pane_14 rfl ?_
      refine V_iconst C dX9_pane_15 ?_
      refine V_bipush C dX9_pane_16 (by decide +kernel) ?_
      refine V_callSD (nA := 3) C dX9_pane_18 (m_in C.gp hw (by omega) (by omega)) gX9_pane_X9_in rfl (by decide +kernel) rfl (by decide) (by decide) (Nat.le_of_ble_eq_true rfl) ⟨by omega, by omega⟩ rfl ?_
      by_cases hc : 0 ≤ w ∧ w ≤ 11
      · rw [inI_1 hc]
        have e0 : pnF9 (mu (r + 1) 2) x w = 0 := by unfold pnF9; (repeat' split) <;> omega
        rw [e0, if_pos rfl, if_pos rfl] at E
        refine V_if_ne C 30 dX9_pane_21 (by decide) (by omega) (fun z1 => ?_) (fun z1 => ?_)
        · refine V_aload_n C dX9_pane_30 rfl ?_
          refine V_callVD (nA := 0) C dX9_pane_31 (a_laysAll C.gp hM hW hy) gX9_pane_X9_laysAll rfl o9 rfl (by decide +kernel) rfl (by decide) (by decide) (Nat.le_of_ble_eq_true rfl) ⟨by omega, by omega⟩ rfl ?_
          refine V_aload_n C dX9_pane_34 rfl ?_
          refine V_aload_n C dX9_pane_35 rfl ?_
          refine V_iload_n C dX9_pane_36 rfl ?_
          refine V_iload_n C dX9_pane_37 rfl ?_
          refine V_callVD (nA := 2) C dX9_pane_38 (m_paneTold C.gp hM (zW_R hW hy) hB (by decide) hP (by omega) (by omega) (he e0)) gX9_pane_X9_paneTold rfl o9 rfl (by decide +kernel) rfl (by decide) (by decide) (Nat.le_of_ble_eq_true rfl) ⟨by omega, by omega⟩ rfl ?_
          refine V_callVD (nA := 1) C dX9_pane_41 (m_tells C.gp hM) gX9_pane_X9_tells rfl o9 rfl (by decide +kernel) rfl (by decide) (by decide) (Nat.le_of_ble_eq_true rfl) ⟨by omega, by omega⟩ rfl ?_
          refine V_ireturn C E dX9_pane_44 (by omega) (by omega) ?_
          exact Dt_rfl
        · exact absurd z1 (by decide)
      · rw [inI_0 hc]
        have e0 : pnF9 (mu (r + 1) 2) x w = 2 := by unfold pnF9; (repeat' split) <;> omega
        rw [e0, if_neg (by decide), if_neg (by decide)] at E
        refine V_if_ne C 30 dX9_pane_21 (by decide) (by omega) (fun z1 => ?_) (fun z1 => ?_)
        · exact absurd rfl z1
        · refine V_aload_n C dX9_pane_24 rfl ?_
          refine V_iconst C dX9_pane_25 ?_
          refine V_callVD (nA := 1) C dX9_pane_26 (m_fails C.gp hM) gX9_pane_X9_fails rfl o9 rfl (by decide +kernel) rfl (by decide) (by decide) (Nat.le_of_ble_eq_true rfl) ⟨by omega, by omega⟩ rfl ?_
          refine V_ireturn C E dX9_pane_29 (by omega) (by omega) ?_
          exact Dt_rfl
    · exact absurd z0 (by decide)
  · rw [inI_0 hb]
    have e0 : pnF9 (mu (r + 1) 2) x w = 1 := by unfold pnF9; (repeat' split) <;> omega
    rw [e0, if_neg (by decide), if_neg (by decide)] at E
    refine V_if_ne C 14 dX9_pane_5 (by decide) (by omega) (fun z0 => ?_) (fun z0 => ?_)
    · exact absurd rfl z0
    · refine V_aload_n C dX9_pane_8 rfl ?_
      refine V_iconst C dX9_pane_9 ?_
      refine V_callVD (nA := 1) C dX9_pane_10 (m_fails C.gp hM) gX9_pane_X9_fails rfl o9 rfl (by decide +kernel) rfl (by decide) (by decide) (Nat.le_of_ble_eq_true rfl) ⟨by omega, by omega⟩ rfl ?_
      refine V_ireturn C E dX9_pane_13 (by omega) (by omega) ?_
      exact Dt_rfl
set_option maxRecDepth 20000 in
theorem ggX9_split_X9_isPane : GoodIn wsX9_split wsX9_isPane := goodIn_r _ [5, 6, 7, 8, 4, 9, 102, 103, 104, 105, 106, 107, 108, 109, 110, 111, 112, 113, 114, 115, 116, 117, 118, 119, 120, 121, 122, 123, 124, 125] (by decide +kernel) (by decide +kernel)
set_option maxRecDepth 20000 in
theorem gX9_split_X9_isPane : GoodIn wsX9_split (wsV RX9 156 RX9 yX9_isPane wsX9_isPane) := goodIn_app (goodIn_of _ (by decide +kernel)) ggX9_split_X9_isPane
set_option maxRecDepth 20000 in
theorem ggX9_split_X9_fails : GoodIn wsX9_split wsX9_fails := goodIn_r _ [13, 14, 102, 103, 104, 105, 106, 107, 108, 109, 110, 111, 112, 113, 114, 115, 116, 117, 118, 119, 120, 121, 122, 123, 124, 125] (by decide +kernel) (by decide +kernel)
set_option maxRecDepth 20000 in
theorem gX9_split_X9_fails : GoodIn wsX9_split (wsV RX9 147 RX9 yX9_fails wsX9_fails) := goodIn_app (goodIn_of _ (by decide +kernel)) ggX9_split_X9_fails
set_option maxRecDepth 20000 in
theorem ggX9_split_X9_in : GoodIn wsX9_split wsX9_in := goodIn_r _ [9] (by decide +kernel) (by decide +kernel)
set_option maxRecDepth 20000 in
theorem gX9_split_X9_in : GoodIn wsX9_split (va_wsS RX9 73 yX9_in wsX9_in) := goodIn_app (goodIn_of _ (by decide +kernel)) ggX9_split_X9_in
set_option maxRecDepth 20000 in
theorem ggX9_split_X9_laysAll : GoodIn wsX9_split wsX9_laysAll := goodIn_r _ [18, 6, 19, 20, 21, 4, 22, 23, 24, 25, 26, 27, 28, 29, 30, 31, 32, 33, 34, 35, 36, 37, 38, 39, 40, 41, 42, 7, 8, 9, 43, 44, 45, 46, 47, 48, 49, 50, 51, 52, 53, 54, 55, 56, 57, 58, 59, 60, 61, 62, 63, 64, 65, 66, 67, 68, 69, 70, 71, 72, 73, 74, 75, 76, 77, 78, 79, 80, 81, 82, 83, 84, 85, 102, 103, 104, 105, 106, 107, 108, 109, 110, 111, 112, 113, 114, 115, 116, 117, 118, 119, 120, 121, 122, 123, 124, 125] (by decide +kernel) (by decide +kernel)
set_option maxRecDepth 20000 in
theorem gX9_split_X9_laysAll : GoodIn wsX9_split (wsV RX9 219 RX9 yX9_laysAll wsX9_laysAll) := goodIn_app (goodIn_of _ (by decide +kernel)) ggX9_split_X9_laysAll
set_option maxRecDepth 20000 in
theorem ggX9_split_X9_splitTold : GoodIn wsX9_split wsX9_splitTold := goodIn_r _ [89, 59, 60, 27, 28, 29, 90, 91, 92, 4, 93, 94, 95, 96, 97, 65, 66, 67, 68, 6, 39, 40, 41, 42, 47, 48, 49, 50, 7, 8, 9, 102, 103, 104, 105, 106, 107, 108, 109, 110, 111, 112, 113, 114, 115, 116, 117, 118, 119, 120, 121, 122, 123, 124, 125] (by decide +kernel) (by decide +kernel)
set_option maxRecDepth 20000 in
theorem gX9_split_X9_splitTold : GoodIn wsX9_split (wsV RX9 250 RX9 yX9_splitTold wsX9_splitTold) := goodIn_app (goodIn_of _ (by decide +kernel)) ggX9_split_X9_splitTold
set_option maxRecDepth 20000 in
theorem ggX9_split_X9_tells : GoodIn wsX9_split wsX9_tells := goodIn_r _ [101, 14, 102, 103, 104, 105, 106, 107, 108, 109, 110, 111, 112, 113, 114, 115, 116, 117, 118, 119, 120, 121, 122, 123, 124, 125] (by decide +kernel) (by decide +kernel)
set_option maxRecDepth 20000 in
theorem gX9_split_X9_tells : GoodIn wsX9_split (wsV RX9 69 RX9 yX9_tells wsX9_tells) := goodIn_app (goodIn_of _ (by decide +kernel)) ggX9_split_X9_tells
theorem dX9_split_0 : decode cX9_split 0 = .ok (.aload_n 0, 1) := by decide +kernel
theorem dX9_split_1 : decode cX9_split 1 = .ok (.iload_n 1, 1) := by decide +kernel
theorem dX9_split_2 : decode cX9_split 2 = .ok (.invokevirtual 156, 3) := by decide +kernel
theorem dX9_split_5 : decode cX9_split 5 = .ok (.ifCond .ne 9, 3) := by decide +kernel
theorem dX9_split_8 : decode cX9_split 8 = .ok (.aload_n 0, 1) := by decide +kernel
theorem dX9_split_9 : decode cX9_split 9 = .ok (.iconst 1, 1) := by decide +kernel
theorem dX9_split_10 : decode cX9_split 10 = .ok (.invokevirtual 147, 3) := by decide +kernel
theorem dX9_split_13 : decode cX9_split 13 = .ok (.ireturn, 1) := by decide +kernel
theorem dX9_split_14 : decode cX9_split 14 = .ok (.iload_n 2, 1) := by decide +kernel
theorem dX9_split_15 : decode cX9_split 15 = .ok (.ifCond .lt 13, 3) := by decide +kernel
theorem dX9_split_18 : decode cX9_split 18 = .ok (.iload_n 3, 1) := by decide +kernel
theorem dX9_split_19 : decode cX9_split 19 = .ok (.iconst 0, 1) := by decide +kernel
theorem dX9_split_20 : decode cX9_split 20 = .ok (.bipush 7, 2) := by decide +kernel
theorem dX9_split_22 : decode cX9_split 22 = .ok (.invokestatic 73, 3) := by decide +kernel
theorem dX9_split_25 : decode cX9_split 25 = .ok (.ifCond .ne 9, 3) := by decide +kernel
theorem dX9_split_28 : decode cX9_split 28 = .ok (.aload_n 0, 1) := by decide +kernel
theorem dX9_split_29 : decode cX9_split 29 = .ok (.iconst 2, 1) := by decide +kernel
theorem dX9_split_30 : decode cX9_split 30 = .ok (.invokevirtual 147, 3) := by decide +kernel
theorem dX9_split_33 : decode cX9_split 33 = .ok (.ireturn, 1) := by decide +kernel
theorem dX9_split_34 : decode cX9_split 34 = .ok (.aload_n 0, 1) := by decide +kernel
theorem dX9_split_35 : decode cX9_split 35 = .ok (.invokevirtual 219, 3) := by decide +kernel
theorem dX9_split_38 : decode cX9_split 38 = .ok (.aload_n 0, 1) := by decide +kernel
theorem dX9_split_39 : decode cX9_split 39 = .ok (.aload_n 0, 1) := by decide +kernel
theorem dX9_split_40 : decode cX9_split 40 = .ok (.iload_n 1, 1) := by decide +kernel
theorem dX9_split_41 : decode cX9_split 41 = .ok (.iload_n 2, 1) := by decide +kernel
theorem dX9_split_42 : decode cX9_split 42 = .ok (.iload_n 3, 1) := by decide +kernel
theorem dX9_split_43 : decode cX9_split 43 = .ok (.invokevirtual 250, 3) := by decide +kernel
theorem dX9_split_46 : decode cX9_split 46 = .ok (.invokevirtual 69, 3) := by decide +kernel
theorem dX9_split_49 : decode cX9_split 49 = .ok (.ireturn, 1) := by decide +kernel
def spF9 (P p v w : Int) : Int := if ¬ (0 ≤ p ∧ p ≤ P - 1) then 1 else if v < 0 ∨ ¬ (0 ≤ w ∧ w ≤ 7) then 2 else 0
theorem p_split (hG : GP G) (hM : MoS S r) (hW : MWo mu r) {x v w : Int} (hx : -2147483648 ≤ x ∧ x ≤ 2147483647) (hv : -2147483648 ≤ v ∧ v ≤ 2147483647) (hw : -2147483648 ≤ w ∧ w ≤ 2147483647) (hy : LyOk mu r (trT mu r) (zOf mu r) (mu (r + 1) 0) (mu (r + 1) 1)) : Ct G l yX9_split wsX9_split 7 0 0 [.ref r, .int (I32 x), .int (I32 v), .int (I32 w)] S n mu la (Dt (some (.int (I32 (if spF9 (mu (r + 1) 2) x v w = 0 then stF (trT mu r) (zW mu r) x v w else 0)))) S n (if spF9 (mu (r + 1) 2) x v w = 0 then up (lyW mu r) r 7 0 else up mu r 7 (spF9 (mu (r + 1) 2) x v w)) la) := by
  have o9 := hM.1
  have hP := hW.2.2.1
  have hB := hW.2.1
  refine Ct.ofV (cc := cX9_split) (nL := 4) (ret := (some .int)) [some (.ref r), some (.int (I32 x)), some (.int (I32 v)), some (.int (I32 w))] hG (by decide) rfl (Nat.le_of_ble_eq_true rfl) rfl ?_
  rintro X rfl rfl C hcl hsl E
  refine V_aload_n C dX9_split_0 rfl ?_
  refine V_iload_n C dX9_split_1 rfl ?_
  refine V_callVD (nA := 1) C dX9_split_2 (m_isPane C.gp hM hP hx) gX9_split_X9_isPane rfl o9 rfl (by decide +kernel) rfl (by decide) (by decide) (Nat.le_of_ble_eq_true rfl) ⟨by omega, by omega⟩ rfl ?_
  by_cases hb : 0 ≤ x ∧ x ≤ mu (r + 1) 2 - 1
  · rw [inI_1 hb]
    have bad : (v < 0 ∨ ¬ (0 ≤ w ∧ w ≤ 7)) → V X 28 [some (.ref r), some (.int (I32 x)), some (.int (I32 v)), some (.int (I32 w))] [] S n mu la 0 0 := by
      intro hq
      have e0 : spF9 (mu (r + 1) 2) x v w = 2 := by unfold spF9; (repeat' split) <;> omega
      rw [e0, if_neg (by decide), if_neg (by decide)] at E
      refine V_aload_n C dX9_split_28 rfl ?_
      refine V_iconst C dX9_split_29 ?_
      refine V_callVD (nA := 1) C dX9_split_30 (m_fails C.gp hM) gX9_split_X9_fails rfl o9 rfl (by decide +kernel) rfl (by decide) (by decide) (Nat.le_of_ble_eq_true rfl) ⟨by omega, by omega⟩ rfl ?_
      refine V_ireturn C E dX9_split_33 (by omega) (by omega) ?_
      exact Dt_rfl
    refine V_if_ne C 14 dX9_split_5 (by decide) (by omega) (fun z0 => ?_) (fun z0 => ?_)
    · refine V_iload_n C dX9_split_14 rfl ?_
      refine V_if_lt C 28 dX9_split_15 (by decide) (by omega) (fun z2 => ?_) (fun z2 => ?_)
      · exact bad (Or.inl z2)
      · refine V_iload_n C dX9_split_18 rfl ?_
        refine V_iconst C dX9_split_19 ?_
        refine V_bipush C dX9_split_20 (by decide +kernel) ?_
        refine V_callSD (nA := 3) C dX9_split_22 (m_in C.gp hw (by omega) (by omega)) gX9_split_X9_in rfl (by decide +kernel) rfl (by decide) (by decide) (Nat.le_of_ble_eq_true rfl) ⟨by omega, by omega⟩ rfl ?_
        by_cases hc : 0 ≤ w ∧ w ≤ 7
        · rw [inI_1 hc]
          have e0 : spF9 (mu (r + 1) 2) x v w = 0 := by unfold spF9; (repeat' split) <;> omega
          rw [e0, if_pos rfl, if_pos rfl] at E
          refine V_if_ne C 34 dX9_split_25 (by decide) (by omega) (fun z1 => ?_) (fun z1 => ?_)
          · refine V_aload_n C dX9_split_34 rfl ?_
            refine V_callVD (nA := 0) C dX9_split_35 (a_laysAll C.gp hM hW hy) gX9_split_X9_laysAll rfl o9 rfl (by decide +kernel) rfl (by decide) (by decide) (Nat.le_of_ble_eq_true rfl) ⟨by omega, by omega⟩ rfl ?_
            refine V_aload_n C dX9_split_38 rfl ?_
            refine V_aload_n C dX9_split_39 rfl ?_
            refine V_iload_n C dX9_split_40 rfl ?_
            refine V_iload_n C dX9_split_41 rfl ?_
            refine V_iload_n C dX9_split_42 rfl ?_
            refine V_callVD (nA := 3) C dX9_split_43 (m_splitTold C.gp hM hB (by decide) (by omega) (by omega) (by omega)) gX9_split_X9_splitTold rfl o9 rfl (by decide +kernel) rfl (by decide) (by decide) (Nat.le_of_ble_eq_true rfl) ⟨by omega, by omega⟩ rfl ?_
            refine V_callVD (nA := 1) C dX9_split_46 (m_tells C.gp hM) gX9_split_X9_tells rfl o9 rfl (by decide +kernel) rfl (by decide) (by decide) (Nat.le_of_ble_eq_true rfl) ⟨by omega, by omega⟩ rfl ?_
            refine V_ireturn C E dX9_split_49 (by omega) (by omega) ?_
            exact Dt_rfl
          · exact absurd z1 (by decide)
        · rw [inI_0 hc]
          refine V_if_ne C 34 dX9_split_25 (by decide) (by omega) (fun z1 => ?_) (fun z1 => ?_)
          · exact absurd rfl z1
          · exact bad (Or.inr hc)
    · exact absurd z0 (by decide)
  · rw [inI_0 hb]
    have e0 : spF9 (mu (r + 1) 2) x v w = 1 := by unfold spF9; (repeat' split) <;> omega
    rw [e0, if_neg (by decide), if_neg (by decide)] at E
    refine V_if_ne C 14 dX9_split_5 (by decide) (by omega) (fun z0 => ?_) (fun z0 => ?_)
    · exact absurd rfl z0
    · refine V_aload_n C dX9_split_8 rfl ?_
      refine V_iconst C dX9_split_9 ?_
      refine V_callVD (nA := 1) C dX9_split_10 (m_fails C.gp hM) gX9_split_X9_fails rfl o9 rfl (by decide +kernel) rfl (by decide) (by decide) (Nat.le_of_ble_eq_true rfl) ⟨by omega, by omega⟩ rfl ?_
      refine V_ireturn C E dX9_split_13 (by omega) (by omega) ?_
      exact Dt_rfl
set_option maxRecDepth 20000 in
theorem ggX9_paneAt_X9_in : GoodIn wsX9_paneAt wsX9_in := goodIn_r _ [5] (by decide +kernel) (by decide +kernel)
set_option maxRecDepth 20000 in
theorem gX9_paneAt_X9_in : GoodIn wsX9_paneAt (va_wsS RX9 73 yX9_in wsX9_in) := goodIn_app (goodIn_of _ (by decide +kernel)) ggX9_paneAt_X9_in
set_option maxRecDepth 20000 in
theorem ggX9_paneAt_X9_fails : GoodIn wsX9_paneAt wsX9_fails := goodIn_r _ [9, 10, 90, 91, 92, 93, 94, 95, 96, 97, 98, 99, 100, 101, 102, 103, 104, 105, 106, 107, 108, 109, 110, 111, 112, 113] (by decide +kernel) (by decide +kernel)
set_option maxRecDepth 20000 in
theorem gX9_paneAt_X9_fails : GoodIn wsX9_paneAt (wsV RX9 147 RX9 yX9_fails wsX9_fails) := goodIn_app (goodIn_of _ (by decide +kernel)) ggX9_paneAt_X9_fails
set_option maxRecDepth 20000 in
theorem ggX9_paneAt_X9_laysAll : GoodIn wsX9_paneAt wsX9_laysAll := goodIn_r _ [14, 1, 15, 16, 17, 4, 18, 19, 20, 21, 22, 23, 24, 25, 26, 27, 28, 29, 30, 31, 32, 33, 34, 35, 36, 37, 38, 2, 3, 5, 39, 40, 41, 42, 43, 44, 45, 46, 47, 48, 49, 50, 51, 52, 53, 54, 55, 56, 57, 58, 59, 60, 61, 62, 63, 64, 65, 66, 67, 68, 69, 70, 71, 72, 73, 74, 75, 76, 77, 78, 79, 80, 81, 90, 91, 92, 93, 94, 95, 96, 97, 98, 99, 100, 101, 102, 103, 104, 105, 106, 107, 108, 109, 110, 111, 112, 113] (by decide +kernel) (by decide +kernel)
set_option maxRecDepth 20000 in
theorem gX9_paneAt_X9_laysAll : GoodIn wsX9_paneAt (wsV RX9 219 RX9 yX9_laysAll wsX9_laysAll) := goodIn_app (goodIn_of _ (by decide +kernel)) ggX9_paneAt_X9_laysAll
set_option maxRecDepth 20000 in
theorem ggX9_paneAt_X9_of : GoodIn wsX9_paneAt wsX9_of := goodIn_r _ [38, 1, 90, 91, 92, 93, 94, 95, 96, 97, 98, 99, 100, 101, 102, 103, 104, 105, 106, 107, 108, 109, 110, 111, 112, 113] (by decide +kernel) (by decide +kernel)
set_option maxRecDepth 20000 in
theorem gX9_paneAt_X9_of : GoodIn wsX9_paneAt (wsV RX9 77 RX9 yX9_of wsX9_of) := goodIn_app (goodIn_of _ (by decide +kernel)) ggX9_paneAt_X9_of
set_option maxRecDepth 20000 in
theorem ggX9_paneAt_X9_covers : GoodIn wsX9_paneAt wsX9_covers := goodIn_r _ [85, 21, 23, 22, 24, 2, 3, 4, 5, 90, 91, 92, 93, 94, 95, 96, 97, 98, 99, 100, 101, 102, 103, 104, 105, 106, 107, 108, 109, 110, 111, 112, 113] (by decide +kernel) (by decide +kernel)
set_option maxRecDepth 20000 in
theorem gX9_paneAt_X9_covers : GoodIn wsX9_paneAt (wsV RX9 253 RX9 yX9_covers wsX9_covers) := goodIn_app (goodIn_of _ (by decide +kernel)) ggX9_paneAt_X9_covers
set_option maxRecDepth 20000 in
theorem ggX9_paneAt_X9_tells : GoodIn wsX9_paneAt wsX9_tells := goodIn_r _ [89, 10, 90, 91, 92, 93, 94, 95, 96, 97, 98, 99, 100, 101, 102, 103, 104, 105, 106, 107, 108, 109, 110, 111, 112, 113] (by decide +kernel) (by decide +kernel)
set_option maxRecDepth 20000 in
theorem gX9_paneAt_X9_tells : GoodIn wsX9_paneAt (wsV RX9 69 RX9 yX9_tells wsX9_tells) := goodIn_app (goodIn_of _ (by decide +kernel)) ggX9_paneAt_X9_tells
theorem dX9_paneAt_0 : decode cX9_paneAt 0 = .ok (.iload_n 1, 1) := by decide +kernel
theorem dX9_paneAt_1 : decode cX9_paneAt 1 = .ok (.iconst 0, 1) := by decide +kernel
theorem dX9_paneAt_2 : decode cX9_paneAt 2 = .ok (.aload_n 0, 1) := by decide +kernel
theorem dX9_paneAt_3 : decode cX9_paneAt 3 = .ok (.getfield 7, 3) := by decide +kernel
theorem dX9_paneAt_6 : decode cX9_paneAt 6 = .ok (.iconst 0, 1) := by decide +kernel
theorem dX9_paneAt_7 : decode cX9_paneAt 7 = .ok (.iaload, 1) := by decide +kernel
theorem dX9_paneAt_8 : decode cX9_paneAt 8 = .ok (.iconst 1, 1) := by decide +kernel
theorem dX9_paneAt_9 : decode cX9_paneAt 9 = .ok (.isub, 1) := by decide +kernel
theorem dX9_paneAt_10 : decode cX9_paneAt 10 = .ok (.invokestatic 73, 3) := by decide +kernel
theorem dX9_paneAt_13 : decode cX9_paneAt 13 = .ok (.ifCond .eq 19, 3) := by decide +kernel
theorem dX9_paneAt_16 : decode cX9_paneAt 16 = .ok (.iload_n 2, 1) := by decide +kernel
theorem dX9_paneAt_17 : decode cX9_paneAt 17 = .ok (.iconst 0, 1) := by decide +kernel
theorem dX9_paneAt_18 : decode cX9_paneAt 18 = .ok (.aload_n 0, 1) := by decide +kernel
theorem dX9_paneAt_19 : decode cX9_paneAt 19 = .ok (.getfield 7, 3) := by decide +kernel
theorem dX9_paneAt_22 : decode cX9_paneAt 22 = .ok (.iconst 1, 1) := by decide +kernel
theorem dX9_paneAt_23 : decode cX9_paneAt 23 = .ok (.iaload, 1) := by decide +kernel
theorem dX9_paneAt_24 : decode cX9_paneAt 24 = .ok (.iconst 1, 1) := by decide +kernel
theorem dX9_paneAt_25 : decode cX9_paneAt 25 = .ok (.isub, 1) := by decide +kernel
theorem dX9_paneAt_26 : decode cX9_paneAt 26 = .ok (.invokestatic 73, 3) := by decide +kernel
theorem dX9_paneAt_29 : decode cX9_paneAt 29 = .ok (.ifCond .ne 9, 3) := by decide +kernel
theorem dX9_paneAt_32 : decode cX9_paneAt 32 = .ok (.aload_n 0, 1) := by decide +kernel
theorem dX9_paneAt_33 : decode cX9_paneAt 33 = .ok (.iconst 1, 1) := by decide +kernel
theorem dX9_paneAt_34 : decode cX9_paneAt 34 = .ok (.invokevirtual 147, 3) := by decide +kernel
theorem dX9_paneAt_37 : decode cX9_paneAt 37 = .ok (.ireturn, 1) := by decide +kernel
theorem dX9_paneAt_38 : decode cX9_paneAt 38 = .ok (.aload_n 0, 1) := by decide +kernel
theorem dX9_paneAt_39 : decode cX9_paneAt 39 = .ok (.invokevirtual 219, 3) := by decide +kernel
theorem dX9_paneAt_42 : decode cX9_paneAt 42 = .ok (.iconst (-1), 1) := by decide +kernel
theorem dX9_paneAt_43 : decode cX9_paneAt 43 = .ok (.istore_n 3, 1) := by decide +kernel
theorem dX9_paneAt_44 : decode cX9_paneAt 44 = .ok (.iconst (-1), 1) := by decide +kernel
theorem dX9_paneAt_45 : decode cX9_paneAt 45 = .ok (.istore 4, 2) := by decide +kernel
theorem dX9_paneAt_47 : decode cX9_paneAt 47 = .ok (.iconst 0, 1) := by decide +kernel
theorem dX9_paneAt_48 : decode cX9_paneAt 48 = .ok (.istore 5, 2) := by decide +kernel
theorem dX9_paneAt_50 : decode cX9_paneAt 50 = .ok (.iload 5, 2) := by decide +kernel
theorem dX9_paneAt_52 : decode cX9_paneAt 52 = .ok (.bipush 32, 2) := by decide +kernel
theorem dX9_paneAt_54 : decode cX9_paneAt 54 = .ok (.if_icmp .ge 90, 3) := by decide +kernel
theorem dX9_paneAt_57 : decode cX9_paneAt 57 = .ok (.aload_n 0, 1) := by decide +kernel
theorem dX9_paneAt_58 : decode cX9_paneAt 58 = .ok (.iload 5, 2) := by decide +kernel
theorem dX9_paneAt_60 : decode cX9_paneAt 60 = .ok (.iconst 0, 1) := by decide +kernel
theorem dX9_paneAt_61 : decode cX9_paneAt 61 = .ok (.invokevirtual 77, 3) := by decide +kernel
theorem dX9_paneAt_64 : decode cX9_paneAt 64 = .ok (.iconst 4, 1) := by decide +kernel
theorem dX9_paneAt_65 : decode cX9_paneAt 65 = .ok (.if_icmp .ne 42, 3) := by decide +kernel
theorem dX9_paneAt_68 : decode cX9_paneAt 68 = .ok (.aload_n 0, 1) := by decide +kernel
theorem dX9_paneAt_69 : decode cX9_paneAt 69 = .ok (.iload 5, 2) := by decide +kernel
theorem dX9_paneAt_71 : decode cX9_paneAt 71 = .ok (.iload_n 1, 1) := by decide +kernel
theorem dX9_paneAt_72 : decode cX9_paneAt 72 = .ok (.iload_n 2, 1) := by decide +kernel
theorem dX9_paneAt_73 : decode cX9_paneAt 73 = .ok (.invokevirtual 253, 3) := by decide +kernel
theorem dX9_paneAt_76 : decode cX9_paneAt 76 = .ok (.ifCond .eq 31, 3) := by decide +kernel
theorem dX9_paneAt_79 : decode cX9_paneAt 79 = .ok (.iload_n 3, 1) := by decide +kernel
theorem dX9_paneAt_80 : decode cX9_paneAt 80 = .ok (.iconst (-1), 1) := by decide +kernel
theorem dX9_paneAt_81 : decode cX9_paneAt 81 = .ok (.if_icmp .eq 19, 3) := by decide +kernel
theorem dX9_paneAt_84 : decode cX9_paneAt 84 = .ok (.aload_n 0, 1) := by decide +kernel
theorem dX9_paneAt_85 : decode cX9_paneAt 85 = .ok (.iload 5, 2) := by decide +kernel
theorem dX9_paneAt_87 : decode cX9_paneAt 87 = .ok (.iconst 2, 1) := by decide +kernel
theorem dX9_paneAt_88 : decode cX9_paneAt 88 = .ok (.invokevirtual 77, 3) := by decide +kernel
theorem dX9_paneAt_91 : decode cX9_paneAt 91 = .ok (.aload_n 0, 1) := by decide +kernel
theorem dX9_paneAt_92 : decode cX9_paneAt 92 = .ok (.iload_n 3, 1) := by decide +kernel
theorem dX9_paneAt_93 : decode cX9_paneAt 93 = .ok (.iconst 2, 1) := by decide +kernel
theorem dX9_paneAt_94 : decode cX9_paneAt 94 = .ok (.invokevirtual 77, 3) := by decide +kernel
theorem dX9_paneAt_97 : decode cX9_paneAt 97 = .ok (.if_icmp .le 8, 3) := by decide +kernel
theorem dX9_paneAt_100 : decode cX9_paneAt 100 = .ok (.iload 5, 2) := by decide +kernel
theorem dX9_paneAt_102 : decode cX9_paneAt 102 = .ok (.goto 4, 3) := by decide +kernel
theorem dX9_paneAt_105 : decode cX9_paneAt 105 = .ok (.iload_n 3, 1) := by decide +kernel
theorem dX9_paneAt_106 : decode cX9_paneAt 106 = .ok (.istore_n 3, 1) := by decide +kernel
theorem dX9_paneAt_107 : decode cX9_paneAt 107 = .ok (.aload_n 0, 1) := by decide +kernel
theorem dX9_paneAt_108 : decode cX9_paneAt 108 = .ok (.iload 5, 2) := by decide +kernel
theorem dX9_paneAt_110 : decode cX9_paneAt 110 = .ok (.iconst 0, 1) := by decide +kernel
theorem dX9_paneAt_111 : decode cX9_paneAt 111 = .ok (.invokevirtual 77, 3) := by decide +kernel
theorem dX9_paneAt_114 : decode cX9_paneAt 114 = .ok (.iconst 1, 1) := by decide +kernel
theorem dX9_paneAt_115 : decode cX9_paneAt 115 = .ok (.if_icmp .ne 19, 3) := by decide +kernel
theorem dX9_paneAt_118 : decode cX9_paneAt 118 = .ok (.aload_n 0, 1) := by decide +kernel
theorem dX9_paneAt_119 : decode cX9_paneAt 119 = .ok (.iload 5, 2) := by decide +kernel
theorem dX9_paneAt_121 : decode cX9_paneAt 121 = .ok (.iload_n 1, 1) := by decide +kernel
theorem dX9_paneAt_122 : decode cX9_paneAt 122 = .ok (.iload_n 2, 1) := by decide +kernel
theorem dX9_paneAt_123 : decode cX9_paneAt 123 = .ok (.invokevirtual 253, 3) := by decide +kernel
theorem dX9_paneAt_126 : decode cX9_paneAt 126 = .ok (.ifCond .eq 8, 3) := by decide +kernel
theorem dX9_paneAt_129 : decode cX9_paneAt 129 = .ok (.iload 5, 2) := by decide +kernel
theorem dX9_paneAt_131 : decode cX9_paneAt 131 = .ok (.goto 5, 3) := by decide +kernel
theorem dX9_paneAt_134 : decode cX9_paneAt 134 = .ok (.iload 4, 2) := by decide +kernel
theorem dX9_paneAt_136 : decode cX9_paneAt 136 = .ok (.istore 4, 2) := by decide +kernel
theorem dX9_paneAt_138 : decode cX9_paneAt 138 = .ok (.iinc 5 1, 3) := by decide +kernel
theorem dX9_paneAt_141 : decode cX9_paneAt 141 = .ok (.goto (-91), 3) := by decide +kernel
theorem dX9_paneAt_144 : decode cX9_paneAt 144 = .ok (.iload_n 3, 1) := by decide +kernel
theorem dX9_paneAt_145 : decode cX9_paneAt 145 = .ok (.iconst (-1), 1) := by decide +kernel
theorem dX9_paneAt_146 : decode cX9_paneAt 146 = .ok (.if_icmp .eq 7, 3) := by decide +kernel
theorem dX9_paneAt_149 : decode cX9_paneAt 149 = .ok (.iload_n 3, 1) := by decide +kernel
theorem dX9_paneAt_150 : decode cX9_paneAt 150 = .ok (.goto 5, 3) := by decide +kernel
theorem dX9_paneAt_153 : decode cX9_paneAt 153 = .ok (.iload 4, 2) := by decide +kernel
theorem dX9_paneAt_155 : decode cX9_paneAt 155 = .ok (.istore 5, 2) := by decide +kernel
theorem dX9_paneAt_157 : decode cX9_paneAt 157 = .ok (.aload_n 0, 1) := by decide +kernel
theorem dX9_paneAt_158 : decode cX9_paneAt 158 = .ok (.iload 5, 2) := by decide +kernel
theorem dX9_paneAt_160 : decode cX9_paneAt 160 = .ok (.iconst (-1), 1) := by decide +kernel
theorem dX9_paneAt_161 : decode cX9_paneAt 161 = .ok (.if_icmp .ne 7, 3) := by decide +kernel
theorem dX9_paneAt_164 : decode cX9_paneAt 164 = .ok (.iconst (-1), 1) := by decide +kernel
theorem dX9_paneAt_165 : decode cX9_paneAt 165 = .ok (.goto 10, 3) := by decide +kernel
theorem dX9_paneAt_168 : decode cX9_paneAt 168 = .ok (.aload_n 0, 1) := by decide +kernel
theorem dX9_paneAt_169 : decode cX9_paneAt 169 = .ok (.iload 5, 2) := by decide +kernel
theorem dX9_paneAt_171 : decode cX9_paneAt 171 = .ok (.iconst 4, 1) := by decide +kernel
theorem dX9_paneAt_172 : decode cX9_paneAt 172 = .ok (.invokevirtual 77, 3) := by decide +kernel
theorem dX9_paneAt_175 : decode cX9_paneAt 175 = .ok (.invokevirtual 69, 3) := by decide +kernel
theorem dX9_paneAt_178 : decode cX9_paneAt 178 = .ok (.ireturn, 1) := by decide +kernel
theorem hin_X9_paneAt_X9 : ∀ w ∈ wsX90, w ∈ wsX9_paneAt := by decide +kernel
theorem lk_X9_paneAt_7 : Cond.fieldLink RX9 7 RX9 "s" "[I" ∈ wsX9_paneAt := by decide +kernel
def paF9 (W H x y : Int) : Int := if (0 ≤ x ∧ x ≤ W - 1) ∧ 0 ≤ y ∧ y ≤ H - 1 then 0 else 1
theorem tpG_b (T Z : Mem) (x y : Int) : ∀ m : Nat, -1 ≤ tpG T Z x y m ∧ tpG T Z x y m < m
  | 0 => by simp [tpG]
  | m + 1 => by
    have := tpG_b T Z x y m
    rw [tpG]
    (repeat' split) <;> omega
theorem cvT_b (Z : Mem) (g x y : Int) : 0 ≤ cvT Z g x y ∧ cvT Z g x y ≤ 1 := by unfold cvT; split <;> omega
theorem p_paneAt (hG : GP G) (hM : MoS S r) (hW : MWo mu r) (hwh : (0 ≤ mu (r + 1) 0 ∧ mu (r + 1) 0 ≤ 1000) ∧ 0 ≤ mu (r + 1) 1 ∧ mu (r + 1) 1 ≤ 1000) {x y : Int} (hx : -2147483648 ≤ x ∧ x ≤ 2147483647) (hy9 : -2147483648 ≤ y ∧ y ≤ 2147483647) (hy : LyOk mu r (trT mu r) (zOf mu r) (mu (r + 1) 0) (mu (r + 1) 1)) : Ct G l yX9_paneAt wsX9_paneAt 7 0 0 [.ref r, .int (I32 x), .int (I32 y)] S n mu la (Dt (some (.int (I32 (if paF9 (mu (r + 1) 0) (mu (r + 1) 1) x y = 0 then ptV (trT mu r) (zW mu r) x y else 0)))) S n (if paF9 (mu (r + 1) 0) (mu (r + 1) 1) x y = 0 then up (lyW mu r) r 7 0 else up mu r 7 1) la) := by
  have o9 := hM.1
  have hP := hW.2.2.1
  have hB := hW.2.1
  refine Ct.ofV (cc := cX9_paneAt) (nL := 6) (ret := (some .int)) [some (.ref r), some (.int (I32 x)), some (.int (I32 y)), none, none, none] hG (by decide) rfl (Nat.le_of_ble_eq_true rfl) rfl ?_
  rintro X rfl rfl C hcl hsl E
  have bad : ¬ ((0 ≤ x ∧ x ≤ mu (r + 1) 0 - 1) ∧ 0 ≤ y ∧ y ≤ mu (r + 1) 1 - 1) → V X 32 [some (.ref r), some (.int (I32 x)), some (.int (I32 y)), none, none, none] [] S n mu la 0 0 := by
    intro hq
    have e0 : paF9 (mu (r + 1) 0) (mu (r + 1) 1) x y = 1 := by unfold paF9; rw [if_neg hq]
    rw [e0, if_neg (by decide), if_neg (by decide)] at E
    refine V_aload_n C dX9_paneAt_32 rfl ?_
    refine V_iconst C dX9_paneAt_33 ?_
    refine V_callVD (nA := 1) C dX9_paneAt_34 (m_fails C.gp hM) gX9_paneAt_X9_fails rfl o9 rfl (by decide +kernel) rfl (by decide) (by decide) (Nat.le_of_ble_eq_true rfl) ⟨by omega, by omega⟩ rfl ?_
    refine V_ireturn C E dX9_paneAt_37 (by omega) (by omega) ?_
    exact Dt_rfl
  refine V_iload_n C dX9_paneAt_0 rfl ?_
  refine V_iconst C dX9_paneAt_1 ?_
  refine V_aload_n C dX9_paneAt_2 rfl ?_
  refine V_getR C 0 dX9_paneAt_3 o9 rfl hin_X9_paneAt_X9 (by decide) lk_X9_paneAt_7 rfl rfl ?_
  refine V_iconst C dX9_paneAt_6 ?_
  refine V_iald C dX9_paneAt_7 hM.2.1 (by first | assumption | decide) (by omega) ?_
  refine V_iconst C dX9_paneAt_8 ?_
  refine V_isub C dX9_paneAt_9 ?_
  refine V_callSD (nA := 3) C dX9_paneAt_10 (m_in C.gp hx (by omega) (by omega)) gX9_paneAt_X9_in rfl (by decide +kernel) rfl (by decide) (by decide) (Nat.le_of_ble_eq_true rfl) ⟨by omega, by omega⟩ rfl ?_
  by_cases hb : 0 ≤ x ∧ x ≤ mu (r + 1) 0 - 1
  · rw [inI_1 hb]
    refine V_if_eq C 32 dX9_paneAt_13 (by decide) (by omega) (fun z0 => ?_) (fun z0 => ?_)
    · exact absurd z0 (by decide)
    · refine V_iload_n C dX9_paneAt_16 rfl ?_
      refine V_iconst C dX9_paneAt_17 ?_
      refine V_aload_n C dX9_paneAt_18 rfl ?_
      refine V_getR C 0 dX9_paneAt_19 o9 rfl hin_X9_paneAt_X9 (by decide) lk_X9_paneAt_7 rfl rfl ?_
      refine V_iconst C dX9_paneAt_22 ?_
      refine V_iald C dX9_paneAt_23 hM.2.1 (by first | assumption | decide) (by omega) ?_
      refine V_iconst C dX9_paneAt_24 ?_
      refine V_isub C dX9_paneAt_25 ?_
      refine V_callSD (nA := 3) C dX9_paneAt_26 (m_in C.gp hy9 (by omega) (by omega)) gX9_paneAt_X9_in rfl (by decide +kernel) rfl (by decide) (by decide) (Nat.le_of_ble_eq_true rfl) ⟨by omega, by omega⟩ rfl ?_
      by_cases hc : 0 ≤ y ∧ y ≤ mu (r + 1) 1 - 1
      · rw [inI_1 hc]
        have e0 : paF9 (mu (r + 1) 0) (mu (r + 1) 1) x y = 0 := by unfold paF9; rw [if_pos ⟨hb, hc⟩]
        rw [e0, if_pos rfl, if_pos rfl] at E
        refine V_if_ne C 38 dX9_paneAt_29 (by decide) (by omega) (fun z1 => ?_) (fun z1 => ?_)
        · have hRZ := zW_R hW hy
          refine V_aload_n C dX9_paneAt_38 rfl ?_
          refine V_callVD (nA := 0) C dX9_paneAt_39 (a_laysAll C.gp hM hW hy) gX9_paneAt_X9_laysAll rfl o9 rfl (by decide +kernel) rfl (by decide) (by decide) (Nat.le_of_ble_eq_true rfl) ⟨by omega, by omega⟩ rfl ?_
          unfold ptV pnT at E
          have eL : lyW mu r = lyM mu r (trT mu r) (qW mu r) (zW mu r) := rfl
          rw [eL] at E ⊢
          generalize trT mu r = T at hB E ⊢
          generalize zW mu r = Z at hRZ E ⊢
          generalize qW mu r = q at E ⊢
          have loop : ∀ (d j : Nat), j + d = 32 → V X 50 [some (.ref r), some (.int (I32 x)), some (.int (I32 y)), some (.int (I32 (tpG T Z x y j))), some (.int (I32 (laG (trI T Z x y) j))), some (.int (I32 (j : Int)))] [] S n (lyM mu r T q Z) la 0 0 := by
            intro d
            induction d with
            | zero =>
              intro j h1
              have hj : j = 32 := by omega
              subst hj
              have bt := tpG_b T Z x y 32
              have bl := laG_b (trI T Z x y) 32
              generalize tpG T Z x y 32 = t1 at bt E
              generalize laG (trI T Z x y) 32 = t2 at bl E
              refine V_iload C dX9_paneAt_50 rfl ?_
              refine V_bipush C dX9_paneAt_52 (by decide +kernel) ?_
              refine V_icmp_ge C 144 dX9_paneAt_54 (by decide) (by omega) (by omega) (fun z54 => ?_) (fun z54 => ?_)
              · refine V_iload_n C dX9_paneAt_144 rfl ?_
                refine V_iconst C dX9_paneAt_145 ?_
                refine V_icmp_eq C 153 dX9_paneAt_146 (by decide) (by omega) (by omega) (fun z146 => ?_) (fun z146 => ?_)
                · rw [if_neg (show ¬ t1 ≠ -1 by omega)] at E
                  refine V_iload C dX9_paneAt_153 rfl ?_
                  refine V_istore C dX9_paneAt_155 rfl (by decide) ?_
                  refine V_aload_n C dX9_paneAt_157 rfl ?_
                  refine V_iload C dX9_paneAt_158 rfl ?_
                  refine V_iconst C dX9_paneAt_160 ?_
                  refine V_icmp_ne C 168 dX9_paneAt_161 (by decide) (by omega) (by omega) (fun z161 => ?_) (fun z161 => ?_)
                  · rw [if_neg (by assumption)] at E
                    refine V_aload_n C dX9_paneAt_168 rfl ?_
                    refine V_iload C dX9_paneAt_169 rfl ?_
                    refine V_iconst C dX9_paneAt_171 ?_
                    refine V_callVD (nA := 2) C dX9_paneAt_172 (m_of C.gp hM (by omega) 4 (by decide) rfl) gX9_paneAt_X9_of rfl o9 rfl (by decide +kernel) rfl (by decide) (by decide) (Nat.le_of_ble_eq_true rfl) ⟨by omega, by omega⟩ rfl ?_
                    refine V_callVD (nA := 1) C dX9_paneAt_175 (m_tells C.gp hM) gX9_paneAt_X9_tells rfl o9 rfl (by decide +kernel) rfl (by decide) (by decide) (Nat.le_of_ble_eq_true rfl) ⟨by omega, by omega⟩ rfl ?_
                    refine V_ireturn C E dX9_paneAt_178 (by omega) (by omega) ?_
                    exact Dt_rfl
                  · rw [if_pos (by assumption)] at E
                    refine V_iconst C dX9_paneAt_164 ?_
                    refine V_goto C 175 dX9_paneAt_165 (by decide) ?_
                    refine V_callVD (nA := 1) C dX9_paneAt_175 (m_tells C.gp hM) gX9_paneAt_X9_tells rfl o9 rfl (by decide +kernel) rfl (by decide) (by decide) (Nat.le_of_ble_eq_true rfl) ⟨by omega, by omega⟩ rfl ?_
                    refine V_ireturn C E dX9_paneAt_178 (by omega) (by omega) ?_
                    exact Dt_rfl
                · refine V_iload_n C dX9_paneAt_149 rfl ?_
                  rw [if_pos (show t1 ≠ -1 by omega)] at E
                  refine V_goto C 155 dX9_paneAt_150 (by decide) ?_
                  refine V_istore C dX9_paneAt_155 rfl (by decide) ?_
                  refine V_aload_n C dX9_paneAt_157 rfl ?_
                  refine V_iload C dX9_paneAt_158 rfl ?_
                  refine V_iconst C dX9_paneAt_160 ?_
                  refine V_icmp_ne C 168 dX9_paneAt_161 (by decide) (by omega) (by omega) (fun z161 => ?_) (fun z161 => ?_)
                  · rw [if_neg (by assumption)] at E
                    refine V_aload_n C dX9_paneAt_168 rfl ?_
                    refine V_iload C dX9_paneAt_169 rfl ?_
                    refine V_iconst C dX9_paneAt_171 ?_
                    refine V_callVD (nA := 2) C dX9_paneAt_172 (m_of C.gp hM (by omega) 4 (by decide) rfl) gX9_paneAt_X9_of rfl o9 rfl (by decide +kernel) rfl (by decide) (by decide) (Nat.le_of_ble_eq_true rfl) ⟨by omega, by omega⟩ rfl ?_
                    refine V_callVD (nA := 1) C dX9_paneAt_175 (m_tells C.gp hM) gX9_paneAt_X9_tells rfl o9 rfl (by decide +kernel) rfl (by decide) (by decide) (Nat.le_of_ble_eq_true rfl) ⟨by omega, by omega⟩ rfl ?_
                    refine V_ireturn C E dX9_paneAt_178 (by omega) (by omega) ?_
                    exact Dt_rfl
                  · rw [if_pos (by assumption)] at E
                    refine V_iconst C dX9_paneAt_164 ?_
                    refine V_goto C 175 dX9_paneAt_165 (by decide) ?_
                    refine V_callVD (nA := 1) C dX9_paneAt_175 (m_tells C.gp hM) gX9_paneAt_X9_tells rfl o9 rfl (by decide +kernel) rfl (by decide) (by decide) (Nat.le_of_ble_eq_true rfl) ⟨by omega, by omega⟩ rfl ?_
                    refine V_ireturn C E dX9_paneAt_178 (by omega) (by omega) ?_
                    exact Dt_rfl
              · exact absurd z54 (by first | omega | decide)
            | succ d ih =>
              intro j h1
              have b0 := hB.n 0 (by decide) (i := (j : Int)) (by omega)
              have b2 := hB.n 2 (by decide) (i := (j : Int)) (by omega)
              have bc := cvT_b Z j x y
              have bt := tpG_b T Z x y j
              have h9 := ih (j + 1) (by omega)
              rw [tpG, laG] at h9
              generalize tpG T Z x y j = t1 at bt h9
              generalize laG (trI T Z x y) j = t2 at h9
              have tree : ∀ (t3 : Int), (if T 0 j = 4 ∧ cvT Z j x y = 1 then (if t1 = -1 ∨ T 2 t1 < T 2 j then (j : Int) else t1) else t1) = t3 → V X 107 [some (.ref r), some (.int (I32 x)), some (.int (I32 y)), some (.int (I32 t3)), some (.int (I32 t2)), some (.int (I32 (j : Int)))] [] S n (lyM mu r T q Z) la 0 0 := by
                intro t3 ht
                rw [ht] at h9
                refine V_aload_n C dX9_paneAt_107 rfl ?_
                refine V_iload C dX9_paneAt_108 rfl ?_
                refine V_iconst C dX9_paneAt_110 ?_
                refine V_callVD (nA := 2) C dX9_paneAt_111 (m_of C.gp hM (by omega) 0 (by decide) rfl) gX9_paneAt_X9_of rfl o9 rfl (by decide +kernel) rfl (by decide) (by decide) (Nat.le_of_ble_eq_true rfl) ⟨by omega, by omega⟩ rfl ?_
                refine V_iconst C dX9_paneAt_114 ?_
                refine V_icmp_ne C 134 dX9_paneAt_115 (by decide) (by omega) (by omega) (fun z115 => ?_) (fun z115 => ?_)
                · rw [if_neg (show ¬ trI T Z x y j = 1 by unfold trI; rw [if_neg (by omega)]; decide)] at h9
                  refine V_iload C dX9_paneAt_134 rfl ?_
                  refine V_istore C dX9_paneAt_136 rfl (by decide) ?_
                  refine V_iinc C dX9_paneAt_138 rfl rfl (by decide) ?_
                  refine V_goto C 50 dX9_paneAt_141 (by decide) ?_
                  exact h9
                · refine V_aload_n C dX9_paneAt_118 rfl ?_
                  refine V_iload C dX9_paneAt_119 rfl ?_
                  refine V_iload_n C dX9_paneAt_121 rfl ?_
                  refine V_iload_n C dX9_paneAt_122 rfl ?_
                  refine V_callVD (nA := 3) C dX9_paneAt_123 (m_covers C.gp hM hRZ (by omega) hx hy9) gX9_paneAt_X9_covers rfl o9 rfl (by decide +kernel) rfl (by decide) (by decide) (Nat.le_of_ble_eq_true rfl) ⟨by omega, by omega⟩ rfl ?_
                  refine V_if_eq C 134 dX9_paneAt_126 (by decide) (by omega) (fun z126 => ?_) (fun z126 => ?_)
                  · rw [if_neg (show ¬ trI T Z x y j = 1 by unfold trI; rw [if_neg (by omega)]; decide)] at h9
                    refine V_iload C dX9_paneAt_134 rfl ?_
                    refine V_istore C dX9_paneAt_136 rfl (by decide) ?_
                    refine V_iinc C dX9_paneAt_138 rfl rfl (by decide) ?_
                    refine V_goto C 50 dX9_paneAt_141 (by decide) ?_
                    exact h9
                  · rw [if_pos (show trI T Z x y j = 1 by unfold trI; rw [if_pos (by omega)])] at h9
                    refine V_iload C dX9_paneAt_129 rfl ?_
                    refine V_goto C 136 dX9_paneAt_131 (by decide) ?_
                    refine V_istore C dX9_paneAt_136 rfl (by decide) ?_
                    refine V_iinc C dX9_paneAt_138 rfl rfl (by decide) ?_
                    refine V_goto C 50 dX9_paneAt_141 (by decide) ?_
                    exact h9
              refine V_iload C dX9_paneAt_50 rfl ?_
              refine V_bipush C dX9_paneAt_52 (by decide +kernel) ?_
              refine V_icmp_ge C 144 dX9_paneAt_54 (by decide) (by omega) (by omega) (fun z54 => ?_) (fun z54 => ?_)
              · exact absurd z54 (by first | omega | decide)
              · refine V_aload_n C dX9_paneAt_57 rfl ?_
                refine V_iload C dX9_paneAt_58 rfl ?_
                refine V_iconst C dX9_paneAt_60 ?_
                refine V_callVD (nA := 2) C dX9_paneAt_61 (m_of C.gp hM (by omega) 0 (by decide) rfl) gX9_paneAt_X9_of rfl o9 rfl (by decide +kernel) rfl (by decide) (by decide) (Nat.le_of_ble_eq_true rfl) ⟨by omega, by omega⟩ rfl ?_
                refine V_iconst C dX9_paneAt_64 ?_
                refine V_icmp_ne C 107 dX9_paneAt_65 (by decide) (by omega) (by omega) (fun z65 => ?_) (fun z65 => ?_)
                · exact tree _ (by (repeat' split) <;> first | rfl | omega)
                · refine V_aload_n C dX9_paneAt_68 rfl ?_
                  refine V_iload C dX9_paneAt_69 rfl ?_
                  refine V_iload_n C dX9_paneAt_71 rfl ?_
                  refine V_iload_n C dX9_paneAt_72 rfl ?_
                  refine V_callVD (nA := 3) C dX9_paneAt_73 (m_covers C.gp hM hRZ (by omega) hx hy9) gX9_paneAt_X9_covers rfl o9 rfl (by decide +kernel) rfl (by decide) (by decide) (Nat.le_of_ble_eq_true rfl) ⟨by omega, by omega⟩ rfl ?_
                  refine V_if_eq C 107 dX9_paneAt_76 (by decide) (by omega) (fun z76 => ?_) (fun z76 => ?_)
                  · exact tree _ (by (repeat' split) <;> first | rfl | omega)
                  · refine V_iload_n C dX9_paneAt_79 rfl ?_
                    refine V_iconst C dX9_paneAt_80 ?_
                    refine V_icmp_eq C 100 dX9_paneAt_81 (by decide) (by omega) (by omega) (fun z81 => ?_) (fun z81 => ?_)
                    · refine V_iload C dX9_paneAt_100 rfl ?_
                      refine V_goto C 106 dX9_paneAt_102 (by decide) ?_
                      refine V_istore_n C dX9_paneAt_106 rfl (by decide) ?_
                      exact tree _ (by (repeat' split) <;> first | rfl | omega)
                    · have b2t := hB.n 2 (by decide) (i := t1) (by omega)
                      refine V_aload_n C dX9_paneAt_84 rfl ?_
                      refine V_iload C dX9_paneAt_85 rfl ?_
                      refine V_iconst C dX9_paneAt_87 ?_
                      refine V_callVD (nA := 2) C dX9_paneAt_88 (m_of C.gp hM (by omega) 2 (by decide) rfl) gX9_paneAt_X9_of rfl o9 rfl (by decide +kernel) rfl (by decide) (by decide) (Nat.le_of_ble_eq_true rfl) ⟨by omega, by omega⟩ rfl ?_
                      refine V_aload_n C dX9_paneAt_91 rfl ?_
                      refine V_iload_n C dX9_paneAt_92 rfl ?_
                      refine V_iconst C dX9_paneAt_93 ?_
                      refine V_callVD (nA := 2) C dX9_paneAt_94 (m_of C.gp hM (by omega) 2 (by decide) rfl) gX9_paneAt_X9_of rfl o9 rfl (by decide +kernel) rfl (by decide) (by decide) (Nat.le_of_ble_eq_true rfl) ⟨by omega, by omega⟩ rfl ?_
                      refine V_icmp_le C 105 dX9_paneAt_97 (by decide) (by omega) (by omega) (fun z97 => ?_) (fun z97 => ?_)
                      · refine V_iload_n C dX9_paneAt_105 rfl ?_
                        refine V_istore_n C dX9_paneAt_106 rfl (by decide) ?_
                        exact tree _ (by (repeat' split) <;> first | rfl | omega)
                      · refine V_iload C dX9_paneAt_100 rfl ?_
                        refine V_goto C 106 dX9_paneAt_102 (by decide) ?_
                        refine V_istore_n C dX9_paneAt_106 rfl (by decide) ?_
                        exact tree _ (by (repeat' split) <;> first | rfl | omega)
          refine V_iconst C dX9_paneAt_42 ?_
          refine V_istore_n C dX9_paneAt_43 rfl (by decide) ?_
          refine V_iconst C dX9_paneAt_44 ?_
          refine V_istore C dX9_paneAt_45 rfl (by decide) ?_
          refine V_iconst C dX9_paneAt_47 ?_
          refine V_istore C dX9_paneAt_48 rfl (by decide) ?_
          exact loop 32 0 (by omega)
        · exact absurd z1 (by decide)
      · rw [inI_0 hc]
        refine V_if_ne C 38 dX9_paneAt_29 (by decide) (by omega) (fun z1 => ?_) (fun z1 => ?_)
        · exact absurd rfl z1
        · exact bad (fun q => hc q.2)
  · rw [inI_0 hb]
    refine V_if_eq C 32 dX9_paneAt_13 (by decide) (by omega) (fun z0 => ?_) (fun z0 => ?_)
    · exact bad (fun q => hb q.1)
    · exact absurd rfl z0
set_option maxRecDepth 20000 in
theorem ggX9_tab_X9_isPane : GoodIn wsX9_tab wsX9_isPane := goodIn_r _ [5, 6, 7, 8, 4, 9, 35, 36, 37, 38, 39, 40, 41, 42, 43, 44, 45, 46, 47, 48, 49, 50, 51, 52, 53, 54, 55, 56, 57, 58] (by decide +kernel) (by decide +kernel)
set_option maxRecDepth 20000 in
theorem gX9_tab_X9_isPane : GoodIn wsX9_tab (wsV RX9 156 RX9 yX9_isPane wsX9_isPane) := goodIn_app (goodIn_of _ (by decide +kernel)) ggX9_tab_X9_isPane
set_option maxRecDepth 20000 in
theorem ggX9_tab_X9_fails : GoodIn wsX9_tab wsX9_fails := goodIn_r _ [13, 14, 35, 36, 37, 38, 39, 40, 41, 42, 43, 44, 45, 46, 47, 48, 49, 50, 51, 52, 53, 54, 55, 56, 57, 58] (by decide +kernel) (by decide +kernel)
set_option maxRecDepth 20000 in
theorem gX9_tab_X9_fails : GoodIn wsX9_tab (wsV RX9 147 RX9 yX9_fails wsX9_fails) := goodIn_app (goodIn_of _ (by decide +kernel)) ggX9_tab_X9_fails
set_option maxRecDepth 20000 in
theorem ggX9_tab_X9_tabTold : GoodIn wsX9_tab wsX9_tabTold := goodIn_r _ [18, 19, 20, 21, 4, 22, 6, 23, 24, 25, 26, 27, 28, 29, 30, 35, 36, 37, 38, 39, 40, 41, 42, 43, 44, 45, 46, 47, 48, 49, 50, 51, 52, 53, 54, 55, 56, 57, 58] (by decide +kernel) (by decide +kernel)
set_option maxRecDepth 20000 in
theorem gX9_tab_X9_tabTold : GoodIn wsX9_tab (wsV RX9 256 RX9 yX9_tabTold wsX9_tabTold) := goodIn_app (goodIn_of _ (by decide +kernel)) ggX9_tab_X9_tabTold
set_option maxRecDepth 20000 in
theorem ggX9_tab_X9_tells : GoodIn wsX9_tab wsX9_tells := goodIn_r _ [34, 14, 35, 36, 37, 38, 39, 40, 41, 42, 43, 44, 45, 46, 47, 48, 49, 50, 51, 52, 53, 54, 55, 56, 57, 58] (by decide +kernel) (by decide +kernel)
set_option maxRecDepth 20000 in
theorem gX9_tab_X9_tells : GoodIn wsX9_tab (wsV RX9 69 RX9 yX9_tells wsX9_tells) := goodIn_app (goodIn_of _ (by decide +kernel)) ggX9_tab_X9_tells
theorem dX9_tab_0 : decode cX9_tab 0 = .ok (.aload_n 0, 1) := by decide +kernel
theorem dX9_tab_1 : decode cX9_tab 1 = .ok (.iload_n 1, 1) := by decide +kernel
theorem dX9_tab_2 : decode cX9_tab 2 = .ok (.invokevirtual 156, 3) := by decide +kernel
theorem dX9_tab_5 : decode cX9_tab 5 = .ok (.ifCond .ne 9, 3) := by decide +kernel
theorem dX9_tab_8 : decode cX9_tab 8 = .ok (.aload_n 0, 1) := by decide +kernel
theorem dX9_tab_9 : decode cX9_tab 9 = .ok (.iconst 1, 1) := by decide +kernel
theorem dX9_tab_10 : decode cX9_tab 10 = .ok (.invokevirtual 147, 3) := by decide +kernel
theorem dX9_tab_13 : decode cX9_tab 13 = .ok (.ireturn, 1) := by decide +kernel
theorem dX9_tab_14 : decode cX9_tab 14 = .ok (.iload_n 2, 1) := by decide +kernel
theorem dX9_tab_15 : decode cX9_tab 15 = .ok (.ifCond .ge 11, 3) := by decide +kernel
theorem dX9_tab_18 : decode cX9_tab 18 = .ok (.aload_n 0, 1) := by decide +kernel
theorem dX9_tab_19 : decode cX9_tab 19 = .ok (.iconst 2, 1) := by decide +kernel
theorem dX9_tab_20 : decode cX9_tab 20 = .ok (.invokevirtual 147, 3) := by decide +kernel
theorem dX9_tab_23 : decode cX9_tab 23 = .ok (.goto 13, 3) := by decide +kernel
theorem dX9_tab_26 : decode cX9_tab 26 = .ok (.aload_n 0, 1) := by decide +kernel
theorem dX9_tab_27 : decode cX9_tab 27 = .ok (.aload_n 0, 1) := by decide +kernel
theorem dX9_tab_28 : decode cX9_tab 28 = .ok (.iload_n 1, 1) := by decide +kernel
theorem dX9_tab_29 : decode cX9_tab 29 = .ok (.iload_n 2, 1) := by decide +kernel
theorem dX9_tab_30 : decode cX9_tab 30 = .ok (.invokevirtual 256, 3) := by decide +kernel
theorem dX9_tab_33 : decode cX9_tab 33 = .ok (.invokevirtual 69, 3) := by decide +kernel
theorem dX9_tab_36 : decode cX9_tab 36 = .ok (.ireturn, 1) := by decide +kernel
def tbF9 (P p i : Int) : Int := if ¬ (0 ≤ p ∧ p ≤ P - 1) then 1 else if i < 0 then 2 else 0
theorem p_tab (hG : GP G) (hM : MoS S r) (hW : MWo mu r) {x i : Int} (hx : -2147483648 ≤ x ∧ x ≤ 2147483647) (hi : -2147483648 ≤ i ∧ i ≤ 2147483647) : Ct G l yX9_tab wsX9_tab 3 0 0 [.ref r, .int (I32 x), .int (I32 i)] S n mu la (Dt (some (.int (I32 (if tbF9 (mu (r + 1) 2) x i = 0 then ttF (trT mu r) (mu (r + 1) 2) x i else 0)))) S n (up mu r 7 (tbF9 (mu (r + 1) 2) x i)) la) := by
  have o9 := hM.1
  have hP := hW.2.2.1
  have hB := hW.2.1
  refine Ct.ofV (cc := cX9_tab) (nL := 3) (ret := (some .int)) [some (.ref r), some (.int (I32 x)), some (.int (I32 i))] hG (by decide) rfl (Nat.le_of_ble_eq_true rfl) rfl ?_
  rintro X rfl rfl C hcl hsl E
  refine V_aload_n C dX9_tab_0 rfl ?_
  refine V_iload_n C dX9_tab_1 rfl ?_
  refine V_callVD (nA := 1) C dX9_tab_2 (m_isPane C.gp hM hP hx) gX9_tab_X9_isPane rfl o9 rfl (by decide +kernel) rfl (by decide) (by decide) (Nat.le_of_ble_eq_true rfl) ⟨by omega, by omega⟩ rfl ?_
  by_cases hb : 0 ≤ x ∧ x ≤ mu (r + 1) 2 - 1
  · rw [inI_1 hb]
    refine V_if_ne C 14 dX9_tab_5 (by decide) (by omega) (fun z0 => ?_) (fun z0 => ?_)
    · refine V_iload_n C dX9_tab_14 rfl ?_
      refine V_if_ge C 26 dX9_tab_15 (by decide) (by omega) (fun z1 => ?_) (fun z1 => ?_)
      · have e0 : tbF9 (mu (r + 1) 2) x i = 0 := by unfold tbF9; (repeat' split) <;> omega
        rw [e0, if_pos rfl] at E
        have h9 := m_tabTold (l := xL X) (n := n) (la := la) (mu := mu) (T := trT mu r) C.gp hM hB (by decide) hP (x := x) (by omega) hi
        rw [pt_self] at h9
        refine V_aload_n C dX9_tab_26 rfl ?_
        refine V_aload_n C dX9_tab_27 rfl ?_
        refine V_iload_n C dX9_tab_28 rfl ?_
        refine V_iload_n C dX9_tab_29 rfl ?_
        refine V_callVD (nA := 2) C dX9_tab_30 h9 gX9_tab_X9_tabTold rfl o9 rfl (by decide +kernel) rfl (by decide) (by decide) (Nat.le_of_ble_eq_true rfl) ⟨by omega, by omega⟩ rfl ?_
        refine V_callVD (nA := 1) C dX9_tab_33 (m_tells C.gp hM) gX9_tab_X9_tells rfl o9 rfl (by decide +kernel) rfl (by decide) (by decide) (Nat.le_of_ble_eq_true rfl) ⟨by omega, by omega⟩ rfl ?_
        refine V_ireturn C E dX9_tab_36 (by omega) (by omega) ?_
        exact Dt_rfl
      · have e0 : tbF9 (mu (r + 1) 2) x i = 2 := by unfold tbF9; (repeat' split) <;> omega
        rw [e0, if_neg (by decide)] at E
        refine V_aload_n C dX9_tab_18 rfl ?_
        refine V_iconst C dX9_tab_19 ?_
        refine V_callVD (nA := 1) C dX9_tab_20 (m_fails C.gp hM) gX9_tab_X9_fails rfl o9 rfl (by decide +kernel) rfl (by decide) (by decide) (Nat.le_of_ble_eq_true rfl) ⟨by omega, by omega⟩ rfl ?_
        refine V_goto C 36 dX9_tab_23 (by decide) ?_
        refine V_ireturn C E dX9_tab_36 (by omega) (by omega) ?_
        exact Dt_rfl
    · exact absurd z0 (by decide)
  · rw [inI_0 hb]
    have e0 : tbF9 (mu (r + 1) 2) x i = 1 := by unfold tbF9; (repeat' split) <;> omega
    rw [e0, if_neg (by decide)] at E
    refine V_if_ne C 14 dX9_tab_5 (by decide) (by omega) (fun z0 => ?_) (fun z0 => ?_)
    · exact absurd rfl z0
    · refine V_aload_n C dX9_tab_8 rfl ?_
      refine V_iconst C dX9_tab_9 ?_
      refine V_callVD (nA := 1) C dX9_tab_10 (m_fails C.gp hM) gX9_tab_X9_fails rfl o9 rfl (by decide +kernel) rfl (by decide) (by decide) (Nat.le_of_ble_eq_true rfl) ⟨by omega, by omega⟩ rfl ?_
      refine V_ireturn C E dX9_tab_13 (by omega) (by omega) ?_
      exact Dt_rfl
set_option maxRecDepth 20000 in
theorem ggX9_group_X9_fails : GoodIn wsX9_group wsX9_fails := goodIn_r _ [5, 6, 43, 44, 45, 46, 47, 48, 49, 50, 51, 52, 53, 54, 55, 56, 57, 58, 59, 60, 61, 62, 63, 64, 65, 66] (by decide +kernel) (by decide +kernel)
set_option maxRecDepth 20000 in
theorem gX9_group_X9_fails : GoodIn wsX9_group (wsV RX9 147 RX9 yX9_fails wsX9_fails) := goodIn_app (goodIn_of _ (by decide +kernel)) ggX9_group_X9_fails
set_option maxRecDepth 20000 in
theorem ggX9_group_X9_groupTold : GoodIn wsX9_group wsX9_groupTold := goodIn_r _ [10, 11, 12, 13, 4, 14, 15, 16, 17, 18, 19, 20, 21, 22, 23, 24, 25, 26, 27, 28, 29, 30, 31, 32, 33, 34, 35, 36, 37, 38, 43, 44, 45, 46, 47, 48, 49, 50, 51, 52, 53, 54, 55, 56, 57, 58, 59, 60, 61, 62, 63, 64, 65, 66] (by decide +kernel) (by decide +kernel)
set_option maxRecDepth 20000 in
theorem gX9_group_X9_groupTold : GoodIn wsX9_group (wsV RX9 265 RX9 yX9_groupTold wsX9_groupTold) := goodIn_app (goodIn_of _ (by decide +kernel)) ggX9_group_X9_groupTold
set_option maxRecDepth 20000 in
theorem ggX9_group_X9_tells : GoodIn wsX9_group wsX9_tells := goodIn_r _ [42, 6, 43, 44, 45, 46, 47, 48, 49, 50, 51, 52, 53, 54, 55, 56, 57, 58, 59, 60, 61, 62, 63, 64, 65, 66] (by decide +kernel) (by decide +kernel)
set_option maxRecDepth 20000 in
theorem gX9_group_X9_tells : GoodIn wsX9_group (wsV RX9 69 RX9 yX9_tells wsX9_tells) := goodIn_app (goodIn_of _ (by decide +kernel)) ggX9_group_X9_tells
theorem dX9_group_0 : decode cX9_group 0 = .ok (.iload_n 1, 1) := by decide +kernel
theorem dX9_group_1 : decode cX9_group 1 = .ok (.ifCond .ge 11, 3) := by decide +kernel
theorem dX9_group_4 : decode cX9_group 4 = .ok (.aload_n 0, 1) := by decide +kernel
theorem dX9_group_5 : decode cX9_group 5 = .ok (.iconst 1, 1) := by decide +kernel
theorem dX9_group_6 : decode cX9_group 6 = .ok (.invokevirtual 147, 3) := by decide +kernel
theorem dX9_group_9 : decode cX9_group 9 = .ok (.goto 12, 3) := by decide +kernel
theorem dX9_group_12 : decode cX9_group 12 = .ok (.aload_n 0, 1) := by decide +kernel
theorem dX9_group_13 : decode cX9_group 13 = .ok (.aload_n 0, 1) := by decide +kernel
theorem dX9_group_14 : decode cX9_group 14 = .ok (.iload_n 1, 1) := by decide +kernel
theorem dX9_group_15 : decode cX9_group 15 = .ok (.invokevirtual 265, 3) := by decide +kernel
theorem dX9_group_18 : decode cX9_group 18 = .ok (.invokevirtual 69, 3) := by decide +kernel
theorem dX9_group_21 : decode cX9_group 21 = .ok (.ireturn, 1) := by decide +kernel
def ixF9 (i : Int) : Int := if i < 0 then 1 else 0
theorem p_group (hG : GP G) (hM : MoS S r) (hW : MWo mu r) {i : Int} (hi : -2147483648 ≤ i ∧ i ≤ 2147483647) (hf : okG (trT mu r)) : Ct G l yX9_group wsX9_group 5 0 0 [.ref r, .int (I32 i)] S n mu la (Dt (some (.int (I32 (if ixF9 i = 0 then gvT (trT mu r) i else 0)))) S n (up mu r 7 (ixF9 i)) la) := by
  have o9 := hM.1
  have hB := hW.2.1
  refine Ct.ofV (cc := cX9_group) (nL := 2) (ret := (some .int)) [some (.ref r), some (.int (I32 i))] hG (by decide) rfl (Nat.le_of_ble_eq_true rfl) rfl ?_
  rintro X rfl rfl C hcl hsl E
  refine V_iload_n C dX9_group_0 rfl ?_
  refine V_if_ge C 12 dX9_group_1 (by decide) (by omega) (fun z1 => ?_) (fun z1 => ?_)
  · have e0 : ixF9 i = 0 := by unfold ixF9; (repeat' split) <;> omega
    rw [e0, if_pos rfl] at E
    have h9 := m_groupTold (l := xL X) (n := n) (la := la) (mu := mu) (T := trT mu r) C.gp hM hB (by decide) (i := i) (by omega) hf
    rw [pt_self] at h9
    refine V_aload_n C dX9_group_12 rfl ?_
    refine V_aload_n C dX9_group_13 rfl ?_
    refine V_iload_n C dX9_group_14 rfl ?_
    refine V_callVD (nA := 1) C dX9_group_15 h9 gX9_group_X9_groupTold rfl o9 rfl (by decide +kernel) rfl (by decide) (by decide) (Nat.le_of_ble_eq_true rfl) ⟨by omega, by omega⟩ rfl ?_
    refine V_callVD (nA := 1) C dX9_group_18 (m_tells C.gp hM) gX9_group_X9_tells rfl o9 rfl (by decide +kernel) rfl (by decide) (by decide) (Nat.le_of_ble_eq_true rfl) ⟨by omega, by omega⟩ rfl ?_
    refine V_ireturn C E dX9_group_21 (by omega) (by omega) ?_
    exact Dt_rfl
  · have e0 : ixF9 i = 1 := by unfold ixF9; (repeat' split) <;> omega
    rw [e0, if_neg (by decide)] at E
    refine V_aload_n C dX9_group_4 rfl ?_
    refine V_iconst C dX9_group_5 ?_
    refine V_callVD (nA := 1) C dX9_group_6 (m_fails C.gp hM) gX9_group_X9_fails rfl o9 rfl (by decide +kernel) rfl (by decide) (by decide) (Nat.le_of_ble_eq_true rfl) ⟨by omega, by omega⟩ rfl ?_
    refine V_goto C 21 dX9_group_9 (by decide) ?_
    refine V_ireturn C E dX9_group_21 (by omega) (by omega) ?_
    exact Dt_rfl
set_option maxRecDepth 20000 in
theorem ggX9_floating_X9_fails : GoodIn wsX9_floating wsX9_fails := goodIn_r _ [5, 6, 20, 21, 22, 23, 24, 25, 26, 27, 28, 29, 30, 31, 32, 33, 34, 35, 36, 37, 38, 39, 40, 41, 42, 43] (by decide +kernel) (by decide +kernel)
set_option maxRecDepth 20000 in
theorem gX9_floating_X9_fails : GoodIn wsX9_floating (wsV RX9 147 RX9 yX9_fails wsX9_fails) := goodIn_app (goodIn_of _ (by decide +kernel)) ggX9_floating_X9_fails
set_option maxRecDepth 20000 in
theorem ggX9_floating_X9_floatTold : GoodIn wsX9_floating wsX9_floatTold := goodIn_r _ [10, 11, 12, 13, 4, 14, 15, 20, 21, 22, 23, 24, 25, 26, 27, 28, 29, 30, 31, 32, 33, 34, 35, 36, 37, 38, 39, 40, 41, 42, 43] (by decide +kernel) (by decide +kernel)
set_option maxRecDepth 20000 in
theorem gX9_floating_X9_floatTold : GoodIn wsX9_floating (wsV RX9 268 RX9 yX9_floatTold wsX9_floatTold) := goodIn_app (goodIn_of _ (by decide +kernel)) ggX9_floating_X9_floatTold
set_option maxRecDepth 20000 in
theorem ggX9_floating_X9_tells : GoodIn wsX9_floating wsX9_tells := goodIn_r _ [19, 6, 20, 21, 22, 23, 24, 25, 26, 27, 28, 29, 30, 31, 32, 33, 34, 35, 36, 37, 38, 39, 40, 41, 42, 43] (by decide +kernel) (by decide +kernel)
set_option maxRecDepth 20000 in
theorem gX9_floating_X9_tells : GoodIn wsX9_floating (wsV RX9 69 RX9 yX9_tells wsX9_tells) := goodIn_app (goodIn_of _ (by decide +kernel)) ggX9_floating_X9_tells
theorem dX9_floating_0 : decode cX9_floating 0 = .ok (.iload_n 1, 1) := by decide +kernel
theorem dX9_floating_1 : decode cX9_floating 1 = .ok (.ifCond .ge 11, 3) := by decide +kernel
theorem dX9_floating_4 : decode cX9_floating 4 = .ok (.aload_n 0, 1) := by decide +kernel
theorem dX9_floating_5 : decode cX9_floating 5 = .ok (.iconst 1, 1) := by decide +kernel
theorem dX9_floating_6 : decode cX9_floating 6 = .ok (.invokevirtual 147, 3) := by decide +kernel
theorem dX9_floating_9 : decode cX9_floating 9 = .ok (.goto 12, 3) := by decide +kernel
theorem dX9_floating_12 : decode cX9_floating 12 = .ok (.aload_n 0, 1) := by decide +kernel
theorem dX9_floating_13 : decode cX9_floating 13 = .ok (.aload_n 0, 1) := by decide +kernel
theorem dX9_floating_14 : decode cX9_floating 14 = .ok (.iload_n 1, 1) := by decide +kernel
theorem dX9_floating_15 : decode cX9_floating 15 = .ok (.invokevirtual 268, 3) := by decide +kernel
theorem dX9_floating_18 : decode cX9_floating 18 = .ok (.invokevirtual 69, 3) := by decide +kernel
theorem dX9_floating_21 : decode cX9_floating 21 = .ok (.ireturn, 1) := by decide +kernel
theorem p_floating (hG : GP G) (hM : MoS S r) (hW : MWo mu r) {i : Int} (hi : -2147483648 ≤ i ∧ i ≤ 2147483647) : Ct G l yX9_floating wsX9_floating 5 0 0 [.ref r, .int (I32 i)] S n mu la (Dt (some (.int (I32 (if ixF9 i = 0 then fvG (trT mu r) i 32 else 0)))) S n (up mu r 7 (ixF9 i)) la) := by
  have o9 := hM.1
  have hB := hW.2.1
  refine Ct.ofV (cc := cX9_floating) (nL := 2) (ret := (some .int)) [some (.ref r), some (.int (I32 i))] hG (by decide) rfl (Nat.le_of_ble_eq_true rfl) rfl ?_
  rintro X rfl rfl C hcl hsl E
  refine V_iload_n C dX9_floating_0 rfl ?_
  refine V_if_ge C 12 dX9_floating_1 (by decide) (by omega) (fun z1 => ?_) (fun z1 => ?_)
  · have e0 : ixF9 i = 0 := by unfold ixF9; (repeat' split) <;> omega
    rw [e0, if_pos rfl] at E
    have h9 := m_floatTold (l := xL X) (n := n) (la := la) (mu := mu) (T := trT mu r) C.gp hM hB (by decide) (i := i) hi
    rw [pt_self] at h9
    refine V_aload_n C dX9_floating_12 rfl ?_
    refine V_aload_n C dX9_floating_13 rfl ?_
    refine V_iload_n C dX9_floating_14 rfl ?_
    refine V_callVD (nA := 1) C dX9_floating_15 h9 gX9_floating_X9_floatTold rfl o9 rfl (by decide +kernel) rfl (by decide) (by decide) (Nat.le_of_ble_eq_true rfl) ⟨by omega, by omega⟩ rfl ?_
    refine V_callVD (nA := 1) C dX9_floating_18 (m_tells C.gp hM) gX9_floating_X9_tells rfl o9 rfl (by decide +kernel) rfl (by decide) (by decide) (Nat.le_of_ble_eq_true rfl) ⟨by omega, by omega⟩ rfl ?_
    refine V_ireturn C E dX9_floating_21 (by omega) (by omega) ?_
    exact Dt_rfl
  · have e0 : ixF9 i = 1 := by unfold ixF9; (repeat' split) <;> omega
    rw [e0, if_neg (by decide)] at E
    refine V_aload_n C dX9_floating_4 rfl ?_
    refine V_iconst C dX9_floating_5 ?_
    refine V_callVD (nA := 1) C dX9_floating_6 (m_fails C.gp hM) gX9_floating_X9_fails rfl o9 rfl (by decide +kernel) rfl (by decide) (by decide) (Nat.le_of_ble_eq_true rfl) ⟨by omega, by omega⟩ rfl ?_
    refine V_goto C 21 dX9_floating_9 (by decide) ?_
    refine V_ireturn C E dX9_floating_21 (by omega) (by omega) ?_
    exact Dt_rfl
set_option maxRecDepth 20000 in
theorem ggX9_whole_X9_in : GoodIn wsX9_whole wsX9_in := goodIn_r _ [4] (by decide +kernel) (by decide +kernel)
set_option maxRecDepth 20000 in
theorem gX9_whole_X9_in : GoodIn wsX9_whole (va_wsS RX9 73 yX9_in wsX9_in) := goodIn_app (goodIn_of _ (by decide +kernel)) ggX9_whole_X9_in
set_option maxRecDepth 20000 in
theorem ggX9_whole_X9_fails : GoodIn wsX9_whole wsX9_fails := goodIn_r _ [8, 9, 110, 111, 112, 113, 114, 115, 116, 117, 118, 119, 120, 121, 122, 123, 124, 125, 126, 127, 128, 129, 130, 131, 132, 133] (by decide +kernel) (by decide +kernel)
set_option maxRecDepth 20000 in
theorem gX9_whole_X9_fails : GoodIn wsX9_whole (wsV RX9 147 RX9 yX9_fails wsX9_fails) := goodIn_app (goodIn_of _ (by decide +kernel)) ggX9_whole_X9_fails
set_option maxRecDepth 20000 in
theorem ggX9_whole_X9_laysAll : GoodIn wsX9_whole wsX9_laysAll := goodIn_r _ [13, 14, 15, 16, 17, 3, 18, 19, 20, 21, 22, 23, 24, 25, 26, 27, 28, 29, 30, 31, 32, 33, 34, 35, 36, 37, 38, 1, 2, 4, 39, 40, 41, 42, 43, 44, 45, 46, 47, 48, 49, 50, 51, 52, 53, 54, 55, 56, 57, 58, 59, 60, 61, 62, 63, 64, 65, 66, 67, 68, 69, 70, 71, 72, 73, 74, 75, 76, 77, 78, 79, 80, 81, 110, 111, 112, 113, 114, 115, 116, 117, 118, 119, 120, 121, 122, 123, 124, 125, 126, 127, 128, 129, 130, 131, 132, 133] (by decide +kernel) (by decide +kernel)
set_option maxRecDepth 20000 in
theorem gX9_whole_X9_laysAll : GoodIn wsX9_whole (wsV RX9 219 RX9 yX9_laysAll wsX9_laysAll) := goodIn_app (goodIn_of _ (by decide +kernel)) ggX9_whole_X9_laysAll
set_option maxRecDepth 20000 in
theorem ggX9_whole_X9_wholeTold : GoodIn wsX9_whole wsX9_wholeTold := goodIn_r _ [85, 14, 19, 55, 20, 56, 86, 87, 88, 3, 89, 90, 91, 92, 93, 61, 62, 63, 64, 35, 36, 37, 38, 94, 95, 96, 97, 98, 99, 100, 101, 25, 102, 103, 104, 105, 24, 23, 39, 40, 41, 42, 43, 44, 45, 46, 1, 2, 4, 110, 111, 112, 113, 114, 115, 116, 117, 118, 119, 120, 121, 122, 123, 124, 125, 126, 127, 128, 129, 130, 131, 132, 133] (by decide +kernel) (by decide +kernel)
set_option maxRecDepth 20000 in
theorem gX9_whole_X9_wholeTold : GoodIn wsX9_whole (wsV RX9 280 RX9 yX9_wholeTold wsX9_wholeTold) := goodIn_app (goodIn_of _ (by decide +kernel)) ggX9_whole_X9_wholeTold
set_option maxRecDepth 20000 in
theorem ggX9_whole_X9_tells : GoodIn wsX9_whole wsX9_tells := goodIn_r _ [109, 9, 110, 111, 112, 113, 114, 115, 116, 117, 118, 119, 120, 121, 122, 123, 124, 125, 126, 127, 128, 129, 130, 131, 132, 133] (by decide +kernel) (by decide +kernel)
set_option maxRecDepth 20000 in
theorem gX9_whole_X9_tells : GoodIn wsX9_whole (wsV RX9 69 RX9 yX9_tells wsX9_tells) := goodIn_app (goodIn_of _ (by decide +kernel)) ggX9_whole_X9_tells
theorem dX9_whole_0 : decode cX9_whole 0 = .ok (.iload_n 1, 1) := by decide +kernel
theorem dX9_whole_1 : decode cX9_whole 1 = .ok (.iconst 0, 1) := by decide +kernel
theorem dX9_whole_2 : decode cX9_whole 2 = .ok (.bipush 11, 2) := by decide +kernel
theorem dX9_whole_4 : decode cX9_whole 4 = .ok (.invokestatic 73, 3) := by decide +kernel
theorem dX9_whole_7 : decode cX9_whole 7 = .ok (.ifCond .ne 9, 3) := by decide +kernel
theorem dX9_whole_10 : decode cX9_whole 10 = .ok (.aload_n 0, 1) := by decide +kernel
theorem dX9_whole_11 : decode cX9_whole 11 = .ok (.iconst 1, 1) := by decide +kernel
theorem dX9_whole_12 : decode cX9_whole 12 = .ok (.invokevirtual 147, 3) := by decide +kernel
theorem dX9_whole_15 : decode cX9_whole 15 = .ok (.ireturn, 1) := by decide +kernel
theorem dX9_whole_16 : decode cX9_whole 16 = .ok (.aload_n 0, 1) := by decide +kernel
theorem dX9_whole_17 : decode cX9_whole 17 = .ok (.invokevirtual 219, 3) := by decide +kernel
theorem dX9_whole_20 : decode cX9_whole 20 = .ok (.aload_n 0, 1) := by decide +kernel
theorem dX9_whole_21 : decode cX9_whole 21 = .ok (.aload_n 0, 1) := by decide +kernel
theorem dX9_whole_22 : decode cX9_whole 22 = .ok (.iload_n 1, 1) := by decide +kernel
theorem dX9_whole_23 : decode cX9_whole 23 = .ok (.invokevirtual 280, 3) := by decide +kernel
theorem dX9_whole_26 : decode cX9_whole 26 = .ok (.invokevirtual 69, 3) := by decide +kernel
theorem dX9_whole_29 : decode cX9_whole 29 = .ok (.ireturn, 1) := by decide +kernel
def whF9 (w : Int) : Int := if 0 ≤ w ∧ w ≤ 11 then 0 else 1
theorem p_whole (hG : GP G) (hM : MoS S r) (hW : MWo mu r) {w : Int} (hw : -2147483648 ≤ w ∧ w ≤ 2147483647) (hy : LyOk mu r (trT mu r) (zOf mu r) (mu (r + 1) 0) (mu (r + 1) 1)) : Ct G l yX9_whole wsX9_whole 7 0 0 [.ref r, .int (I32 w)] S n mu la (Dt (some (.int (I32 (if whF9 w = 0 then wvF mu r (trT mu r) (qW mu r) (zW mu r) w else 0)))) S n (if whF9 w = 0 then up (lyW mu r) r 7 0 else up mu r 7 1) la) := by
  have o9 := hM.1
  have hP := hW.2.2.1
  have hB := hW.2.1
  refine Ct.ofV (cc := cX9_whole) (nL := 2) (ret := (some .int)) [some (.ref r), some (.int (I32 w))] hG (by decide) rfl (Nat.le_of_ble_eq_true rfl) rfl ?_
  rintro X rfl rfl C hcl hsl E
  refine V_iload_n C dX9_whole_0 rfl ?_
  refine V_iconst C dX9_whole_1 ?_
  refine V_bipush C dX9_whole_2 (by decide +kernel) ?_
  refine V_callSD (nA := 3) C dX9_whole_4 (m_in C.gp hw (by omega) (by omega)) gX9_whole_X9_in rfl (by decide +kernel) rfl (by decide) (by decide) (Nat.le_of_ble_eq_true rfl) ⟨by omega, by omega⟩ rfl ?_
  by_cases hc : 0 ≤ w ∧ w ≤ 11
  · rw [inI_1 hc]
    have e0 : whF9 w = 0 := by unfold whF9; rw [if_pos hc]
    rw [e0, if_pos rfl, if_pos rfl] at E
    refine V_if_ne C 16 dX9_whole_7 (by decide) (by omega) (fun z1 => ?_) (fun z1 => ?_)
    · refine V_aload_n C dX9_whole_16 rfl ?_
      refine V_callVD (nA := 0) C dX9_whole_17 (a_laysAll C.gp hM hW hy) gX9_whole_X9_laysAll rfl o9 rfl (by decide +kernel) rfl (by decide) (by decide) (Nat.le_of_ble_eq_true rfl) ⟨by omega, by omega⟩ rfl ?_
      refine V_aload_n C dX9_whole_20 rfl ?_
      refine V_aload_n C dX9_whole_21 rfl ?_
      refine V_iload_n C dX9_whole_22 rfl ?_
      refine V_callVD (nA := 1) C dX9_whole_23 (m_wholeTold C.gp hM hB (by decide) hP hy.2.1 (zW_6 hy) hc) gX9_whole_X9_wholeTold rfl o9 rfl (by decide +kernel) rfl (by decide) (by decide) (Nat.le_of_ble_eq_true rfl) ⟨by omega, by omega⟩ rfl ?_
      refine V_callVD (nA := 1) C dX9_whole_26 (m_tells C.gp hM) gX9_whole_X9_tells rfl o9 rfl (by decide +kernel) rfl (by decide) (by decide) (Nat.le_of_ble_eq_true rfl) ⟨by omega, by omega⟩ rfl ?_
      refine V_ireturn C E dX9_whole_29 (by omega) (by omega) ?_
      exact Dt_rfl
    · exact absurd z1 (by decide)
  · rw [inI_0 hc]
    have e0 : whF9 w = 1 := by unfold whF9; rw [if_neg hc]
    rw [e0, if_neg (by decide), if_neg (by decide)] at E
    refine V_if_ne C 16 dX9_whole_7 (by decide) (by omega) (fun z1 => ?_) (fun z1 => ?_)
    · exact absurd rfl z1
    · refine V_aload_n C dX9_whole_10 rfl ?_
      refine V_iconst C dX9_whole_11 ?_
      refine V_callVD (nA := 1) C dX9_whole_12 (m_fails C.gp hM) gX9_whole_X9_fails rfl o9 rfl (by decide +kernel) rfl (by decide) (by decide) (Nat.le_of_ble_eq_true rfl) ⟨by omega, by omega⟩ rfl ?_
      refine V_ireturn C E dX9_whole_15 (by omega) (by omega) ?_
      exact Dt_rfl
set_option maxRecDepth 20000 in
theorem ggX9_tightIn_X9_isWindow : GoodIn wsX9_tightIn wsX9_isWindow := goodIn_r _ [4, 5, 6, 3, 7] (by decide +kernel) (by decide +kernel)
set_option maxRecDepth 20000 in
theorem gX9_tightIn_X9_isWindow : GoodIn wsX9_tightIn (va_wsS RX9 190 yX9_isWindow wsX9_isWindow) := goodIn_app (goodIn_of _ (by decide +kernel)) ggX9_tightIn_X9_isWindow
set_option maxRecDepth 20000 in
theorem ggX9_tightIn_X9_fails : GoodIn wsX9_tightIn wsX9_fails := goodIn_r _ [11, 12, 89, 90, 91, 92, 93, 94, 95, 96, 97, 98, 99, 100, 101, 102, 103, 104, 105, 106, 107, 108, 109, 110, 111, 112] (by decide +kernel) (by decide +kernel)
set_option maxRecDepth 20000 in
theorem gX9_tightIn_X9_fails : GoodIn wsX9_tightIn (wsV RX9 147 RX9 yX9_fails wsX9_fails) := goodIn_app (goodIn_of _ (by decide +kernel)) ggX9_tightIn_X9_fails
set_option maxRecDepth 20000 in
theorem ggX9_tightIn_X9_lays : GoodIn wsX9_tightIn wsX9_lays := goodIn_r _ [16, 17, 18, 19, 20, 21, 22, 23, 24, 25, 26, 27, 3, 28, 29, 30, 31, 32, 33, 34, 35, 36, 37, 5, 6, 7, 38, 39, 40, 41, 42, 43, 44, 45, 46, 47, 48, 49, 50, 51, 52, 53, 54, 55, 56, 57, 58, 59, 60, 61, 62, 63, 64, 65, 66, 67, 68, 69, 70, 71, 72, 73, 74, 75, 76, 77, 78, 79, 80, 89, 90, 91, 92, 93, 94, 95, 96, 97, 98, 99, 100, 101, 102, 103, 104, 105, 106, 107, 108, 109, 110, 111, 112] (by decide +kernel) (by decide +kernel)
set_option maxRecDepth 20000 in
theorem gX9_tightIn_X9_lays : GoodIn wsX9_tightIn (wsV RX9 132 RX9 yX9_lays wsX9_lays) := goodIn_app (goodIn_of _ (by decide +kernel)) ggX9_tightIn_X9_lays
set_option maxRecDepth 20000 in
theorem ggX9_tightIn_X9_tightMany : GoodIn wsX9_tightIn wsX9_tightMany := goodIn_r _ [84, 17, 23, 18, 89, 90, 91, 92, 93, 94, 95, 96, 97, 98, 99, 100, 101, 102, 103, 104, 105, 106, 107, 108, 109, 110, 111, 112] (by decide +kernel) (by decide +kernel)
set_option maxRecDepth 20000 in
theorem gX9_tightIn_X9_tightMany : GoodIn wsX9_tightIn (wsV RX9 274 RX9 yX9_tightMany wsX9_tightMany) := goodIn_app (goodIn_of _ (by decide +kernel)) ggX9_tightIn_X9_tightMany
set_option maxRecDepth 20000 in
theorem ggX9_tightIn_X9_tells : GoodIn wsX9_tightIn wsX9_tells := goodIn_r _ [88, 12, 89, 90, 91, 92, 93, 94, 95, 96, 97, 98, 99, 100, 101, 102, 103, 104, 105, 106, 107, 108, 109, 110, 111, 112] (by decide +kernel) (by decide +kernel)
set_option maxRecDepth 20000 in
theorem gX9_tightIn_X9_tells : GoodIn wsX9_tightIn (wsV RX9 69 RX9 yX9_tells wsX9_tells) := goodIn_app (goodIn_of _ (by decide +kernel)) ggX9_tightIn_X9_tells
theorem dX9_tightIn_0 : decode cX9_tightIn 0 = .ok (.iload_n 1, 1) := by decide +kernel
theorem dX9_tightIn_1 : decode cX9_tightIn 1 = .ok (.iload_n 2, 1) := by decide +kernel
theorem dX9_tightIn_2 : decode cX9_tightIn 2 = .ok (.invokestatic 190, 3) := by decide +kernel
theorem dX9_tightIn_5 : decode cX9_tightIn 5 = .ok (.ifCond .ne 9, 3) := by decide +kernel
theorem dX9_tightIn_8 : decode cX9_tightIn 8 = .ok (.aload_n 0, 1) := by decide +kernel
theorem dX9_tightIn_9 : decode cX9_tightIn 9 = .ok (.iconst 1, 1) := by decide +kernel
theorem dX9_tightIn_10 : decode cX9_tightIn 10 = .ok (.invokevirtual 147, 3) := by decide +kernel
theorem dX9_tightIn_13 : decode cX9_tightIn 13 = .ok (.ireturn, 1) := by decide +kernel
theorem dX9_tightIn_14 : decode cX9_tightIn 14 = .ok (.aload_n 0, 1) := by decide +kernel
theorem dX9_tightIn_15 : decode cX9_tightIn 15 = .ok (.iload_n 1, 1) := by decide +kernel
theorem dX9_tightIn_16 : decode cX9_tightIn 16 = .ok (.iload_n 2, 1) := by decide +kernel
theorem dX9_tightIn_17 : decode cX9_tightIn 17 = .ok (.invokevirtual 132, 3) := by decide +kernel
theorem dX9_tightIn_20 : decode cX9_tightIn 20 = .ok (.aload_n 0, 1) := by decide +kernel
theorem dX9_tightIn_21 : decode cX9_tightIn 21 = .ok (.aload_n 0, 1) := by decide +kernel
theorem dX9_tightIn_22 : decode cX9_tightIn 22 = .ok (.invokevirtual 274, 3) := by decide +kernel
theorem dX9_tightIn_25 : decode cX9_tightIn 25 = .ok (.invokevirtual 69, 3) := by decide +kernel
theorem dX9_tightIn_28 : decode cX9_tightIn 28 = .ok (.ireturn, 1) := by decide +kernel
theorem p_tightIn (hG : GP G) (hM : MoS S r) (hW : MWo mu r) {w h : Int} (hw : -2147483648 ≤ w ∧ w ≤ 2147483647) (hh : -2147483648 ≤ h ∧ h ≤ 2147483647) (hy : fwF w h = 0 → LyOk mu r (trT mu r) (zOf mu r) w h) : Ct G l yX9_tightIn wsX9_tightIn 6 0 0 [.ref r, .int (I32 w), .int (I32 h)] S n mu la (Dt (some (.int (I32 (if fwF w h = 0 then smG (fun k => laZ mu r (trT mu r) (zOf mu r) w h 13 (laZ mu r (trT mu r) (zOf mu r) w h 6 k)) (qW mu r).toNat else 0)))) S n (if fwF w h = 0 then up (lyA mu r w h) r 7 0 else up mu r 7 1) la) := by
  have o9 := hM.1
  refine Ct.ofV (cc := cX9_tightIn) (nL := 3) (ret := (some .int)) [some (.ref r), some (.int (I32 w)), some (.int (I32 h))] hG (by decide) rfl (Nat.le_of_ble_eq_true rfl) rfl ?_
  rintro X rfl rfl C hcl hsl E
  refine V_iload_n C dX9_tightIn_0 rfl ?_
  refine V_iload_n C dX9_tightIn_1 rfl ?_
  refine V_callSD (nA := 2) C dX9_tightIn_2 (m_isWindow C.gp hw hh) gX9_tightIn_X9_isWindow rfl (by decide +kernel) rfl (by decide) (by decide) (Nat.le_of_ble_eq_true rfl) ⟨by omega, by omega⟩ rfl ?_
  by_cases hc : fwF w h = 0
  · have hy := hy hc
    rw [if_pos hc]
    rw [if_pos hc, if_pos hc] at E
    refine V_if_ne C 14 dX9_tightIn_5 (by decide) (by omega) (fun z1 => ?_) (fun z1 => ?_)
    · refine V_aload_n C dX9_tightIn_14 rfl ?_
      refine V_iload_n C dX9_tightIn_15 rfl ?_
      refine V_iload_n C dX9_tightIn_16 rfl ?_
      refine V_callVD (nA := 2) C dX9_tightIn_17 (a_lays C.gp hM hW hw hh hy) gX9_tightIn_X9_lays rfl o9 rfl (by decide +kernel) rfl (by decide) (by decide) (Nat.le_of_ble_eq_true rfl) ⟨by omega, by omega⟩ rfl ?_
      refine V_aload_n C dX9_tightIn_20 rfl ?_
      refine V_aload_n C dX9_tightIn_21 rfl ?_
      refine V_callVD (nA := 0) C dX9_tightIn_22 (m_tightMany C.gp hM hy.2.1 (zW_6 hy)) gX9_tightIn_X9_tightMany rfl o9 rfl (by decide +kernel) rfl (by decide) (by decide) (Nat.le_of_ble_eq_true rfl) ⟨by omega, by omega⟩ rfl ?_
      refine V_callVD (nA := 1) C dX9_tightIn_25 (m_tells C.gp hM) gX9_tightIn_X9_tells rfl o9 rfl (by decide +kernel) rfl (by decide) (by decide) (Nat.le_of_ble_eq_true rfl) ⟨by omega, by omega⟩ rfl ?_
      refine V_ireturn C E dX9_tightIn_28 (by omega) (by omega) ?_
      exact Dt_rfl
    · exact absurd z1 (by decide)
  · rw [if_neg hc]
    rw [if_neg hc, if_neg hc] at E
    refine V_if_ne C 14 dX9_tightIn_5 (by decide) (by omega) (fun z1 => ?_) (fun z1 => ?_)
    · exact absurd rfl z1
    · refine V_aload_n C dX9_tightIn_8 rfl ?_
      refine V_iconst C dX9_tightIn_9 ?_
      refine V_callVD (nA := 1) C dX9_tightIn_10 (m_fails C.gp hM) gX9_tightIn_X9_fails rfl o9 rfl (by decide +kernel) rfl (by decide) (by decide) (Nat.le_of_ble_eq_true rfl) ⟨by omega, by omega⟩ rfl ?_
      refine V_ireturn C E dX9_tightIn_13 (by omega) (by omega) ?_
      exact Dt_rfl
end MC
