/-! DockTree: the calls that change something, each that returns and each that throws -/
section D0
variable {G : Gx} {l : Launch} {S : Sh} {n : Nat} {mu : Mem} {la : Lam} {b : Nat} {L : Mem} {N : Int}
-- X4_memberAt
theorem cW_memberAt (hG : GP G) (hL : LayS S b) (hB : Bd N L) (hN : 1 ≤ N ∧ N ≤ 1073741824) {h i : Int} (hh : -2147483648 ≤ h ∧ h ≤ 2147483647) (hi : -2147483648 ≤ i ∧ i ≤ 2147483647) : Ct G l yX4_memberAt wsX4_memberAt 1 0 0 [.ref b, .int (I32 h), .int (I32 i)] S n (putL mu b L) la (Dt (some (.int (I32 (mbrF L h i)))) S n (putL mu b L) la) := by
  have o4 := hL.1
  refine Ct.ofV (cc := cX4_memberAt) (nL := 4) (ret := (some .int)) [some (.ref b), some (.int (I32 h)), some (.int (I32 i)), none] hG (by decide) rfl (Nat.le_of_ble_eq_true rfl) rfl ?_
  rintro X rfl rfl C hcl hsl E
  have loop : ∀ (m : Nat) (j : Int), 0 ≤ j → j + m = 49 → mbrF L h i = mbrG L h i m → V X 2 [some (.ref b), some (.int (I32 h)), some (.int (I32 i)), some (.int (I32 j))] [] S n (putL mu b L) la 0 0 := by
    intro m
    induction m with
    | zero =>
      intro j h0 hj hr
      refine V_iload_n C dX4_memberAt_2 rfl ?_
      refine V_bipush C dX4_memberAt_3 (by decide +kernel) ?_
      refine V_icmp_ge C 40 dX4_memberAt_5 (by decide) (by omega) (by omega) (fun c => ?_) (fun c => ?_)
      · refine V_iconst C dX4_memberAt_40 ?_
        refine V_ireturn C E dX4_memberAt_41 (by omega) (by omega) ?_
        rw [hr]; exact Dt_rfl
      · exact absurd c (by omega)
    | succ m ih =>
      intro j h0 hj hr
      have e : j = 48 - m := by omega
      have e0 : aL L 0 j = L 0 j := aL_in (by show 0 ≤ j ∧ j < ((49 : Nat) : Int); omega)
      have e1 : aL L 1 j = L 1 j := aL_in (by show 0 ≤ j ∧ j < ((49 : Nat) : Int); omega)
      have b0 := hB 0 j
      have b1 := hB 1 j
      refine V_iload_n C dX4_memberAt_2 rfl ?_
      refine V_bipush C dX4_memberAt_3 (by decide +kernel) ?_
      refine V_icmp_ge C 40 dX4_memberAt_5 (by decide) (by omega) (by omega) (fun c => ?_) (fun c => ?_)
      · exact absurd c (by omega)
      · refine V_aload_n C dX4_memberAt_8 rfl ?_
        refine V_getR C 0 dX4_memberAt_9 o4 rfl hin_X4_memberAt_X4 (by decide) lk_X4_memberAt_9 rfl rfl ?_
        refine V_iload_n C dX4_memberAt_12 rfl ?_
        refine V_callSND (nA := 2) (host := "DockTree") C dX4_memberAt_13 (c_aL C.gp hL 0 _ (by decide) rfl (by omega)) gX4_memberAt_X8_at_n46 (by decide +kernel) (by decide +kernel) (by decide +kernel) rfl (by decide +kernel) rfl (by decide) (by decide) (Nat.le_of_ble_eq_true rfl) ⟨by omega, by omega⟩ rfl ?_
        rw [e0]
        refine V_iload_n C dX4_memberAt_16 rfl ?_
        refine V_icmp_ne C 34 dX4_memberAt_17 (by decide) (by omega) (by omega) (fun c0 => ?_) (fun c0 => ?_)
        · refine V_iinc C dX4_memberAt_34 rfl rfl (by decide) ?_
          refine V_goto C 2 dX4_memberAt_37 (by decide) ?_
          exact ih (j + 1) (by omega) (by omega) (by rw [hr, mbrG, if_neg (by rw [← e]; exact fun q => c0 q.1)])
        · refine V_aload_n C dX4_memberAt_20 rfl ?_
          refine V_getR C 1 dX4_memberAt_21 o4 rfl hin_X4_memberAt_X4 (by decide) lk_X4_memberAt_15 rfl rfl ?_
          refine V_iload_n C dX4_memberAt_24 rfl ?_
          refine V_callSND (nA := 2) (host := "DockTree") C dX4_memberAt_25 (c_aL C.gp hL 1 _ (by decide) rfl (by omega)) gX4_memberAt_X8_at_n46 (by decide +kernel) (by decide +kernel) (by decide +kernel) rfl (by decide +kernel) rfl (by decide) (by decide) (Nat.le_of_ble_eq_true rfl) ⟨by omega, by omega⟩ rfl ?_
          rw [e1]
          refine V_iload_n C dX4_memberAt_28 rfl ?_
          refine V_icmp_ne C 34 dX4_memberAt_29 (by decide) (by omega) (by omega) (fun c1 => ?_) (fun c1 => ?_)
          · refine V_iinc C dX4_memberAt_34 rfl rfl (by decide) ?_
            refine V_goto C 2 dX4_memberAt_37 (by decide) ?_
            exact ih (j + 1) (by omega) (by omega) (by rw [hr, mbrG, if_neg (by rw [← e]; exact fun q => c1 q.2)])
          · refine V_iload_n C dX4_memberAt_32 rfl ?_
            refine V_ireturn C E dX4_memberAt_33 (by omega) (by omega) ?_
            rw [hr, mbrG, if_pos (by rw [← e]; exact ⟨c0, c1⟩), ← e]; exact Dt_rfl
  refine V_iconst C dX4_memberAt_0 ?_
  refine V_istore_n C dX4_memberAt_1 rfl (by decide) ?_
  exact loop 49 0 (by omega) (by omega) rfl
theorem wW_memberAt (hG : GP G) (hL : LayS S b) (hB : Bd 16000000 (lay mu b)) {x i : Int} (hx : -2147483648 ≤ x ∧ x ≤ 2147483647) (hi : -2147483648 ≤ i ∧ i ≤ 2147483647) : Ct G l yX4_memberAt wsX4_memberAt 1 0 0 [.ref b, .int (I32 x), .int (I32 i)] S n mu la (Dt (some (.int (I32 (mbrF (lay mu b) x i)))) S n mu la) := by
  have h := cW_memberAt (l := l) (n := n) (mu := mu) (la := la) hG hL hB (by omega) hx hi
  rw [putL_lay] at h; exact h
end D0

section D3
variable {G : Gx} {l : Launch} {S : Sh} {n : Nat} {mu : Mem} {la : Lam} {a c h t p b q : Nat}
theorem PlAt_memberOf (hG : GP G) (hP : PlanS S p) {P : Mem} (hA : pl mu p = P) {x i : Int} (hi : -2147483648 ≤ i ∧ i ≤ 2147483647) : Ct G l yX5_memberOf wsX5_memberOf 1 0 0 [.ref p, .int (I32 x), .int (I32 i)] S n mu la (Dt (some (.int (I32 (mo P x i)))) S n mu la) := by subst hA; exact w_memberOf hG hP hi
theorem PlAt_sizeOf (hG : GP G) (hP : PlanS S p) {P : Mem} (hA : pl mu p = P) {x i : Int} : Ct G l yX5_sizeOf wsX5_sizeOf 1 0 0 [.ref p, .int (I32 x), .int (I32 i)] S n mu la (Dt (some (.int (I32 (gK P 6 98 (2 * x + i))))) S n mu la) := by subst hA; exact w_sizeOf hG hP
def mdS (L P : Mem) (sp ax : Int) : Nat → Mem
  | 0 => L
  | j + 1 => sL (mdS L P sp ax j) 3 (mo P sp j) (gK P 6 98 (2 * mo P sp j + ax))
theorem mdS_ne (L P : Mem) (sp ax : Int) {k : Nat} (hk : k ≠ 3) (i : Int) : ∀ j, mdS L P sp ax j k i = L k i
  | 0 => rfl
  | j + 1 => by rw [mdS, sL_ne hk, mdS_ne L P sp ax hk i j]
theorem gL_mdS (L P : Mem) (sp ax : Int) {k : Nat} (hk : k ≠ 3) (i : Int) (j : Nat) : gL (mdS L P sp ax j) k i = gL L k i := by
  unfold gL gK atF
  rw [mdS_ne L P sp ax hk]
def mdF (L P : Mem) (g ax d : Int) : Mem :=
  sL (sL (mdS L P (gL L 0 g) ax (gL L 2 (gL L 0 g)).toNat) 3 g (gK P 6 98 (2 * g + ax) + d)) 3 (mo P (gL L 0 g) (gL L 1 g + 1)) (gK P 6 98 (2 * mo P (gL L 0 g) (gL L 1 g + 1) + ax) - d)
set_option maxRecDepth 20000 in
theorem ggX8_moveDivider_X4_holderOf : GoodIn wsX8_moveDivider wsX4_holderOf := goodIn_r _ [7, 8, 9, 10, 11, 53, 54, 55, 56, 57, 58, 59, 60] (by decide +kernel) (by decide +kernel)
set_option maxRecDepth 20000 in
theorem gX8_moveDivider_X4_holderOf : GoodIn wsX8_moveDivider (wsV RX8 103 RX4 yX4_holderOf wsX4_holderOf) := goodIn_app (goodIn_of _ (by decide +kernel)) ggX8_moveDivider_X4_holderOf
set_option maxRecDepth 20000 in
theorem ggX8_moveDivider_X4_countOf : GoodIn wsX8_moveDivider wsX4_countOf := goodIn_r _ [15, 16, 9, 10, 11, 53, 54, 55, 56, 57, 58, 59, 60] (by decide +kernel) (by decide +kernel)
set_option maxRecDepth 20000 in
theorem gX8_moveDivider_X4_countOf : GoodIn wsX8_moveDivider (wsV RX8 107 RX4 yX4_countOf wsX4_countOf) := goodIn_app (goodIn_of _ (by decide +kernel)) ggX8_moveDivider_X4_countOf
set_option maxRecDepth 20000 in
theorem ggX8_moveDivider_X5_memberOf : GoodIn wsX8_moveDivider wsX5_memberOf := goodIn_r _ [21, 22, 9, 10, 11, 61, 62, 63, 64, 65, 66, 67, 68, 69, 70, 71, 72, 73] (by decide +kernel) (by decide +kernel)
set_option maxRecDepth 20000 in
theorem gX8_moveDivider_X5_memberOf : GoodIn wsX8_moveDivider (wsV RX8 215 RX5 yX5_memberOf wsX5_memberOf) := goodIn_app (goodIn_of _ (by decide +kernel)) ggX8_moveDivider_X5_memberOf
set_option maxRecDepth 20000 in
theorem ggX8_moveDivider_X5_sizeOf : GoodIn wsX8_moveDivider wsX5_sizeOf := goodIn_r _ [26, 27, 9, 10, 11, 61, 62, 63, 64, 65, 66, 67, 68, 69, 70, 71, 72, 73] (by decide +kernel) (by decide +kernel)
set_option maxRecDepth 20000 in
theorem gX8_moveDivider_X5_sizeOf : GoodIn wsX8_moveDivider (wsV RX8 179 RX5 yX5_sizeOf wsX5_sizeOf) := goodIn_app (goodIn_of _ (by decide +kernel)) ggX8_moveDivider_X5_sizeOf
set_option maxRecDepth 20000 in
theorem ggX8_moveDivider_X4_changeWeight : GoodIn wsX8_moveDivider wsX4_changeWeight := goodIn_r _ [31, 32, 33, 10, 34, 53, 54, 55, 56, 57, 58, 59, 60] (by decide +kernel) (by decide +kernel)
set_option maxRecDepth 20000 in
theorem gX8_moveDivider_X4_changeWeight : GoodIn wsX8_moveDivider (wsV RX8 167 RX4 yX4_changeWeight wsX4_changeWeight) := goodIn_app (goodIn_of _ (by decide +kernel)) ggX8_moveDivider_X4_changeWeight
set_option maxRecDepth 20000 in
theorem ggX8_moveDivider_X4_placeOf : GoodIn wsX8_moveDivider wsX4_placeOf := goodIn_r _ [38, 39, 9, 10, 11, 53, 54, 55, 56, 57, 58, 59, 60] (by decide +kernel) (by decide +kernel)
set_option maxRecDepth 20000 in
theorem gX8_moveDivider_X4_placeOf : GoodIn wsX8_moveDivider (wsV RX8 155 RX4 yX4_placeOf wsX4_placeOf) := goodIn_app (goodIn_of _ (by decide +kernel)) ggX8_moveDivider_X4_placeOf
theorem dX8_moveDivider_0 : decode cX8_moveDivider 0 = .ok (.aload_n 0, 1) := by decide +kernel
theorem dX8_moveDivider_1 : decode cX8_moveDivider 1 = .ok (.getfield 12, 3) := by decide +kernel
theorem dX8_moveDivider_4 : decode cX8_moveDivider 4 = .ok (.getfield 97, 3) := by decide +kernel
theorem dX8_moveDivider_7 : decode cX8_moveDivider 7 = .ok (.iload_n 1, 1) := by decide +kernel
theorem dX8_moveDivider_8 : decode cX8_moveDivider 8 = .ok (.invokevirtual 103, 3) := by decide +kernel
theorem dX8_moveDivider_11 : decode cX8_moveDivider 11 = .ok (.istore 4, 2) := by decide +kernel
theorem dX8_moveDivider_13 : decode cX8_moveDivider 13 = .ok (.iconst 0, 1) := by decide +kernel
theorem dX8_moveDivider_14 : decode cX8_moveDivider 14 = .ok (.istore 5, 2) := by decide +kernel
theorem dX8_moveDivider_16 : decode cX8_moveDivider 16 = .ok (.iload 5, 2) := by decide +kernel
theorem dX8_moveDivider_18 : decode cX8_moveDivider 18 = .ok (.aload_n 0, 1) := by decide +kernel
theorem dX8_moveDivider_19 : decode cX8_moveDivider 19 = .ok (.getfield 12, 3) := by decide +kernel
theorem dX8_moveDivider_22 : decode cX8_moveDivider 22 = .ok (.getfield 97, 3) := by decide +kernel
theorem dX8_moveDivider_25 : decode cX8_moveDivider 25 = .ok (.iload 4, 2) := by decide +kernel
theorem dX8_moveDivider_27 : decode cX8_moveDivider 27 = .ok (.invokevirtual 107, 3) := by decide +kernel
theorem dX8_moveDivider_30 : decode cX8_moveDivider 30 = .ok (.if_icmp .ge 44, 3) := by decide +kernel
theorem dX8_moveDivider_33 : decode cX8_moveDivider 33 = .ok (.aload_n 0, 1) := by decide +kernel
theorem dX8_moveDivider_34 : decode cX8_moveDivider 34 = .ok (.getfield 33, 3) := by decide +kernel
theorem dX8_moveDivider_37 : decode cX8_moveDivider 37 = .ok (.iload 4, 2) := by decide +kernel
theorem dX8_moveDivider_39 : decode cX8_moveDivider 39 = .ok (.iload 5, 2) := by decide +kernel
theorem dX8_moveDivider_41 : decode cX8_moveDivider 41 = .ok (.invokevirtual 215, 3) := by decide +kernel
theorem dX8_moveDivider_44 : decode cX8_moveDivider 44 = .ok (.istore 6, 2) := by decide +kernel
theorem dX8_moveDivider_46 : decode cX8_moveDivider 46 = .ok (.aload_n 0, 1) := by decide +kernel
theorem dX8_moveDivider_47 : decode cX8_moveDivider 47 = .ok (.getfield 12, 3) := by decide +kernel
theorem dX8_moveDivider_50 : decode cX8_moveDivider 50 = .ok (.getfield 97, 3) := by decide +kernel
theorem dX8_moveDivider_53 : decode cX8_moveDivider 53 = .ok (.iload 6, 2) := by decide +kernel
theorem dX8_moveDivider_55 : decode cX8_moveDivider 55 = .ok (.aload_n 0, 1) := by decide +kernel
theorem dX8_moveDivider_56 : decode cX8_moveDivider 56 = .ok (.getfield 33, 3) := by decide +kernel
theorem dX8_moveDivider_59 : decode cX8_moveDivider 59 = .ok (.iload 6, 2) := by decide +kernel
theorem dX8_moveDivider_61 : decode cX8_moveDivider 61 = .ok (.iload_n 2, 1) := by decide +kernel
theorem dX8_moveDivider_62 : decode cX8_moveDivider 62 = .ok (.invokevirtual 179, 3) := by decide +kernel
theorem dX8_moveDivider_65 : decode cX8_moveDivider 65 = .ok (.invokevirtual 167, 3) := by decide +kernel
theorem dX8_moveDivider_68 : decode cX8_moveDivider 68 = .ok (.iinc 5 1, 3) := by decide +kernel
theorem dX8_moveDivider_71 : decode cX8_moveDivider 71 = .ok (.goto (-55), 3) := by decide +kernel
theorem dX8_moveDivider_74 : decode cX8_moveDivider 74 = .ok (.aload_n 0, 1) := by decide +kernel
theorem dX8_moveDivider_75 : decode cX8_moveDivider 75 = .ok (.getfield 33, 3) := by decide +kernel
theorem dX8_moveDivider_78 : decode cX8_moveDivider 78 = .ok (.iload 4, 2) := by decide +kernel
theorem dX8_moveDivider_80 : decode cX8_moveDivider 80 = .ok (.aload_n 0, 1) := by decide +kernel
theorem dX8_moveDivider_81 : decode cX8_moveDivider 81 = .ok (.getfield 12, 3) := by decide +kernel
theorem dX8_moveDivider_84 : decode cX8_moveDivider 84 = .ok (.getfield 97, 3) := by decide +kernel
theorem dX8_moveDivider_87 : decode cX8_moveDivider 87 = .ok (.iload_n 1, 1) := by decide +kernel
theorem dX8_moveDivider_88 : decode cX8_moveDivider 88 = .ok (.invokevirtual 155, 3) := by decide +kernel
theorem dX8_moveDivider_91 : decode cX8_moveDivider 91 = .ok (.iconst 1, 1) := by decide +kernel
theorem dX8_moveDivider_92 : decode cX8_moveDivider 92 = .ok (.iadd, 1) := by decide +kernel
theorem dX8_moveDivider_93 : decode cX8_moveDivider 93 = .ok (.invokevirtual 215, 3) := by decide +kernel
theorem dX8_moveDivider_96 : decode cX8_moveDivider 96 = .ok (.istore 5, 2) := by decide +kernel
theorem dX8_moveDivider_98 : decode cX8_moveDivider 98 = .ok (.aload_n 0, 1) := by decide +kernel
theorem dX8_moveDivider_99 : decode cX8_moveDivider 99 = .ok (.getfield 12, 3) := by decide +kernel
theorem dX8_moveDivider_102 : decode cX8_moveDivider 102 = .ok (.getfield 97, 3) := by decide +kernel
theorem dX8_moveDivider_105 : decode cX8_moveDivider 105 = .ok (.iload_n 1, 1) := by decide +kernel
theorem dX8_moveDivider_106 : decode cX8_moveDivider 106 = .ok (.aload_n 0, 1) := by decide +kernel
theorem dX8_moveDivider_107 : decode cX8_moveDivider 107 = .ok (.getfield 33, 3) := by decide +kernel
theorem dX8_moveDivider_110 : decode cX8_moveDivider 110 = .ok (.iload_n 1, 1) := by decide +kernel
theorem dX8_moveDivider_111 : decode cX8_moveDivider 111 = .ok (.iload_n 2, 1) := by decide +kernel
theorem dX8_moveDivider_112 : decode cX8_moveDivider 112 = .ok (.invokevirtual 179, 3) := by decide +kernel
theorem dX8_moveDivider_115 : decode cX8_moveDivider 115 = .ok (.iload_n 3, 1) := by decide +kernel
theorem dX8_moveDivider_116 : decode cX8_moveDivider 116 = .ok (.iadd, 1) := by decide +kernel
theorem dX8_moveDivider_117 : decode cX8_moveDivider 117 = .ok (.invokevirtual 167, 3) := by decide +kernel
theorem dX8_moveDivider_120 : decode cX8_moveDivider 120 = .ok (.aload_n 0, 1) := by decide +kernel
theorem dX8_moveDivider_121 : decode cX8_moveDivider 121 = .ok (.getfield 12, 3) := by decide +kernel
theorem dX8_moveDivider_124 : decode cX8_moveDivider 124 = .ok (.getfield 97, 3) := by decide +kernel
theorem dX8_moveDivider_127 : decode cX8_moveDivider 127 = .ok (.iload 5, 2) := by decide +kernel
theorem dX8_moveDivider_129 : decode cX8_moveDivider 129 = .ok (.aload_n 0, 1) := by decide +kernel
theorem dX8_moveDivider_130 : decode cX8_moveDivider 130 = .ok (.getfield 33, 3) := by decide +kernel
theorem dX8_moveDivider_133 : decode cX8_moveDivider 133 = .ok (.iload 5, 2) := by decide +kernel
theorem dX8_moveDivider_135 : decode cX8_moveDivider 135 = .ok (.iload_n 2, 1) := by decide +kernel
theorem dX8_moveDivider_136 : decode cX8_moveDivider 136 = .ok (.invokevirtual 179, 3) := by decide +kernel
theorem dX8_moveDivider_139 : decode cX8_moveDivider 139 = .ok (.iload_n 3, 1) := by decide +kernel
theorem dX8_moveDivider_140 : decode cX8_moveDivider 140 = .ok (.isub, 1) := by decide +kernel
theorem dX8_moveDivider_141 : decode cX8_moveDivider 141 = .ok (.invokevirtual 167, 3) := by decide +kernel
theorem dX8_moveDivider_144 : decode cX8_moveDivider 144 = .ok (.return_, 1) := by decide +kernel
theorem hin_X8_moveDivider_X8 : ∀ w ∈ wsX80, w ∈ wsX8_moveDivider := by decide +kernel
theorem lk_X8_moveDivider_12 : Cond.fieldLink RX8 12 RX8 "now" "LDockTree$State;" ∈ wsX8_moveDivider := by decide +kernel
theorem hin_X8_moveDivider_X7 : ∀ w ∈ wsX70, w ∈ wsX8_moveDivider := by decide +kernel
theorem lk_X8_moveDivider_33 : Cond.fieldLink RX8 33 RX8 "plan" "LDockTree$Plan;" ∈ wsX8_moveDivider := by decide +kernel
theorem k_moveDivider (hG : GP G) (hD : DoS S a c h t p b q) (hB : Bd 16000000 (lay mu (c + 2))) {g ax d : Int} (hc0 : 0 ≤ gL (lay mu (c + 2)) 2 (gL (lay mu (c + 2)) 0 g)) :
    Ct G l yX8_moveDivider wsX8_moveDivider 2 0 0 [.ref a, .int (I32 g), .int (I32 ax), .int (I32 d)] S n mu la (Dt none S n (putL mu (c + 2) (mdF (lay mu (c + 2)) (pl mu p) g ax d)) la) := by
  have o8 := hD.1
  have o7 := hD.2.1.1
  have o5 := hD.2.2.2.2.1.1
  have o4 := hD.2.1.2.2.1.1
  have hL := hD.2.1.2.2.1
  have hP := hD.2.2.2.2.1
  have dj := hD.2.2.2.2.2.2.2
  have hA : ∀ L, pl (putL mu (c + 2) L) p = pl mu p := fun L => pl_putL (by omega)
  have b1 := gL_bd hB (by omega) 1 g
  unfold mdF
  generalize eP : pl mu p = P at hA
  generalize eL : lay mu (c + 2) = L at hc0 b1 hB
  have em : mu = putL mu (c + 2) L := by rw [← eL, putL_lay]
  generalize es : gL L 0 g = sp at hc0
  have b2 := gL_bd hB (by omega) 2 sp
  refine Ct.ofV (cc := cX8_moveDivider) (nL := 7) (ret := none) [some (.ref a), some (.int (I32 g)), some (.int (I32 ax)), some (.int (I32 d)), none, none, none] hG (by decide) rfl (Nat.le_of_ble_eq_true rfl) rfl ?_
  rintro X rfl rfl C hcl hsl E
  have loop : ∀ (r j : Nat) (w6 : Option Value), (j : Int) + r = gL L 2 sp → V X 16 [some (.ref a), some (.int (I32 g)), some (.int (I32 ax)), some (.int (I32 d)), some (.int (I32 sp)), some (.int (I32 (j : Int))), w6] [] S n (putL mu (c + 2) (mdS L P sp ax j)) la 0 0 := by
    intro r
    induction r with
    | zero =>
      intro j w6 hj
      have ej : (gL L 2 sp).toNat = j := by omega
      have ec := r_countOf (l := xL X) (n := n) (la := la) (t := sp) C.gp hL (LayAt_putL mu (mdS L P sp ax j) (c + 2))
      rw [gL_mdS L P sp ax (by decide)] at ec
      have ep := r_placeOf (l := xL X) (n := n) (la := la) (t := g) C.gp hL (LayAt_putL mu (mdS L P sp ax j) (c + 2))
      rw [gL_mdS L P sp ax (by decide)] at ep
      refine V_iload C dX8_moveDivider_16 rfl ?_
      refine V_aload_n C dX8_moveDivider_18 rfl ?_
      refine V_getR C 0 dX8_moveDivider_19 o8 rfl hin_X8_moveDivider_X8 (by decide) lk_X8_moveDivider_12 rfl rfl ?_
      refine V_getNR C 4 (host := "DockTree") dX8_moveDivider_22 o7 rfl hin_X8_moveDivider_X7 (by decide) (by decide +kernel) rfl rfl ?_
      refine V_iload C dX8_moveDivider_25 rfl ?_
      refine V_callVD (nA := 1) C dX8_moveDivider_27 (ec) gX8_moveDivider_X4_countOf rfl o4 rfl (by decide +kernel) rfl (by decide) (by decide) (Nat.le_of_ble_eq_true rfl) ⟨by omega, by omega⟩ rfl ?_
      refine V_icmp_ge C 74 dX8_moveDivider_30 (by decide) (by omega) (by omega) (fun z => ?_) (fun z => ?_)
      · refine V_aload_n C dX8_moveDivider_74 rfl ?_
        refine V_getR C 3 dX8_moveDivider_75 o8 rfl hin_X8_moveDivider_X8 (by decide) lk_X8_moveDivider_33 rfl rfl ?_
        refine V_iload C dX8_moveDivider_78 rfl ?_
        refine V_aload_n C dX8_moveDivider_80 rfl ?_
        refine V_getR C 0 dX8_moveDivider_81 o8 rfl hin_X8_moveDivider_X8 (by decide) lk_X8_moveDivider_12 rfl rfl ?_
        refine V_getNR C 4 (host := "DockTree") dX8_moveDivider_84 o7 rfl hin_X8_moveDivider_X7 (by decide) (by decide +kernel) rfl rfl ?_
        refine V_iload_n C dX8_moveDivider_87 rfl ?_
        refine V_callVD (nA := 1) C dX8_moveDivider_88 (ep) gX8_moveDivider_X4_placeOf rfl o4 rfl (by decide +kernel) rfl (by decide) (by decide) (Nat.le_of_ble_eq_true rfl) ⟨by omega, by omega⟩ rfl ?_
        refine V_iconst C dX8_moveDivider_91 ?_
        refine V_iadd C dX8_moveDivider_92 ?_
        refine V_callVD (nA := 2) C dX8_moveDivider_93 (PlAt_memberOf C.gp hP (hA _) (by omega)) gX8_moveDivider_X5_memberOf rfl o5 rfl (by decide +kernel) rfl (by decide) (by decide) (Nat.le_of_ble_eq_true rfl) ⟨by omega, by omega⟩ rfl ?_
        refine V_istore C dX8_moveDivider_96 rfl (by decide) ?_
        refine V_aload_n C dX8_moveDivider_98 rfl ?_
        refine V_getR C 0 dX8_moveDivider_99 o8 rfl hin_X8_moveDivider_X8 (by decide) lk_X8_moveDivider_12 rfl rfl ?_
        refine V_getNR C 4 (host := "DockTree") dX8_moveDivider_102 o7 rfl hin_X8_moveDivider_X7 (by decide) (by decide +kernel) rfl rfl ?_
        refine V_iload_n C dX8_moveDivider_105 rfl ?_
        refine V_aload_n C dX8_moveDivider_106 rfl ?_
        refine V_getR C 3 dX8_moveDivider_107 o8 rfl hin_X8_moveDivider_X8 (by decide) lk_X8_moveDivider_33 rfl rfl ?_
        refine V_iload_n C dX8_moveDivider_110 rfl ?_
        refine V_iload_n C dX8_moveDivider_111 rfl ?_
        refine V_callVD (nA := 2) C dX8_moveDivider_112 (PlAt_sizeOf C.gp hP (hA _)) gX8_moveDivider_X5_sizeOf rfl o5 rfl (by decide +kernel) rfl (by decide) (by decide) (Nat.le_of_ble_eq_true rfl) ⟨by omega, by omega⟩ rfl ?_
        refine V_iload_n C dX8_moveDivider_115 rfl ?_
        refine V_iadd C dX8_moveDivider_116 ?_
        refine V_callVD (nA := 2) C dX8_moveDivider_117 (s_changeWeight C.gp hL) gX8_moveDivider_X4_changeWeight rfl o4 rfl (by decide +kernel) rfl (by decide) (by decide) (Nat.le_of_ble_eq_true rfl) ⟨by omega, by omega⟩ rfl ?_
        refine V_aload_n C dX8_moveDivider_120 rfl ?_
        refine V_getR C 0 dX8_moveDivider_121 o8 rfl hin_X8_moveDivider_X8 (by decide) lk_X8_moveDivider_12 rfl rfl ?_
        refine V_getNR C 4 (host := "DockTree") dX8_moveDivider_124 o7 rfl hin_X8_moveDivider_X7 (by decide) (by decide +kernel) rfl rfl ?_
        refine V_iload C dX8_moveDivider_127 rfl ?_
        refine V_aload_n C dX8_moveDivider_129 rfl ?_
        refine V_getR C 3 dX8_moveDivider_130 o8 rfl hin_X8_moveDivider_X8 (by decide) lk_X8_moveDivider_33 rfl rfl ?_
        refine V_iload C dX8_moveDivider_133 rfl ?_
        refine V_iload_n C dX8_moveDivider_135 rfl ?_
        refine V_callVD (nA := 2) C dX8_moveDivider_136 (PlAt_sizeOf C.gp hP (hA _)) gX8_moveDivider_X5_sizeOf rfl o5 rfl (by decide +kernel) rfl (by decide) (by decide) (Nat.le_of_ble_eq_true rfl) ⟨by omega, by omega⟩ rfl ?_
        refine V_iload_n C dX8_moveDivider_139 rfl ?_
        refine V_isub C dX8_moveDivider_140 ?_
        refine V_callVD (nA := 2) C dX8_moveDivider_141 (s_changeWeight C.gp hL) gX8_moveDivider_X4_changeWeight rfl o4 rfl (by decide +kernel) rfl (by decide) (by decide) (Nat.le_of_ble_eq_true rfl) ⟨by omega, by omega⟩ rfl ?_
        refine V_return C E dX8_moveDivider_144 (by omega) (by omega) ?_
        rw [ej]; exact Dt_rfl
      · exact absurd z (by omega)
    | succ r ih =>
      intro j w6 hj
      have hn1 : ((j + 1 : Nat) : Int) = (j : Int) + 1 := by omega
      have ec := r_countOf (l := xL X) (n := n) (la := la) (t := sp) C.gp hL (LayAt_putL mu (mdS L P sp ax j) (c + 2))
      rw [gL_mdS L P sp ax (by decide)] at ec
      have h8 := ih (j + 1) (some (.int (I32 (mo P sp j)))) (by omega)
      rw [hn1, mdS] at h8
      refine V_iload C dX8_moveDivider_16 rfl ?_
      refine V_aload_n C dX8_moveDivider_18 rfl ?_
      refine V_getR C 0 dX8_moveDivider_19 o8 rfl hin_X8_moveDivider_X8 (by decide) lk_X8_moveDivider_12 rfl rfl ?_
      refine V_getNR C 4 (host := "DockTree") dX8_moveDivider_22 o7 rfl hin_X8_moveDivider_X7 (by decide) (by decide +kernel) rfl rfl ?_
      refine V_iload C dX8_moveDivider_25 rfl ?_
      refine V_callVD (nA := 1) C dX8_moveDivider_27 (ec) gX8_moveDivider_X4_countOf rfl o4 rfl (by decide +kernel) rfl (by decide) (by decide) (Nat.le_of_ble_eq_true rfl) ⟨by omega, by omega⟩ rfl ?_
      refine V_icmp_ge C 74 dX8_moveDivider_30 (by decide) (by omega) (by omega) (fun z => ?_) (fun z => ?_)
      · exact absurd z (by omega)
      · refine V_aload_n C dX8_moveDivider_33 rfl ?_
        refine V_getR C 3 dX8_moveDivider_34 o8 rfl hin_X8_moveDivider_X8 (by decide) lk_X8_moveDivider_33 rfl rfl ?_
        refine V_iload C dX8_moveDivider_37 rfl ?_
        refine V_iload C dX8_moveDivider_39 rfl ?_
        refine V_callVD (nA := 2) C dX8_moveDivider_41 (PlAt_memberOf C.gp hP (hA _) (by omega)) gX8_moveDivider_X5_memberOf rfl o5 rfl (by decide +kernel) rfl (by decide) (by decide) (Nat.le_of_ble_eq_true rfl) ⟨by omega, by omega⟩ rfl ?_
        refine V_istore C dX8_moveDivider_44 rfl (by decide) ?_
        refine V_aload_n C dX8_moveDivider_46 rfl ?_
        refine V_getR C 0 dX8_moveDivider_47 o8 rfl hin_X8_moveDivider_X8 (by decide) lk_X8_moveDivider_12 rfl rfl ?_
        refine V_getNR C 4 (host := "DockTree") dX8_moveDivider_50 o7 rfl hin_X8_moveDivider_X7 (by decide) (by decide +kernel) rfl rfl ?_
        refine V_iload C dX8_moveDivider_53 rfl ?_
        refine V_aload_n C dX8_moveDivider_55 rfl ?_
        refine V_getR C 3 dX8_moveDivider_56 o8 rfl hin_X8_moveDivider_X8 (by decide) lk_X8_moveDivider_33 rfl rfl ?_
        refine V_iload C dX8_moveDivider_59 rfl ?_
        refine V_iload_n C dX8_moveDivider_61 rfl ?_
        refine V_callVD (nA := 2) C dX8_moveDivider_62 (PlAt_sizeOf C.gp hP (hA _)) gX8_moveDivider_X5_sizeOf rfl o5 rfl (by decide +kernel) rfl (by decide) (by decide) (Nat.le_of_ble_eq_true rfl) ⟨by omega, by omega⟩ rfl ?_
        refine V_callVD (nA := 2) C dX8_moveDivider_65 (s_changeWeight C.gp hL) gX8_moveDivider_X4_changeWeight rfl o4 rfl (by decide +kernel) rfl (by decide) (by decide) (Nat.le_of_ble_eq_true rfl) ⟨by omega, by omega⟩ rfl ?_
        refine V_iinc C dX8_moveDivider_68 rfl rfl (by decide) ?_
        refine V_goto C 16 dX8_moveDivider_71 (by decide) ?_
        exact h8
  have eh := w_holderOf (l := xL X) (n := n) (mu := mu) (la := la) (x := g) C.gp hL
  rw [eL, es] at eh
  refine V_aload_n C dX8_moveDivider_0 rfl ?_
  refine V_getR C 0 dX8_moveDivider_1 o8 rfl hin_X8_moveDivider_X8 (by decide) lk_X8_moveDivider_12 rfl rfl ?_
  refine V_getNR C 4 (host := "DockTree") dX8_moveDivider_4 o7 rfl hin_X8_moveDivider_X7 (by decide) (by decide +kernel) rfl rfl ?_
  refine V_iload_n C dX8_moveDivider_7 rfl ?_
  refine V_callVD (nA := 1) C dX8_moveDivider_8 (eh) gX8_moveDivider_X4_holderOf rfl o4 rfl (by decide +kernel) rfl (by decide) (by decide) (Nat.le_of_ble_eq_true rfl) ⟨by omega, by omega⟩ rfl ?_
  refine V_istore C dX8_moveDivider_11 rfl (by decide) ?_
  refine V_iconst C dX8_moveDivider_13 ?_
  refine V_istore C dX8_moveDivider_14 rfl (by decide) ?_
  have h9 := loop (gL L 2 sp).toNat 0 none (by omega)
  rw [show mdS L P sp ax 0 = L from rfl, ← em] at h9
  exact h9
def cb1 (mu : Mem) (c b : Nat) : Mem := cp8 mu (c + 2) b 8
def cb2 (mu : Mem) (c b : Nat) (x y z : Int) : Mem := putL (cb1 mu c b) b (dkF (lay (cb1 mu c b) b) x y z)
def cb3 (mu : Mem) (c b q : Nat) (x y z : Int) : Mem := wkR (cb2 mu c b x y z) q b (c + 1) (cb2 mu c b x y z c 0) (cb2 mu c b x y z c 1)
def cbA (mu : Mem) (c b q : Nat) (x y z : Int) : Int :=
  gK (pl (cb3 mu c b q x y z) q) 6 98 (2 * gL (lay (cb3 mu c b q x y z) b) 0 x + 0) * rbF (pl (cb3 mu c b q x y z) q) (gL (lay (cb3 mu c b q x y z) b) 0 x)
set_option maxRecDepth 20000 in
theorem ggX8_cellsBehindDocking_X4_copyFrom : GoodIn wsX8_cellsBehindDocking wsX4_copyFrom := goodIn_r _ [8, 9, 10, 11, 12, 13, 14, 15, 16, 17, 18, 19, 20, 21, 22, 23, 24, 25, 26, 27, 253, 254, 255, 256, 257, 258, 259, 260] (by decide +kernel) (by decide +kernel)
set_option maxRecDepth 20000 in
theorem gX8_cellsBehindDocking_X4_copyFrom : GoodIn wsX8_cellsBehindDocking (wsV RX8 317 RX4 yX4_copyFrom wsX4_copyFrom) := goodIn_app (goodIn_of _ (by decide +kernel)) ggX8_cellsBehindDocking_X4_copyFrom
set_option maxRecDepth 20000 in
theorem ggX8_cellsBehindDocking_X4_dockAt : GoodIn wsX8_cellsBehindDocking wsX4_dockAt := goodIn_r _ [31, 9, 11, 32, 33, 34, 7, 35, 10, 36, 21, 22, 23, 37, 18, 38, 39, 40, 41, 42, 43, 44, 45, 46, 47, 48, 49, 50, 51, 52, 53, 54, 55, 56, 57, 58, 12, 59, 60, 61, 62, 13, 63, 64, 65, 66, 67, 68, 69, 70, 71, 72, 73, 74, 75, 76, 77, 78, 79, 80, 81, 82, 83, 84, 85, 86, 14, 87, 88, 89, 90, 91, 92, 93, 94, 95, 96, 253, 254, 255, 256, 257, 258, 259, 260] (by decide +kernel) (by decide +kernel)
set_option maxRecDepth 20000 in
theorem gX8_cellsBehindDocking_X4_dockAt : GoodIn wsX8_cellsBehindDocking (wsV RX8 100 RX4 yX4_dockAt wsX4_dockAt) := goodIn_app (goodIn_of _ (by decide +kernel)) ggX8_cellsBehindDocking_X4_dockAt
set_option maxRecDepth 20000 in
theorem ggX8_cellsBehindDocking_X5_work : GoodIn wsX8_cellsBehindDocking wsX5_work := goodIn_r _ [101, 102, 103, 104, 105, 106, 107, 108, 100, 109, 110, 111, 112, 113, 114, 115, 116, 117, 7, 118, 9, 37, 18, 38, 119, 120, 121, 122, 10, 43, 44, 123, 124, 125, 126, 127, 128, 129, 130, 131, 132, 133, 134, 135, 136, 11, 49, 50, 137, 138, 139, 140, 141, 142, 143, 22, 144, 145, 84, 85, 86, 14, 146, 147, 148, 149, 150, 151, 152, 153, 154, 15, 155, 156, 157, 158, 16, 159, 160, 161, 162, 163, 164, 165, 166, 167, 168, 169, 170, 171, 172, 173, 174, 175, 176, 177, 178, 179, 180, 181, 182, 183, 184, 185, 186, 187, 188, 189, 190, 191, 192, 193, 12, 194, 195, 196, 197, 198, 199, 200, 201, 202, 203, 204, 205, 206, 207, 208, 209, 210, 211, 212, 213, 214, 215, 216, 217, 218, 219, 220, 221, 222, 223, 224, 225, 226, 227, 228, 229, 230, 231, 232, 233, 261, 262, 263, 264, 265, 266, 267, 268, 269, 270, 271, 272, 273, 253, 254, 255, 256, 257, 258, 259, 260, 274, 275, 276, 277, 278, 279] (by decide +kernel) (by decide +kernel)
set_option maxRecDepth 20000 in
theorem gX8_cellsBehindDocking_X5_work : GoodIn wsX8_cellsBehindDocking (wsV RX8 250 RX5 yX5_work wsX5_work) := goodIn_app (goodIn_of _ (by decide +kernel)) ggX8_cellsBehindDocking_X5_work
set_option maxRecDepth 20000 in
theorem ggX8_cellsBehindDocking_X4_holderOf : GoodIn wsX8_cellsBehindDocking wsX4_holderOf := goodIn_r _ [118, 9, 37, 18, 38, 253, 254, 255, 256, 257, 258, 259, 260] (by decide +kernel) (by decide +kernel)
set_option maxRecDepth 20000 in
theorem gX8_cellsBehindDocking_X4_holderOf : GoodIn wsX8_cellsBehindDocking (wsV RX8 103 RX4 yX4_holderOf wsX4_holderOf) := goodIn_app (goodIn_of _ (by decide +kernel)) ggX8_cellsBehindDocking_X4_holderOf
set_option maxRecDepth 20000 in
theorem ggX8_cellsBehindDocking_X5_sizeOf : GoodIn wsX8_cellsBehindDocking wsX5_sizeOf := goodIn_r _ [178, 164, 37, 18, 38, 261, 262, 263, 264, 265, 266, 267, 268, 269, 270, 271, 272, 273] (by decide +kernel) (by decide +kernel)
set_option maxRecDepth 20000 in
theorem gX8_cellsBehindDocking_X5_sizeOf : GoodIn wsX8_cellsBehindDocking (wsV RX8 179 RX5 yX5_sizeOf wsX5_sizeOf) := goodIn_app (goodIn_of _ (by decide +kernel)) ggX8_cellsBehindDocking_X5_sizeOf
set_option maxRecDepth 20000 in
theorem ggX8_cellsBehindDocking_X5_rowsBelowTabs : GoodIn wsX8_cellsBehindDocking wsX5_rowsBelowTabs := goodIn_r _ [239, 142, 143, 22, 144, 175, 176, 177, 100, 178, 164, 37, 18, 38, 261, 262, 263, 264, 265, 266, 267, 268, 269, 270, 271, 272, 273] (by decide +kernel) (by decide +kernel)
set_option maxRecDepth 20000 in
theorem gX8_cellsBehindDocking_X5_rowsBelowTabs : GoodIn wsX8_cellsBehindDocking (wsV RX8 321 RX5 yX5_rowsBelowTabs wsX5_rowsBelowTabs) := goodIn_app (goodIn_of _ (by decide +kernel)) ggX8_cellsBehindDocking_X5_rowsBelowTabs
theorem dX8_cellsBehindDocking_0 : decode cX8_cellsBehindDocking 0 = .ok (.aload_n 0, 1) := by decide +kernel
theorem dX8_cellsBehindDocking_1 : decode cX8_cellsBehindDocking 1 = .ok (.getfield 40, 3) := by decide +kernel
theorem dX8_cellsBehindDocking_4 : decode cX8_cellsBehindDocking 4 = .ok (.aload_n 0, 1) := by decide +kernel
theorem dX8_cellsBehindDocking_5 : decode cX8_cellsBehindDocking 5 = .ok (.getfield 12, 3) := by decide +kernel
theorem dX8_cellsBehindDocking_8 : decode cX8_cellsBehindDocking 8 = .ok (.getfield 97, 3) := by decide +kernel
theorem dX8_cellsBehindDocking_11 : decode cX8_cellsBehindDocking 11 = .ok (.invokevirtual 317, 3) := by decide +kernel
theorem dX8_cellsBehindDocking_14 : decode cX8_cellsBehindDocking 14 = .ok (.aload_n 0, 1) := by decide +kernel
theorem dX8_cellsBehindDocking_15 : decode cX8_cellsBehindDocking 15 = .ok (.getfield 40, 3) := by decide +kernel
theorem dX8_cellsBehindDocking_18 : decode cX8_cellsBehindDocking 18 = .ok (.iload_n 1, 1) := by decide +kernel
theorem dX8_cellsBehindDocking_19 : decode cX8_cellsBehindDocking 19 = .ok (.iload_n 2, 1) := by decide +kernel
theorem dX8_cellsBehindDocking_20 : decode cX8_cellsBehindDocking 20 = .ok (.iload_n 3, 1) := by decide +kernel
theorem dX8_cellsBehindDocking_21 : decode cX8_cellsBehindDocking 21 = .ok (.invokevirtual 100, 3) := by decide +kernel
theorem dX8_cellsBehindDocking_24 : decode cX8_cellsBehindDocking 24 = .ok (.aload_n 0, 1) := by decide +kernel
theorem dX8_cellsBehindDocking_25 : decode cX8_cellsBehindDocking 25 = .ok (.getfield 44, 3) := by decide +kernel
theorem dX8_cellsBehindDocking_28 : decode cX8_cellsBehindDocking 28 = .ok (.aload_n 0, 1) := by decide +kernel
theorem dX8_cellsBehindDocking_29 : decode cX8_cellsBehindDocking 29 = .ok (.getfield 40, 3) := by decide +kernel
theorem dX8_cellsBehindDocking_32 : decode cX8_cellsBehindDocking 32 = .ok (.aload_n 0, 1) := by decide +kernel
theorem dX8_cellsBehindDocking_33 : decode cX8_cellsBehindDocking 33 = .ok (.getfield 12, 3) := by decide +kernel
theorem dX8_cellsBehindDocking_36 : decode cX8_cellsBehindDocking 36 = .ok (.getfield 246, 3) := by decide +kernel
theorem dX8_cellsBehindDocking_39 : decode cX8_cellsBehindDocking 39 = .ok (.aload_n 0, 1) := by decide +kernel
theorem dX8_cellsBehindDocking_40 : decode cX8_cellsBehindDocking 40 = .ok (.getfield 12, 3) := by decide +kernel
theorem dX8_cellsBehindDocking_43 : decode cX8_cellsBehindDocking 43 = .ok (.getfield 59, 3) := by decide +kernel
theorem dX8_cellsBehindDocking_46 : decode cX8_cellsBehindDocking 46 = .ok (.aload_n 0, 1) := by decide +kernel
theorem dX8_cellsBehindDocking_47 : decode cX8_cellsBehindDocking 47 = .ok (.getfield 12, 3) := by decide +kernel
theorem dX8_cellsBehindDocking_50 : decode cX8_cellsBehindDocking 50 = .ok (.getfield 63, 3) := by decide +kernel
theorem dX8_cellsBehindDocking_53 : decode cX8_cellsBehindDocking 53 = .ok (.invokevirtual 250, 3) := by decide +kernel
theorem dX8_cellsBehindDocking_56 : decode cX8_cellsBehindDocking 56 = .ok (.aload_n 0, 1) := by decide +kernel
theorem dX8_cellsBehindDocking_57 : decode cX8_cellsBehindDocking 57 = .ok (.getfield 40, 3) := by decide +kernel
theorem dX8_cellsBehindDocking_60 : decode cX8_cellsBehindDocking 60 = .ok (.iload_n 1, 1) := by decide +kernel
theorem dX8_cellsBehindDocking_61 : decode cX8_cellsBehindDocking 61 = .ok (.invokevirtual 103, 3) := by decide +kernel
theorem dX8_cellsBehindDocking_64 : decode cX8_cellsBehindDocking 64 = .ok (.istore 4, 2) := by decide +kernel
theorem dX8_cellsBehindDocking_66 : decode cX8_cellsBehindDocking 66 = .ok (.aload_n 0, 1) := by decide +kernel
theorem dX8_cellsBehindDocking_67 : decode cX8_cellsBehindDocking 67 = .ok (.getfield 44, 3) := by decide +kernel
theorem dX8_cellsBehindDocking_70 : decode cX8_cellsBehindDocking 70 = .ok (.iload 4, 2) := by decide +kernel
theorem dX8_cellsBehindDocking_72 : decode cX8_cellsBehindDocking 72 = .ok (.iconst 0, 1) := by decide +kernel
theorem dX8_cellsBehindDocking_73 : decode cX8_cellsBehindDocking 73 = .ok (.invokevirtual 179, 3) := by decide +kernel
theorem dX8_cellsBehindDocking_76 : decode cX8_cellsBehindDocking 76 = .ok (.aload_n 0, 1) := by decide +kernel
theorem dX8_cellsBehindDocking_77 : decode cX8_cellsBehindDocking 77 = .ok (.getfield 44, 3) := by decide +kernel
theorem dX8_cellsBehindDocking_80 : decode cX8_cellsBehindDocking 80 = .ok (.iload 4, 2) := by decide +kernel
theorem dX8_cellsBehindDocking_82 : decode cX8_cellsBehindDocking 82 = .ok (.invokevirtual 321, 3) := by decide +kernel
theorem dX8_cellsBehindDocking_85 : decode cX8_cellsBehindDocking 85 = .ok (.imul, 1) := by decide +kernel
theorem dX8_cellsBehindDocking_86 : decode cX8_cellsBehindDocking 86 = .ok (.ireturn, 1) := by decide +kernel
theorem hin_X8_cellsBehindDocking_X8 : ∀ w ∈ wsX80, w ∈ wsX8_cellsBehindDocking := by decide +kernel
theorem lk_X8_cellsBehindDocking_40 : Cond.fieldLink RX8 40 RX8 "trial" "LDockTree$Layout;" ∈ wsX8_cellsBehindDocking := by decide +kernel
theorem lk_X8_cellsBehindDocking_12 : Cond.fieldLink RX8 12 RX8 "now" "LDockTree$State;" ∈ wsX8_cellsBehindDocking := by decide +kernel
theorem hin_X8_cellsBehindDocking_X7 : ∀ w ∈ wsX70, w ∈ wsX8_cellsBehindDocking := by decide +kernel
theorem lk_X8_cellsBehindDocking_44 : Cond.fieldLink RX8 44 RX8 "trialPlan" "LDockTree$Plan;" ∈ wsX8_cellsBehindDocking := by decide +kernel
theorem k_cellsBehindDocking (hG : GP G) (hD : DoS S a c h t p b q) (hR : R32 mu) (hB : Bd 16000000 (lay mu (c + 2))) (hB2 : Bd 16000000 (lay mu b)) {x y z : Int} (hx : 0 ≤ x ∧ x ≤ 15) (hy : 0 ≤ y ∧ y ≤ 15) (hz : 0 ≤ z ∧ z ≤ 4) :
    Ct G l yX8_cellsBehindDocking wsX8_cellsBehindDocking 5 0 0 [.ref a, .int (I32 x), .int (I32 y), .int (I32 z)] S n mu la (Dt (some (.int (I32 (cbA mu c b q x y z)))) S n (cb3 mu c b q x y z) la) := by
  have o8 := hD.1
  have o7 := hD.2.1.1
  have o5 := hD.2.2.2.2.2.2.1.1
  have o4 := hD.2.2.2.2.2.1.1
  have hL := hD.2.2.2.2.2.1
  have hQ := hD.2.2.2.2.2.2.1
  have dj := hD.2.2.2.2.2.2.2
  have hB1 : Bd 16000000 (lay (cb1 mu c b) b) := lay_cp8_bd (by omega) hB hB2
  have hB3 := dkF_bd (p := x) hB1 (by omega) (by omega) y z
  have hR2 : R32 (cb2 mu c b x y z) := R32_putL (R32_cp8 hR _ _ _) (hB3.r32 (by omega))
  refine Ct.ofV (cc := cX8_cellsBehindDocking) (nL := 5) (ret := (some .int)) [some (.ref a), some (.int (I32 x)), some (.int (I32 y)), some (.int (I32 z)), none] hG (by decide) rfl (Nat.le_of_ble_eq_true rfl) rfl ?_
  rintro X rfl rfl C hcl hsl E
  refine V_aload_n C dX8_cellsBehindDocking_0 rfl ?_
  refine V_getR C 4 dX8_cellsBehindDocking_1 o8 rfl hin_X8_cellsBehindDocking_X8 (by decide) lk_X8_cellsBehindDocking_40 rfl rfl ?_
  refine V_aload_n C dX8_cellsBehindDocking_4 rfl ?_
  refine V_getR C 0 dX8_cellsBehindDocking_5 o8 rfl hin_X8_cellsBehindDocking_X8 (by decide) lk_X8_cellsBehindDocking_12 rfl rfl ?_
  refine V_getNR C 4 (host := "DockTree") dX8_cellsBehindDocking_8 o7 rfl hin_X8_cellsBehindDocking_X7 (by decide) (by decide +kernel) rfl rfl ?_
  refine V_callVD (nA := 1) C dX8_cellsBehindDocking_11 (c_copyFrom0 C.gp hL hD.2.1.2.2.1) gX8_cellsBehindDocking_X4_copyFrom rfl o4 rfl (by decide +kernel) rfl (by decide) (by decide) (Nat.le_of_ble_eq_true rfl) ⟨by omega, by omega⟩ rfl ?_
  refine V_aload_n C dX8_cellsBehindDocking_14 rfl ?_
  refine V_getR C 4 dX8_cellsBehindDocking_15 o8 rfl hin_X8_cellsBehindDocking_X8 (by decide) lk_X8_cellsBehindDocking_40 rfl rfl ?_
  refine V_iload_n C dX8_cellsBehindDocking_18 rfl ?_
  refine V_iload_n C dX8_cellsBehindDocking_19 rfl ?_
  refine V_iload_n C dX8_cellsBehindDocking_20 rfl ?_
  refine V_callVD (nA := 3) C dX8_cellsBehindDocking_21 (w_dockAt C.gp hL hB1 (by omega) (by omega) (by omega) (by omega)) gX8_cellsBehindDocking_X4_dockAt rfl o4 rfl (by decide +kernel) rfl (by decide) (by decide) (Nat.le_of_ble_eq_true rfl) ⟨by omega, by omega⟩ rfl ?_
  refine V_aload_n C dX8_cellsBehindDocking_24 rfl ?_
  refine V_getR C 5 dX8_cellsBehindDocking_25 o8 rfl hin_X8_cellsBehindDocking_X8 (by decide) lk_X8_cellsBehindDocking_44 rfl rfl ?_
  refine V_aload_n C dX8_cellsBehindDocking_28 rfl ?_
  refine V_getR C 4 dX8_cellsBehindDocking_29 o8 rfl hin_X8_cellsBehindDocking_X8 (by decide) lk_X8_cellsBehindDocking_40 rfl rfl ?_
  refine V_aload_n C dX8_cellsBehindDocking_32 rfl ?_
  refine V_getR C 0 dX8_cellsBehindDocking_33 o8 rfl hin_X8_cellsBehindDocking_X8 (by decide) lk_X8_cellsBehindDocking_12 rfl rfl ?_
  refine V_getNR C 3 (host := "DockTree") dX8_cellsBehindDocking_36 o7 rfl hin_X8_cellsBehindDocking_X7 (by decide) (by decide +kernel) rfl rfl ?_
  refine V_aload_n C dX8_cellsBehindDocking_39 rfl ?_
  refine V_getR C 0 dX8_cellsBehindDocking_40 o8 rfl hin_X8_cellsBehindDocking_X8 (by decide) lk_X8_cellsBehindDocking_12 rfl rfl ?_
  refine V_getNJ C 0 0 rfl (host := "DockTree") dX8_cellsBehindDocking_43 o7 rfl hin_X8_cellsBehindDocking_X7 (by decide) (by decide +kernel) rfl rfl rfl ?_
  refine V_aload_n C dX8_cellsBehindDocking_46 rfl ?_
  refine V_getR C 0 dX8_cellsBehindDocking_47 o8 rfl hin_X8_cellsBehindDocking_X8 (by decide) lk_X8_cellsBehindDocking_12 rfl rfl ?_
  refine V_getNJ C 1 1 rfl (host := "DockTree") dX8_cellsBehindDocking_50 o7 rfl hin_X8_cellsBehindDocking_X7 (by decide) (by decide +kernel) rfl rfl rfl ?_
  refine V_callVD (nA := 4) C dX8_cellsBehindDocking_53 (w_work C.gp hQ hR2 hL (by omega) (lay_putL_bd (by omega) hB3) (by omega) hD.2.1.2.1 (by omega)) gX8_cellsBehindDocking_X5_work rfl o5 rfl (by decide +kernel) rfl (by decide) (by decide) (Nat.le_of_ble_eq_true rfl) ⟨by omega, by omega⟩ rfl ?_
  refine V_aload_n C dX8_cellsBehindDocking_56 rfl ?_
  refine V_getR C 4 dX8_cellsBehindDocking_57 o8 rfl hin_X8_cellsBehindDocking_X8 (by decide) lk_X8_cellsBehindDocking_40 rfl rfl ?_
  refine V_iload_n C dX8_cellsBehindDocking_60 rfl ?_
  refine V_callVD (nA := 1) C dX8_cellsBehindDocking_61 (w_holderOf C.gp hL) gX8_cellsBehindDocking_X4_holderOf rfl o4 rfl (by decide +kernel) rfl (by decide) (by decide) (Nat.le_of_ble_eq_true rfl) ⟨by omega, by omega⟩ rfl ?_
  refine V_istore C dX8_cellsBehindDocking_64 rfl (by decide) ?_
  refine V_aload_n C dX8_cellsBehindDocking_66 rfl ?_
  refine V_getR C 5 dX8_cellsBehindDocking_67 o8 rfl hin_X8_cellsBehindDocking_X8 (by decide) lk_X8_cellsBehindDocking_44 rfl rfl ?_
  refine V_iload C dX8_cellsBehindDocking_70 rfl ?_
  refine V_iconst C dX8_cellsBehindDocking_72 ?_
  refine V_callVD (nA := 2) C dX8_cellsBehindDocking_73 (w_sizeOf C.gp hQ) gX8_cellsBehindDocking_X5_sizeOf rfl o5 rfl (by decide +kernel) rfl (by decide) (by decide) (Nat.le_of_ble_eq_true rfl) ⟨by omega, by omega⟩ rfl ?_
  refine V_aload_n C dX8_cellsBehindDocking_76 rfl ?_
  refine V_getR C 5 dX8_cellsBehindDocking_77 o8 rfl hin_X8_cellsBehindDocking_X8 (by decide) lk_X8_cellsBehindDocking_44 rfl rfl ?_
  refine V_iload C dX8_cellsBehindDocking_80 rfl ?_
  refine V_callVD (nA := 1) C dX8_cellsBehindDocking_82 (w_rowsBelowTabs C.gp hQ) gX8_cellsBehindDocking_X5_rowsBelowTabs rfl o5 rfl (by decide +kernel) rfl (by decide) (by decide) (Nat.le_of_ble_eq_true rfl) ⟨by omega, by omega⟩ rfl ?_
  refine V_imul C dX8_cellsBehindDocking_85 ?_
  refine V_ireturn C E dX8_cellsBehindDocking_86 (by omega) (by omega) ?_
  exact Dt_rfl
end D3
