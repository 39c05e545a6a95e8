section PC
variable {G : Gx} {l : Launch} {S : Sh} {n : Nat} {mu : Mem} {la : Lam} {p : Nat} {P : Mem} {b : Nat} {L : Mem}
/-- the children wait, the last one first -/
def psH (nd : Int) : Nat → Mem → Int → Mem × Int
  | 0, Q, o => (Q, o)
  | r + 1, Q, o => psH nd r (sK Q 3 31 o (mo Q nd r)) (o + 1)
def lnS (L Q : Mem) (o : Int) : Mem × Int :=
  let nd := gK Q 3 31 o
  let Q2 := up (sK Q 2 31 (Q 0 9) nd) 0 9 (wr (Q 0 9 + 1))
  if 32 ≤ nd ∧ nd < 47 then psH nd (gL L 2 nd).toNat (up Q2 0 10 (wr (Q 0 10 + 1))) o else (Q2, o)
def lnG (L : Mem) : Nat → Mem → Int → Mem
  | 0, Q, _ => Q
  | m + 1, Q, o => if o ≤ 0 then Q else lnG L m (lnS L Q (o - 1)).1 (lnS L Q (o - 1)).2
def lnI (P : Mem) : Mem := sK (up (up P 0 9 0) 0 10 0) 3 31 0 (mo P 47 0)
def lnF (P L : Mem) : Mem := lnG L 31 (lnI P) (gL L 2 47)
theorem psH_o (nd : Int) : ∀ (r : Nat) (Q : Mem) (o : Int), (psH nd r Q o).2 = o + r
  | 0, Q, o => by simp [psH]
  | r + 1, Q, o => by rw [psH, psH_o nd r]; omega
theorem psH_k (nd : Int) {k : Nat} (hk : k ≠ 3) (i : Int) : ∀ (r : Nat) (Q : Mem) (o : Int), (psH nd r Q o).1 k i = Q k i
  | 0, Q, o => rfl
  | r + 1, Q, o => by rw [psH, psH_k nd hk i r, sK_ne hk]
theorem psH_R (nd : Int) : ∀ (r : Nat) (Q : Mem) (o : Int), R32 Q → R32 (psH nd r Q o).1
  | 0, Q, o, h => h
  | r + 1, Q, o, h => by rw [psH]; exact psH_R nd r _ _ (R32_sK h _ _ _ _)
theorem lnS_R {Q : Mem} (h : R32 Q) (L : Mem) (o : Int) : R32 (lnS L Q o).1 := by
  have h2 := R32_up (R32_sK h 2 31 (Q 0 9) (gK Q 3 31 o)) 0 9 (wr_b (Q 0 9 + 1))
  unfold lnS
  dsimp only
  split
  · exact psH_R _ _ _ _ (R32_up h2 _ _ (wr_b _))
  · exact h2
theorem lnS_9 (L Q : Mem) (o : Int) : (lnS L Q o).1 0 9 = wr (Q 0 9 + 1) := by
  unfold lnS
  dsimp only
  split
  · rw [psH_k _ (by decide), up_i _ _ _ (by decide), up_s]
  · show up (sK Q 2 31 (Q 0 9) (gK Q 3 31 o)) 0 9 (wr (Q 0 9 + 1)) 0 9 = wr (Q 0 9 + 1)
    exact up_s _ _ _ _
theorem lnS_o (L Q : Mem) (o : Int) : o ≤ (lnS L Q o).2 ∧ ((lnS L Q o).2 = o ∨ ∃ i, (lnS L Q o).2 = o + (gL L 2 i).toNat) := by
  unfold lnS
  dsimp only
  split
  · rw [psH_o]
    exact ⟨by omega, Or.inr ⟨_, rfl⟩⟩
  · exact ⟨Int.le_refl _, Or.inl rfl⟩
theorem lnG_R {L : Mem} : ∀ (m : Nat) (Q : Mem) (o : Int), R32 Q → R32 (lnG L m Q o)
  | 0, Q, o, h => h
  | m + 1, Q, o, h => by
    rw [lnG]
    split
    · exact h
    · exact lnG_R m _ _ (lnS_R h L _)
theorem lnG_9 {L : Mem} : ∀ (m : Nat) (Q : Mem) (o : Int), Q 0 9 = 31 - m → m ≤ 31 → 0 ≤ lnG L m Q o 0 9 ∧ lnG L m Q o 0 9 ≤ 31
  | 0, Q, o, h, _ => by rw [lnG, h]; omega
  | m + 1, Q, o, h, hm => by
    rw [lnG]
    split
    · rw [h]; omega
    · exact lnG_9 m _ _ (by rw [lnS_9, h, wr_id (by omega)]; omega) (by omega)
theorem mo_up0 (P : Mem) (i v : Int) (h j : Int) : mo (up P 0 i v) h j = mo P h j := by
  unfold mo
  rw [gK_up_ne (by decide)]
set_option maxRecDepth 20000 in
theorem ggX5_listNodes_X5_memberOf : GoodIn wsX5_listNodes wsX5_memberOf := goodIn_r _ [9, 10, 11, 12, 13, 24, 25, 26, 27, 28, 29, 30, 31, 32, 33, 34, 35, 36] (by decide +kernel) (by decide +kernel)
set_option maxRecDepth 20000 in
theorem gX5_listNodes_X5_memberOf : GoodIn wsX5_listNodes (wsV RX5 127 RX5 yX5_memberOf wsX5_memberOf) := goodIn_app (goodIn_of _ (by decide +kernel)) ggX5_listNodes_X5_memberOf
set_option maxRecDepth 20000 in
theorem ggX5_listNodes_X8_put : GoodIn wsX5_listNodes wsX8_put := goodIn_r _ [15] (by decide +kernel) (by decide +kernel)
set_option maxRecDepth 20000 in
theorem gX5_listNodes_X8_put_n123 : GoodIn wsX5_listNodes (wsX8_put) := ggX5_listNodes_X8_put
set_option maxRecDepth 20000 in
theorem ggX5_listNodes_X4_countOf : GoodIn wsX5_listNodes wsX4_countOf := goodIn_r _ [20, 21, 11, 12, 13, 37, 38, 39, 40, 41, 42, 43, 44] (by decide +kernel) (by decide +kernel)
set_option maxRecDepth 20000 in
theorem gX5_listNodes_X4_countOf : GoodIn wsX5_listNodes (wsV RX5 130 RX4 yX4_countOf wsX4_countOf) := goodIn_app (goodIn_of _ (by decide +kernel)) ggX5_listNodes_X4_countOf
set_option maxRecDepth 20000 in
theorem ggX5_listNodes_X8_at : GoodIn wsX5_listNodes wsX8_at := goodIn_r _ [13] (by decide +kernel) (by decide +kernel)
set_option maxRecDepth 20000 in
theorem gX5_listNodes_X8_at_n54 : GoodIn wsX5_listNodes (wsX8_at) := ggX5_listNodes_X8_at
set_option maxRecDepth 20000 in
theorem ggX5_listNodes_X8_isSplit : GoodIn wsX5_listNodes wsX8_isSplit := goodIn_r _ [23] (by decide +kernel) (by decide +kernel)
set_option maxRecDepth 20000 in
theorem gX5_listNodes_X8_isSplit_n75 : GoodIn wsX5_listNodes (wsX8_isSplit) := ggX5_listNodes_X8_isSplit
theorem dX5_listNodes_0 : decode cX5_listNodes 0 = .ok (.aload_n 0, 1) := by decide +kernel
theorem dX5_listNodes_1 : decode cX5_listNodes 1 = .ok (.iconst 0, 1) := by decide +kernel
theorem dX5_listNodes_2 : decode cX5_listNodes 2 = .ok (.putfield 50, 3) := by decide +kernel
theorem dX5_listNodes_5 : decode cX5_listNodes 5 = .ok (.aload_n 0, 1) := by decide +kernel
theorem dX5_listNodes_6 : decode cX5_listNodes 6 = .ok (.iconst 0, 1) := by decide +kernel
theorem dX5_listNodes_7 : decode cX5_listNodes 7 = .ok (.putfield 86, 3) := by decide +kernel
theorem dX5_listNodes_10 : decode cX5_listNodes 10 = .ok (.aload_n 0, 1) := by decide +kernel
theorem dX5_listNodes_11 : decode cX5_listNodes 11 = .ok (.getfield 18, 3) := by decide +kernel
theorem dX5_listNodes_14 : decode cX5_listNodes 14 = .ok (.iconst 0, 1) := by decide +kernel
theorem dX5_listNodes_15 : decode cX5_listNodes 15 = .ok (.aload_n 0, 1) := by decide +kernel
theorem dX5_listNodes_16 : decode cX5_listNodes 16 = .ok (.bipush 47, 2) := by decide +kernel
theorem dX5_listNodes_18 : decode cX5_listNodes 18 = .ok (.iconst 0, 1) := by decide +kernel
theorem dX5_listNodes_19 : decode cX5_listNodes 19 = .ok (.invokevirtual 127, 3) := by decide +kernel
theorem dX5_listNodes_22 : decode cX5_listNodes 22 = .ok (.invokestatic 123, 3) := by decide +kernel
theorem dX5_listNodes_25 : decode cX5_listNodes 25 = .ok (.aload_n 1, 1) := by decide +kernel
theorem dX5_listNodes_26 : decode cX5_listNodes 26 = .ok (.bipush 47, 2) := by decide +kernel
theorem dX5_listNodes_28 : decode cX5_listNodes 28 = .ok (.invokevirtual 130, 3) := by decide +kernel
theorem dX5_listNodes_31 : decode cX5_listNodes 31 = .ok (.istore_n 2, 1) := by decide +kernel
theorem dX5_listNodes_32 : decode cX5_listNodes 32 = .ok (.iload_n 2, 1) := by decide +kernel
theorem dX5_listNodes_33 : decode cX5_listNodes 33 = .ok (.ifCond .le 104, 3) := by decide +kernel
theorem dX5_listNodes_36 : decode cX5_listNodes 36 = .ok (.aload_n 0, 1) := by decide +kernel
theorem dX5_listNodes_37 : decode cX5_listNodes 37 = .ok (.getfield 50, 3) := by decide +kernel
theorem dX5_listNodes_40 : decode cX5_listNodes 40 = .ok (.bipush 31, 2) := by decide +kernel
theorem dX5_listNodes_42 : decode cX5_listNodes 42 = .ok (.if_icmp .ge 95, 3) := by decide +kernel
theorem dX5_listNodes_45 : decode cX5_listNodes 45 = .ok (.iinc 2 (-1), 3) := by decide +kernel
theorem dX5_listNodes_48 : decode cX5_listNodes 48 = .ok (.aload_n 0, 1) := by decide +kernel
theorem dX5_listNodes_49 : decode cX5_listNodes 49 = .ok (.getfield 18, 3) := by decide +kernel
theorem dX5_listNodes_52 : decode cX5_listNodes 52 = .ok (.iload_n 2, 1) := by decide +kernel
theorem dX5_listNodes_53 : decode cX5_listNodes 53 = .ok (.invokestatic 54, 3) := by decide +kernel
theorem dX5_listNodes_56 : decode cX5_listNodes 56 = .ok (.istore_n 3, 1) := by decide +kernel
theorem dX5_listNodes_57 : decode cX5_listNodes 57 = .ok (.aload_n 0, 1) := by decide +kernel
theorem dX5_listNodes_58 : decode cX5_listNodes 58 = .ok (.getfield 15, 3) := by decide +kernel
theorem dX5_listNodes_61 : decode cX5_listNodes 61 = .ok (.aload_n 0, 1) := by decide +kernel
theorem dX5_listNodes_62 : decode cX5_listNodes 62 = .ok (.getfield 50, 3) := by decide +kernel
theorem dX5_listNodes_65 : decode cX5_listNodes 65 = .ok (.iload_n 3, 1) := by decide +kernel
theorem dX5_listNodes_66 : decode cX5_listNodes 66 = .ok (.invokestatic 123, 3) := by decide +kernel
theorem dX5_listNodes_69 : decode cX5_listNodes 69 = .ok (.aload_n 0, 1) := by decide +kernel
theorem dX5_listNodes_70 : decode cX5_listNodes 70 = .ok (.dup, 1) := by decide +kernel
theorem dX5_listNodes_71 : decode cX5_listNodes 71 = .ok (.getfield 50, 3) := by decide +kernel
theorem dX5_listNodes_74 : decode cX5_listNodes 74 = .ok (.iconst 1, 1) := by decide +kernel
theorem dX5_listNodes_75 : decode cX5_listNodes 75 = .ok (.iadd, 1) := by decide +kernel
theorem dX5_listNodes_76 : decode cX5_listNodes 76 = .ok (.putfield 50, 3) := by decide +kernel
theorem dX5_listNodes_79 : decode cX5_listNodes 79 = .ok (.iload_n 3, 1) := by decide +kernel
theorem dX5_listNodes_80 : decode cX5_listNodes 80 = .ok (.invokestatic 75, 3) := by decide +kernel
theorem dX5_listNodes_83 : decode cX5_listNodes 83 = .ok (.ifCond .eq 51, 3) := by decide +kernel
theorem dX5_listNodes_86 : decode cX5_listNodes 86 = .ok (.aload_n 0, 1) := by decide +kernel
theorem dX5_listNodes_87 : decode cX5_listNodes 87 = .ok (.dup, 1) := by decide +kernel
theorem dX5_listNodes_88 : decode cX5_listNodes 88 = .ok (.getfield 86, 3) := by decide +kernel
theorem dX5_listNodes_91 : decode cX5_listNodes 91 = .ok (.iconst 1, 1) := by decide +kernel
theorem dX5_listNodes_92 : decode cX5_listNodes 92 = .ok (.iadd, 1) := by decide +kernel
theorem dX5_listNodes_93 : decode cX5_listNodes 93 = .ok (.putfield 86, 3) := by decide +kernel
theorem dX5_listNodes_96 : decode cX5_listNodes 96 = .ok (.aload_n 1, 1) := by decide +kernel
theorem dX5_listNodes_97 : decode cX5_listNodes 97 = .ok (.iload_n 3, 1) := by decide +kernel
theorem dX5_listNodes_98 : decode cX5_listNodes 98 = .ok (.invokevirtual 130, 3) := by decide +kernel
theorem dX5_listNodes_101 : decode cX5_listNodes 101 = .ok (.iconst 1, 1) := by decide +kernel
theorem dX5_listNodes_102 : decode cX5_listNodes 102 = .ok (.isub, 1) := by decide +kernel
theorem dX5_listNodes_103 : decode cX5_listNodes 103 = .ok (.istore 4, 2) := by decide +kernel
theorem dX5_listNodes_105 : decode cX5_listNodes 105 = .ok (.iload 4, 2) := by decide +kernel
theorem dX5_listNodes_107 : decode cX5_listNodes 107 = .ok (.ifCond .lt 27, 3) := by decide +kernel
theorem dX5_listNodes_110 : decode cX5_listNodes 110 = .ok (.aload_n 0, 1) := by decide +kernel
theorem dX5_listNodes_111 : decode cX5_listNodes 111 = .ok (.getfield 18, 3) := by decide +kernel
theorem dX5_listNodes_114 : decode cX5_listNodes 114 = .ok (.iload_n 2, 1) := by decide +kernel
theorem dX5_listNodes_115 : decode cX5_listNodes 115 = .ok (.aload_n 0, 1) := by decide +kernel
theorem dX5_listNodes_116 : decode cX5_listNodes 116 = .ok (.iload_n 3, 1) := by decide +kernel
theorem dX5_listNodes_117 : decode cX5_listNodes 117 = .ok (.iload 4, 2) := by decide +kernel
theorem dX5_listNodes_119 : decode cX5_listNodes 119 = .ok (.invokevirtual 127, 3) := by decide +kernel
theorem dX5_listNodes_122 : decode cX5_listNodes 122 = .ok (.invokestatic 123, 3) := by decide +kernel
theorem dX5_listNodes_125 : decode cX5_listNodes 125 = .ok (.iinc 2 1, 3) := by decide +kernel
theorem dX5_listNodes_128 : decode cX5_listNodes 128 = .ok (.iinc 4 (-1), 3) := by decide +kernel
theorem dX5_listNodes_131 : decode cX5_listNodes 131 = .ok (.goto (-26), 3) := by decide +kernel
theorem dX5_listNodes_134 : decode cX5_listNodes 134 = .ok (.goto (-102), 3) := by decide +kernel
theorem dX5_listNodes_137 : decode cX5_listNodes 137 = .ok (.return_, 1) := by decide +kernel
theorem hin_X5_listNodes_X5 : ∀ w ∈ wsX50, w ∈ wsX5_listNodes := by decide +kernel
theorem lk_X5_listNodes_50 : Cond.fieldLink RX5 50 RX5 "nodes" "I" ∈ wsX5_listNodes := by decide +kernel
theorem lk_X5_listNodes_86 : Cond.fieldLink RX5 86 RX5 "splits" "I" ∈ wsX5_listNodes := by decide +kernel
theorem lk_X5_listNodes_18 : Cond.fieldLink RX5 18 RX5 "waiting" "[I" ∈ wsX5_listNodes := by decide +kernel
theorem lk_X5_listNodes_15 : Cond.fieldLink RX5 15 RX5 "order" "[I" ∈ wsX5_listNodes := by decide +kernel
theorem c_listNodes (hG : GP G) (hP : PlanS S p) (hR : R32 P) (hL : LayS S b) (hA : LayAt mu b L) (hd : b + 8 < p ∨ p + 14 ≤ b + 1) (hC : ∀ i, -16777216 ≤ gL L 2 i ∧ gL L 2 i ≤ 16777216) : Ct G l yX5_listNodes wsX5_listNodes 2 0 0 [.ref p, .ref b] S n (putK mu p 14 P) la (Dt none S n (putK mu p 14 (lnF P L)) la) := by
  have o5 := hP.1
  have o4 := hL.1
  refine Ct.ofV (cc := cX5_listNodes) (nL := 5) (ret := none) [some (.ref p), some (.ref b), none, none, none] hG (by decide) rfl (Nat.le_of_ble_eq_true rfl) rfl ?_
  rintro X rfl rfl C hcl hsl E
  have loop : ∀ (m : Nat) (Q : Mem) (o : Int) (w3 w4 : Option Value), rK [some (.ref p), some (.ref b), some (.int (I32 o)), w3, w4] 4 = true → rK [some (.ref p), some (.ref b), some (.int (I32 o)), w3, w4] 3 = true → R32 Q → Q 0 9 = 31 - m → m ≤ 31 → -16777216 ≤ o → o ≤ 16777216 * (32 - m) → lnF P L = lnG L m Q o → V X 32 [some (.ref p), some (.ref b), some (.int (I32 o)), w3, w4] [] S n (putK mu p 14 Q) la 0 0 := by
    intro m
    induction m with
    | zero =>
      intro Q o w3 w4 hw4 hw3 hRQ h9 hm ho1 ho2 hr
      refine V_iload_n C dX5_listNodes_32 rfl ?_
      refine V_if_le C 137 dX5_listNodes_33 (by decide) (by omega) (fun q => ?_) (fun q => ?_)
      · refine V_return C E dX5_listNodes_137 (by omega) (by omega) ?_
        rw [hr]; exact Dt_rfl
      · refine V_aload_n C dX5_listNodes_36 rfl ?_
        refine V_getJ C 9 9 rfl dX5_listNodes_37 o5 rfl hin_X5_listNodes_X5 (by decide) lk_X5_listNodes_50 rfl rfl (putK_0 (by decide) _) ?_
        refine V_bipush C dX5_listNodes_40 (by decide +kernel) ?_
        rw [h9]
        refine V_icmp_ge C 137 dX5_listNodes_42 (by decide) (by omega) (by omega) (fun q2 => ?_) (fun q2 => ?_)
        · refine V_return C E dX5_listNodes_137 (by omega) (by omega) ?_
          rw [hr]; exact Dt_rfl
        · exact absurd q2 (by omega)
    | succ m ih =>
      intro Q o w3 w4 hw4 hw3 hRQ h9 hm ho1 ho2 hr
      refine V_iload_n C dX5_listNodes_32 rfl ?_
      refine V_if_le C 137 dX5_listNodes_33 (by decide) (by omega) (fun q => ?_) (fun q => ?_)
      · refine V_return C E dX5_listNodes_137 (by omega) (by omega) ?_
        rw [hr, lnG, if_pos q]; exact Dt_rfl
      · rw [lnG, if_neg (by omega)] at hr
        have bnd := R32_gK hRQ 3 31 (o - 1)
        have bs := spF_b (gK Q 3 31 (o - 1))
        have ho3 := lnS_o L Q (o - 1)
        have hR2 := lnS_R hRQ L (o - 1)
        have h92 := lnS_9 L Q (o - 1)
        rw [h9, wr_id (by omega)] at h92
        have hoB : (lnS L Q (o - 1)).2 ≤ 16777216 * (32 - m) := by
          rcases ho3.2 with z | ⟨i, z⟩
          · rw [z]; omega
          · have := hC i
            rw [z]; omega
        have nxt := fun w3 w4 hw4 hw3 => ih (lnS L Q (o - 1)).1 (lnS L Q (o - 1)).2 w3 w4 hw4 hw3 hR2 (by rw [h92]; omega) (by omega) (by omega) hoB hr
        refine V_aload_n C dX5_listNodes_36 rfl ?_
        refine V_getJ C 9 9 rfl dX5_listNodes_37 o5 rfl hin_X5_listNodes_X5 (by decide) lk_X5_listNodes_50 rfl rfl (putK_0 (by decide) _) ?_
        refine V_bipush C dX5_listNodes_40 (by decide +kernel) ?_
        rw [h9]
        refine V_icmp_ge C 137 dX5_listNodes_42 (by decide) (by omega) (by omega) (fun q2 => ?_) (fun q2 => ?_)
        · exact absurd q2 (by omega)
        · refine V_iinc C dX5_listNodes_45 rfl rfl (by decide) ?_
          rw [show o + -1 = o - 1 by omega]
          refine V_aload_n C dX5_listNodes_48 rfl ?_
          refine V_getR C 2 dX5_listNodes_49 o5 rfl hin_X5_listNodes_X5 (by decide) lk_X5_listNodes_18 rfl rfl ?_
          refine V_iload_n C dX5_listNodes_52 rfl ?_
          refine V_callSND (nA := 2) (host := "DockTree") C dX5_listNodes_53 (c_aK C.gp hP 3 31 rfl (by decide)) gX5_listNodes_X8_at_n54 (by decide +kernel) (by decide +kernel) (by decide +kernel) rfl (by decide +kernel) rfl (by decide) (by decide) (Nat.le_of_ble_eq_true rfl) ⟨by omega, by omega⟩ rfl ?_
          refine V_istore_n C dX5_listNodes_56 rfl (by decide) ?_
          refine V_aload_n C dX5_listNodes_57 rfl ?_
          refine V_getR C 1 dX5_listNodes_58 o5 rfl hin_X5_listNodes_X5 (by decide) lk_X5_listNodes_15 rfl rfl ?_
          refine V_aload_n C dX5_listNodes_61 rfl ?_
          refine V_getJ C 9 9 rfl dX5_listNodes_62 o5 rfl hin_X5_listNodes_X5 (by decide) lk_X5_listNodes_50 rfl rfl (putK_0 (by decide) _) ?_
          refine V_iload_n C dX5_listNodes_65 rfl ?_
          refine V_callSND (nA := 3) (host := "DockTree") C dX5_listNodes_66 (c_pK C.gp hP 2 31 rfl (by decide)) gX5_listNodes_X8_put_n123 (by decide +kernel) (by decide +kernel) (by decide +kernel) rfl (by decide +kernel) rfl (by decide) (by decide) (Nat.le_of_ble_eq_true rfl) ⟨by omega, by omega⟩ rfl ?_
          refine V_aload_n C dX5_listNodes_69 rfl ?_
          refine V_dup C dX5_listNodes_70 rfl ?_
          refine V_getJ C 9 9 rfl dX5_listNodes_71 o5 rfl hin_X5_listNodes_X5 (by decide) lk_X5_listNodes_50 rfl rfl (putK_0 (by decide) _) ?_
          refine V_iconst C dX5_listNodes_74 ?_
          refine V_iadd C dX5_listNodes_75 ?_
          rw [sK_ne (by decide)]
          refine V_wr ?_
          refine V_putJ C 9 9 rfl dX5_listNodes_76 o5 rfl hin_X5_listNodes_X5 tyX5 tyX5_ok nmX5 (by decide) lk_X5_listNodes_50 rfl rfl (by decide +kernel) rfl (up_putK0 (by decide) _ _) ?_
          refine V_iload_n C dX5_listNodes_79 rfl ?_
          refine V_callSND (nA := 1) (host := "DockTree") C dX5_listNodes_80 (c_isSplit C.gp (by omega)) gX5_listNodes_X8_isSplit_n75 (by decide +kernel) (by decide +kernel) (by decide +kernel) rfl (by decide +kernel) rfl (by decide) (by decide) (Nat.le_of_ble_eq_true rfl) ⟨by omega, by omega⟩ rfl ?_
          refine V_if_eq C 134 dX5_listNodes_83 (by decide) (by omega) (fun q3 => ?_) (fun q3 => ?_)
          · have hn : ¬ (32 ≤ gK Q 3 31 (o - 1) ∧ gK Q 3 31 (o - 1) < 47) := fun z => spF_1.mpr z q3
            unfold lnS at nxt
            dsimp only at nxt
            rw [if_neg hn] at nxt
            refine V_goto C 32 dX5_listNodes_134 (by decide) ?_
            exact nxt _ _ rfl rfl
          · have hy : 32 ≤ gK Q 3 31 (o - 1) ∧ gK Q 3 31 (o - 1) < 47 := spF_1.mp q3
            unfold lnS at nxt
            dsimp only at nxt
            rw [if_pos hy] at nxt
            have hcb := hC (gK Q 3 31 (o - 1))
            refine V_aload_n C dX5_listNodes_86 rfl ?_
            refine V_dup C dX5_listNodes_87 rfl ?_
            refine V_getJ C 10 10 rfl dX5_listNodes_88 o5 rfl hin_X5_listNodes_X5 (by decide) lk_X5_listNodes_86 rfl rfl (putK_0 (by decide) _) ?_
            refine V_iconst C dX5_listNodes_91 ?_
            refine V_iadd C dX5_listNodes_92 ?_
            rw [up_i _ _ _ (by decide), sK_ne (by decide)]
            refine V_wr ?_
            refine V_putJ C 10 10 rfl dX5_listNodes_93 o5 rfl hin_X5_listNodes_X5 tyX5 tyX5_ok nmX5 (by decide) lk_X5_listNodes_86 rfl rfl (by decide +kernel) rfl (up_putK0 (by decide) _ _) ?_
            refine V_aload_n C dX5_listNodes_96 rfl ?_
            refine V_iload_n C dX5_listNodes_97 rfl ?_
            refine V_callVD (nA := 1) C dX5_listNodes_98 (r_countOf C.gp hL (LayAt_putK hA hd)) gX5_listNodes_X4_countOf rfl o4 rfl (by decide +kernel) rfl (by decide) (by decide) (Nat.le_of_ble_eq_true rfl) ⟨by omega, by omega⟩ rfl ?_
            refine V_iconst C dX5_listNodes_101 ?_
            refine V_isub C dX5_listNodes_102 ?_
            refine V_istore C dX5_listNodes_103 rfl (by decide) ?_
            have inner : ∀ (r : Nat) (Q2 : Mem) (o2 k2 : Int), R32 Q2 → k2 + 1 = r → r ≤ 16777216 → -16777216 ≤ o2 → o2 + r ≤ 16777216 * 33 → (∀ w4 : Option Value, rK [some (.ref p), some (.ref b), some (.int (I32 o2)), some (.int (I32 (gK Q 3 31 (o - 1)))), w4] 4 = true → V X 32 [some (.ref p), some (.ref b), some (.int (I32 (psH (gK Q 3 31 (o - 1)) r Q2 o2).2)), some (.int (I32 (gK Q 3 31 (o - 1)))), w4] [] S n (putK mu p 14 (psH (gK Q 3 31 (o - 1)) r Q2 o2).1) la 0 0) → V X 105 [some (.ref p), some (.ref b), some (.int (I32 o2)), some (.int (I32 (gK Q 3 31 (o - 1)))), some (.int (I32 k2))] [] S n (putK mu p 14 Q2) la 0 0 := by
              intro r
              induction r with
              | zero =>
                intro Q2 o2 k2 hRQ2 hk hr2 ho hor hx
                refine V_iload C dX5_listNodes_105 rfl ?_
                refine V_if_lt C 134 dX5_listNodes_107 (by decide) (by omega) (fun z => ?_) (fun z => ?_)
                · refine V_goto C 32 dX5_listNodes_134 (by decide) ?_
                  exact hx _ rfl
                · exact absurd z (by omega)
              | succ r ih2 =>
                intro Q2 o2 k2 hRQ2 hk hr2 ho hor hx
                have ek : k2 = r := by omega
                refine V_iload C dX5_listNodes_105 rfl ?_
                refine V_if_lt C 134 dX5_listNodes_107 (by decide) (by omega) (fun z => ?_) (fun z => ?_)
                · exact absurd z (by omega)
                · refine V_aload_n C dX5_listNodes_110 rfl ?_
                  refine V_getR C 2 dX5_listNodes_111 o5 rfl hin_X5_listNodes_X5 (by decide) lk_X5_listNodes_18 rfl rfl ?_
                  refine V_iload_n C dX5_listNodes_114 rfl ?_
                  refine V_aload_n C dX5_listNodes_115 rfl ?_
                  refine V_iload_n C dX5_listNodes_116 rfl ?_
                  refine V_iload C dX5_listNodes_117 rfl ?_
                  refine V_callVD (nA := 2) C dX5_listNodes_119 (c_memberOf C.gp hP (by omega)) gX5_listNodes_X5_memberOf rfl o5 rfl (by decide +kernel) rfl (by decide) (by decide) (Nat.le_of_ble_eq_true rfl) ⟨by omega, by omega⟩ rfl ?_
                  refine V_callSND (nA := 3) (host := "DockTree") C dX5_listNodes_122 (c_pK C.gp hP 3 31 rfl (by decide)) gX5_listNodes_X8_put_n123 (by decide +kernel) (by decide +kernel) (by decide +kernel) rfl (by decide +kernel) rfl (by decide) (by decide) (Nat.le_of_ble_eq_true rfl) ⟨by omega, by omega⟩ rfl ?_
                  refine V_iinc C dX5_listNodes_125 rfl rfl (by decide) ?_
                  refine V_iinc C dX5_listNodes_128 rfl rfl (by decide) ?_
                  refine V_goto C 105 dX5_listNodes_131 (by decide) ?_
                  refine ih2 _ (o2 + 1) (k2 + -1) (R32_sK hRQ2 _ _ _ _) (by omega) (by omega) (by omega) (by omega) ?_
                  intro w4 hw4
                  rw [ek]
                  exact hx w4 rfl
            rcases Int.lt_or_le (gL L 2 (gK Q 3 31 (o - 1))) 0 with z | z
            · rw [show (gL L 2 (gK Q 3 31 (o - 1))).toNat = 0 by omega] at nxt
              refine V_iload C dX5_listNodes_105 rfl ?_
              refine V_if_lt C 134 dX5_listNodes_107 (by decide) (by omega) (fun z2 => ?_) (fun z2 => ?_)
              · refine V_goto C 32 dX5_listNodes_134 (by decide) ?_
                exact nxt _ _ rfl rfl
              · exact absurd z2 (by omega)
            · exact inner (gL L 2 (gK Q 3 31 (o - 1))).toNat _ _ _ (R32_up (R32_up (R32_sK hRQ _ _ _ _) _ _ (wr_b _)) _ _ (wr_b _)) (by omega) (by omega) (by omega) (by omega) (fun w4 hw4 => nxt _ _ rfl rfl)
  refine V_aload_n C dX5_listNodes_0 rfl ?_
  refine V_iconst C dX5_listNodes_1 ?_
  refine V_putJ C 9 9 rfl dX5_listNodes_2 o5 rfl hin_X5_listNodes_X5 tyX5 tyX5_ok nmX5 (by decide) lk_X5_listNodes_50 rfl rfl (by decide +kernel) rfl (up_putK0 (by decide) _ _) ?_
  refine V_aload_n C dX5_listNodes_5 rfl ?_
  refine V_iconst C dX5_listNodes_6 ?_
  refine V_putJ C 10 10 rfl dX5_listNodes_7 o5 rfl hin_X5_listNodes_X5 tyX5 tyX5_ok nmX5 (by decide) lk_X5_listNodes_86 rfl rfl (by decide +kernel) rfl (up_putK0 (by decide) _ _) ?_
  refine V_aload_n C dX5_listNodes_10 rfl ?_
  refine V_getR C 2 dX5_listNodes_11 o5 rfl hin_X5_listNodes_X5 (by decide) lk_X5_listNodes_18 rfl rfl ?_
  refine V_iconst C dX5_listNodes_14 ?_
  refine V_aload_n C dX5_listNodes_15 rfl ?_
  refine V_bipush C dX5_listNodes_16 (by decide +kernel) ?_
  refine V_iconst C dX5_listNodes_18 ?_
  refine V_callVD (nA := 2) C dX5_listNodes_19 (c_memberOf C.gp hP (by omega)) gX5_listNodes_X5_memberOf rfl o5 rfl (by decide +kernel) rfl (by decide) (by decide) (Nat.le_of_ble_eq_true rfl) ⟨by omega, by omega⟩ rfl ?_
  rw [mo_up0, mo_up0]
  refine V_callSND (nA := 3) (host := "DockTree") C dX5_listNodes_22 (c_pK C.gp hP 3 31 rfl (by decide)) gX5_listNodes_X8_put_n123 (by decide +kernel) (by decide +kernel) (by decide +kernel) rfl (by decide +kernel) rfl (by decide) (by decide) (Nat.le_of_ble_eq_true rfl) ⟨by omega, by omega⟩ rfl ?_
  refine V_aload_n C dX5_listNodes_25 rfl ?_
  refine V_bipush C dX5_listNodes_26 (by decide +kernel) ?_
  refine V_callVD (nA := 1) C dX5_listNodes_28 (r_countOf C.gp hL (LayAt_putK hA hd)) gX5_listNodes_X4_countOf rfl o4 rfl (by decide +kernel) rfl (by decide) (by decide) (Nat.le_of_ble_eq_true rfl) ⟨by omega, by omega⟩ rfl ?_
  refine V_istore_n C dX5_listNodes_31 rfl (by decide) ?_
  have hc47 := hC 47
  exact loop 31 (lnI P) (gL L 2 47) none none rfl rfl (R32_sK (R32_up (R32_up hR _ _ (by omega)) _ _ (by omega)) _ _ _ _) (by rw [lnI, sK_ne (by decide), up_i _ _ _ (by decide), up_s]; rfl) (by omega) (by omega) (by omega) rfl
/-- a node's least size -/
def msO (P : Mem) (f : Int → Int) (nd ax : Int) (j : Int) : Int := if 32 ≤ nd ∧ nd < 47 then gK P 4 98 (2 * mo P nd j + ax) else gR f 32 (2 * mo P nd j + ax)
def msG (P : Mem) (f : Int → Int) (nd ax : Int) : Nat → Int × Int
  | 0 => (0, 0)
  | j + 1 => (wr ((msG P f nd ax j).1 + msO P f nd ax j), max (msG P f nd ax j).2 (msO P f nd ax j))
def msE (P L : Mem) (f : Int → Int) (nd ax : Int) : Int :=
  let c := gL L 2 nd
  let g := msG P f nd ax c.toNat
  if (32 ≤ nd ∧ nd < 47) ∧ gL L 5 (nd - 32) = ax then g.1 + c - 1 else if ¬ (32 ≤ nd ∧ nd < 47) ∧ ax = 1 then g.2 + 1 else g.2
def msF (P L : Mem) (f : Int → Int) (nd ax : Int) : Mem := sK P 4 98 (2 * nd + ax) (msE P L f nd ax)
def F32 (f : Int → Int) : Prop := ∀ i, -2147483648 ≤ f i ∧ f i ≤ 2147483647
theorem gR_b {f : Int → Int} (h : F32 f) (m : Nat) (i : Int) : -2147483648 ≤ gR f m i ∧ gR f m i ≤ 2147483647 := by
  unfold gR
  split
  · exact h _
  · omega
theorem msO_b {P : Mem} (h : R32 P) {f : Int → Int} (hf : F32 f) (nd ax j : Int) : -2147483648 ≤ msO P f nd ax j ∧ msO P f nd ax j ≤ 2147483647 := by
  unfold msO
  split
  · exact R32_gK h _ _ _
  · exact gR_b hf _ _
theorem msG_b {P : Mem} (h : R32 P) {f : Int → Int} (hf : F32 f) (nd ax : Int) : ∀ j, (-2147483648 ≤ (msG P f nd ax j).1 ∧ (msG P f nd ax j).1 ≤ 2147483647) ∧ (-2147483648 ≤ (msG P f nd ax j).2 ∧ (msG P f nd ax j).2 ≤ 2147483647)
  | 0 => by show (_ ≤ (0 : Int) ∧ (0 : Int) ≤ _) ∧ (_ ≤ (0 : Int) ∧ (0 : Int) ≤ _); omega
  | j + 1 => by
    have h1 := msG_b h hf nd ax j
    have h2 := msO_b h hf nd ax j
    refine ⟨wr_b _, ?_⟩
    show _ ≤ max _ _ ∧ max _ _ ≤ _
    omega
set_option maxRecDepth 20000 in
theorem ggX5_measure_X8_isSplit : GoodIn wsX5_measure wsX8_isSplit := goodIn_r _ [8] (by decide +kernel) (by decide +kernel)
set_option maxRecDepth 20000 in
theorem gX5_measure_X8_isSplit_n75 : GoodIn wsX5_measure (wsX8_isSplit) := ggX5_measure_X8_isSplit
set_option maxRecDepth 20000 in
theorem ggX5_measure_X4_countOf : GoodIn wsX5_measure wsX4_countOf := goodIn_r _ [13, 14, 15, 7, 16, 43, 44, 45, 46, 47, 48, 49, 50] (by decide +kernel) (by decide +kernel)
set_option maxRecDepth 20000 in
theorem gX5_measure_X4_countOf : GoodIn wsX5_measure (wsV RX5 130 RX4 yX4_countOf wsX4_countOf) := goodIn_app (goodIn_of _ (by decide +kernel)) ggX5_measure_X4_countOf
set_option maxRecDepth 20000 in
theorem ggX5_measure_X5_memberOf : GoodIn wsX5_measure wsX5_memberOf := goodIn_r _ [21, 22, 15, 7, 16, 30, 31, 32, 33, 34, 35, 36, 37, 38, 39, 40, 41, 42] (by decide +kernel) (by decide +kernel)
set_option maxRecDepth 20000 in
theorem gX5_measure_X5_memberOf : GoodIn wsX5_measure (wsV RX5 127 RX5 yX5_memberOf wsX5_memberOf) := goodIn_app (goodIn_of _ (by decide +kernel)) ggX5_measure_X5_memberOf
set_option maxRecDepth 20000 in
theorem ggX5_measure_X8_at : GoodIn wsX5_measure wsX8_at := goodIn_r _ [16] (by decide +kernel) (by decide +kernel)
set_option maxRecDepth 20000 in
theorem gX5_measure_X8_at_n54 : GoodIn wsX5_measure (wsX8_at) := ggX5_measure_X8_at
set_option maxRecDepth 20000 in
theorem ggX5_measure_X4_axisOf : GoodIn wsX5_measure wsX4_axisOf := goodIn_r _ [26, 27, 15, 7, 16, 43, 44, 45, 46, 47, 48, 49, 50] (by decide +kernel) (by decide +kernel)
set_option maxRecDepth 20000 in
theorem gX5_measure_X4_axisOf : GoodIn wsX5_measure (wsV RX5 133 RX4 yX4_axisOf wsX4_axisOf) := goodIn_app (goodIn_of _ (by decide +kernel)) ggX5_measure_X4_axisOf
set_option maxRecDepth 20000 in
theorem ggX5_measure_X8_put : GoodIn wsX5_measure wsX8_put := goodIn_r _ [29] (by decide +kernel) (by decide +kernel)
set_option maxRecDepth 20000 in
theorem gX5_measure_X8_put_n123 : GoodIn wsX5_measure (wsX8_put) := ggX5_measure_X8_put
theorem dX5_measure_0 : decode cX5_measure 0 = .ok (.iload_n 3, 1) := by decide +kernel
theorem dX5_measure_1 : decode cX5_measure 1 = .ok (.invokestatic 75, 3) := by decide +kernel
theorem dX5_measure_4 : decode cX5_measure 4 = .ok (.ifCond .eq 10, 3) := by decide +kernel
theorem dX5_measure_7 : decode cX5_measure 7 = .ok (.aload_n 0, 1) := by decide +kernel
theorem dX5_measure_8 : decode cX5_measure 8 = .ok (.getfield 21, 3) := by decide +kernel
theorem dX5_measure_11 : decode cX5_measure 11 = .ok (.goto 4, 3) := by decide +kernel
theorem dX5_measure_14 : decode cX5_measure 14 = .ok (.aload_n 2, 1) := by decide +kernel
theorem dX5_measure_15 : decode cX5_measure 15 = .ok (.astore 5, 2) := by decide +kernel
theorem dX5_measure_17 : decode cX5_measure 17 = .ok (.aload_n 1, 1) := by decide +kernel
theorem dX5_measure_18 : decode cX5_measure 18 = .ok (.iload_n 3, 1) := by decide +kernel
theorem dX5_measure_19 : decode cX5_measure 19 = .ok (.invokevirtual 130, 3) := by decide +kernel
theorem dX5_measure_22 : decode cX5_measure 22 = .ok (.istore 6, 2) := by decide +kernel
theorem dX5_measure_24 : decode cX5_measure 24 = .ok (.iconst 0, 1) := by decide +kernel
theorem dX5_measure_25 : decode cX5_measure 25 = .ok (.istore 7, 2) := by decide +kernel
theorem dX5_measure_27 : decode cX5_measure 27 = .ok (.iconst 0, 1) := by decide +kernel
theorem dX5_measure_28 : decode cX5_measure 28 = .ok (.istore 8, 2) := by decide +kernel
theorem dX5_measure_30 : decode cX5_measure 30 = .ok (.iconst 0, 1) := by decide +kernel
theorem dX5_measure_31 : decode cX5_measure 31 = .ok (.istore 9, 2) := by decide +kernel
theorem dX5_measure_33 : decode cX5_measure 33 = .ok (.iload 9, 2) := by decide +kernel
theorem dX5_measure_35 : decode cX5_measure 35 = .ok (.iload 6, 2) := by decide +kernel
theorem dX5_measure_37 : decode cX5_measure 37 = .ok (.if_icmp .ge 44, 3) := by decide +kernel
theorem dX5_measure_40 : decode cX5_measure 40 = .ok (.aload 5, 2) := by decide +kernel
theorem dX5_measure_42 : decode cX5_measure 42 = .ok (.iconst 2, 1) := by decide +kernel
theorem dX5_measure_43 : decode cX5_measure 43 = .ok (.aload_n 0, 1) := by decide +kernel
theorem dX5_measure_44 : decode cX5_measure 44 = .ok (.iload_n 3, 1) := by decide +kernel
theorem dX5_measure_45 : decode cX5_measure 45 = .ok (.iload 9, 2) := by decide +kernel
theorem dX5_measure_47 : decode cX5_measure 47 = .ok (.invokevirtual 127, 3) := by decide +kernel
theorem dX5_measure_50 : decode cX5_measure 50 = .ok (.imul, 1) := by decide +kernel
theorem dX5_measure_51 : decode cX5_measure 51 = .ok (.iload 4, 2) := by decide +kernel
theorem dX5_measure_53 : decode cX5_measure 53 = .ok (.iadd, 1) := by decide +kernel
theorem dX5_measure_54 : decode cX5_measure 54 = .ok (.invokestatic 54, 3) := by decide +kernel
theorem dX5_measure_57 : decode cX5_measure 57 = .ok (.istore 10, 2) := by decide +kernel
theorem dX5_measure_59 : decode cX5_measure 59 = .ok (.iload 7, 2) := by decide +kernel
theorem dX5_measure_61 : decode cX5_measure 61 = .ok (.iload 10, 2) := by decide +kernel
theorem dX5_measure_63 : decode cX5_measure 63 = .ok (.iadd, 1) := by decide +kernel
theorem dX5_measure_64 : decode cX5_measure 64 = .ok (.istore 7, 2) := by decide +kernel
theorem dX5_measure_66 : decode cX5_measure 66 = .ok (.iload 8, 2) := by decide +kernel
theorem dX5_measure_68 : decode cX5_measure 68 = .ok (.iload 10, 2) := by decide +kernel
theorem dX5_measure_70 : decode cX5_measure 70 = .ok (.invokestatic 96, 3) := by decide +kernel
theorem dX5_measure_73 : decode cX5_measure 73 = .ok (.istore 8, 2) := by decide +kernel
theorem dX5_measure_75 : decode cX5_measure 75 = .ok (.iinc 9 1, 3) := by decide +kernel
theorem dX5_measure_78 : decode cX5_measure 78 = .ok (.goto (-45), 3) := by decide +kernel
theorem dX5_measure_81 : decode cX5_measure 81 = .ok (.iload 8, 2) := by decide +kernel
theorem dX5_measure_83 : decode cX5_measure 83 = .ok (.istore 9, 2) := by decide +kernel
theorem dX5_measure_85 : decode cX5_measure 85 = .ok (.iload_n 3, 1) := by decide +kernel
theorem dX5_measure_86 : decode cX5_measure 86 = .ok (.invokestatic 75, 3) := by decide +kernel
theorem dX5_measure_89 : decode cX5_measure 89 = .ok (.ifCond .eq 25, 3) := by decide +kernel
theorem dX5_measure_92 : decode cX5_measure 92 = .ok (.aload_n 1, 1) := by decide +kernel
theorem dX5_measure_93 : decode cX5_measure 93 = .ok (.iload_n 3, 1) := by decide +kernel
theorem dX5_measure_94 : decode cX5_measure 94 = .ok (.invokevirtual 133, 3) := by decide +kernel
theorem dX5_measure_97 : decode cX5_measure 97 = .ok (.iload 4, 2) := by decide +kernel
theorem dX5_measure_99 : decode cX5_measure 99 = .ok (.if_icmp .ne 15, 3) := by decide +kernel
theorem dX5_measure_102 : decode cX5_measure 102 = .ok (.iload 7, 2) := by decide +kernel
theorem dX5_measure_104 : decode cX5_measure 104 = .ok (.iload 6, 2) := by decide +kernel
theorem dX5_measure_106 : decode cX5_measure 106 = .ok (.iadd, 1) := by decide +kernel
theorem dX5_measure_107 : decode cX5_measure 107 = .ok (.iconst 1, 1) := by decide +kernel
theorem dX5_measure_108 : decode cX5_measure 108 = .ok (.isub, 1) := by decide +kernel
theorem dX5_measure_109 : decode cX5_measure 109 = .ok (.istore 9, 2) := by decide +kernel
theorem dX5_measure_111 : decode cX5_measure 111 = .ok (.goto 22, 3) := by decide +kernel
theorem dX5_measure_114 : decode cX5_measure 114 = .ok (.iload_n 3, 1) := by decide +kernel
theorem dX5_measure_115 : decode cX5_measure 115 = .ok (.invokestatic 75, 3) := by decide +kernel
theorem dX5_measure_118 : decode cX5_measure 118 = .ok (.ifCond .ne 15, 3) := by decide +kernel
theorem dX5_measure_121 : decode cX5_measure 121 = .ok (.iload 4, 2) := by decide +kernel
theorem dX5_measure_123 : decode cX5_measure 123 = .ok (.iconst 1, 1) := by decide +kernel
theorem dX5_measure_124 : decode cX5_measure 124 = .ok (.if_icmp .ne 9, 3) := by decide +kernel
theorem dX5_measure_127 : decode cX5_measure 127 = .ok (.iload 8, 2) := by decide +kernel
theorem dX5_measure_129 : decode cX5_measure 129 = .ok (.iconst 1, 1) := by decide +kernel
theorem dX5_measure_130 : decode cX5_measure 130 = .ok (.iadd, 1) := by decide +kernel
theorem dX5_measure_131 : decode cX5_measure 131 = .ok (.istore 9, 2) := by decide +kernel
theorem dX5_measure_133 : decode cX5_measure 133 = .ok (.aload_n 0, 1) := by decide +kernel
theorem dX5_measure_134 : decode cX5_measure 134 = .ok (.getfield 21, 3) := by decide +kernel
theorem dX5_measure_137 : decode cX5_measure 137 = .ok (.iconst 2, 1) := by decide +kernel
theorem dX5_measure_138 : decode cX5_measure 138 = .ok (.iload_n 3, 1) := by decide +kernel
theorem dX5_measure_139 : decode cX5_measure 139 = .ok (.imul, 1) := by decide +kernel
theorem dX5_measure_140 : decode cX5_measure 140 = .ok (.iload 4, 2) := by decide +kernel
theorem dX5_measure_142 : decode cX5_measure 142 = .ok (.iadd, 1) := by decide +kernel
theorem dX5_measure_143 : decode cX5_measure 143 = .ok (.iload 9, 2) := by decide +kernel
theorem dX5_measure_145 : decode cX5_measure 145 = .ok (.invokestatic 123, 3) := by decide +kernel
theorem dX5_measure_148 : decode cX5_measure 148 = .ok (.return_, 1) := by decide +kernel
theorem hin_X5_measure_X5 : ∀ w ∈ wsX50, w ∈ wsX5_measure := by decide +kernel
theorem lk_X5_measure_21 : Cond.fieldLink RX5 21 RX5 "least" "[I" ∈ wsX5_measure := by decide +kernel
theorem c_measure (hG : GP G) (hP : PlanS S p) (hR : R32 P) (hL : LayS S b) (hA : LayAt mu b L) (hd : b + 8 < p ∨ p + 14 ≤ b + 1) (hRL : R32 L) {q : Nat} {f : Int → Int} (hq : hasS S q (.inl (0, 32))) (hqd : q < p ∨ p + 14 ≤ q) (hqf : ∀ i, mu q i = f i) (hf : F32 f) {nd ax : Int} (hnd : -2147483648 ≤ nd ∧ nd ≤ 2147483647) (hax : 0 ≤ ax ∧ ax ≤ 1) : Ct G l yX5_measure wsX5_measure 2 0 0 [.ref p, .ref b, .ref q, .int (I32 nd), .int (I32 ax)] S n (putK mu p 14 P) la (Dt none S n (putK mu p 14 (msF P L f nd ax)) la) := by
  have o5 := hP.1
  have o4 := hL.1
  have bc := gL_b hRL 2 nd
  have b5 := gL_b hRL 5 (nd - 32)
  have bs := spF_b nd
  refine Ct.ofV (cc := cX5_measure) (nL := 11) (ret := none) [some (.ref p), some (.ref b), some (.ref q), some (.int (I32 nd)), some (.int (I32 ax)), none, none, none, none, none, none] hG (by decide) rfl (Nat.le_of_ble_eq_true rfl) rfl ?_
  rintro X rfl rfl C hcl hsl E
  have main : ∀ w : Nat, (∀ i : Int, Ct (xG X) (xL X) yX8_at wsX8_at 0 0 0 [.ref w, .int (I32 (2 * mo P nd i + ax))] S n (putK mu p 14 P) la (Dt (some (.int (I32 (msO P f nd ax i)))) S n (putK mu p 14 P) la)) → V X 15 [some (.ref p), some (.ref b), some (.ref q), some (.int (I32 nd)), some (.int (I32 ax)), none, none, none, none, none, none] [.ref w] S n (putK mu p 14 P) la 0 0 := by
    intro w hw
    have out : ∀ (x : Int) (w9 : Option Value), x = msE P L f nd ax → V X 133 [some (.ref p), some (.ref b), some (.ref q), some (.int (I32 nd)), some (.int (I32 ax)), some (.ref w), some (.int (I32 (gL L 2 nd))), some (.int (I32 (msG P f nd ax (gL L 2 nd).toNat).1)), some (.int (I32 (msG P f nd ax (gL L 2 nd).toNat).2)), some (.int (I32 x)), w9] [] S n (putK mu p 14 P) la 0 0 := by
      intro x w9 hx
      refine V_aload_n C dX5_measure_133 rfl ?_
      refine V_getR C 3 dX5_measure_134 o5 rfl hin_X5_measure_X5 (by decide) lk_X5_measure_21 rfl rfl ?_
      refine V_iconst C dX5_measure_137 ?_
      refine V_iload_n C dX5_measure_138 rfl ?_
      refine V_imul C dX5_measure_139 ?_
      refine V_iload C dX5_measure_140 rfl ?_
      refine V_iadd C dX5_measure_142 ?_
      refine V_iload C dX5_measure_143 rfl ?_
      refine V_callSND (nA := 3) (host := "DockTree") C dX5_measure_145 (c_pK C.gp hP 4 98 rfl (by decide)) gX5_measure_X8_put_n123 (by decide +kernel) (by decide +kernel) (by decide +kernel) rfl (by decide +kernel) rfl (by decide) (by decide) (Nat.le_of_ble_eq_true rfl) ⟨by omega, by omega⟩ rfl ?_
      refine V_return C E dX5_measure_148 (by omega) (by omega) ?_
      rw [msF, ← hx]; exact Dt_rfl
    have loop : ∀ (d j : Nat) (w9 : Option Value), j + d = (gL L 2 nd).toNat → V X 33 [some (.ref p), some (.ref b), some (.ref q), some (.int (I32 nd)), some (.int (I32 ax)), some (.ref w), some (.int (I32 (gL L 2 nd))), some (.int (I32 (msG P f nd ax j).1)), some (.int (I32 (msG P f nd ax j).2)), some (.int (I32 (j : Int))), w9] [] S n (putK mu p 14 P) la 0 0 := by
      intro d
      induction d with
      | zero =>
        intro j w9 hj
        have e : j = (gL L 2 nd).toNat := by omega
        refine V_iload C dX5_measure_33 rfl ?_
        refine V_iload C dX5_measure_35 rfl ?_
        refine V_icmp_ge C 81 dX5_measure_37 (by decide) (by omega) (by omega) (fun z => ?_) (fun z => ?_)
        · rw [e]
          refine V_iload C dX5_measure_81 rfl ?_
          refine V_istore C dX5_measure_83 rfl (by decide) ?_
          refine V_iload_n C dX5_measure_85 rfl ?_
          refine V_callSND (nA := 1) (host := "DockTree") C dX5_measure_86 (c_isSplit C.gp (by omega)) gX5_measure_X8_isSplit_n75 (by decide +kernel) (by decide +kernel) (by decide +kernel) rfl (by decide +kernel) rfl (by decide) (by decide) (Nat.le_of_ble_eq_true rfl) ⟨by omega, by omega⟩ rfl ?_
          have second : msE P L f nd ax = (if ¬ (32 ≤ nd ∧ nd < 47) ∧ ax = 1 then (msG P f nd ax (gL L 2 nd).toNat).2 + 1 else (msG P f nd ax (gL L 2 nd).toNat).2) → V X 114 [some (.ref p), some (.ref b), some (.ref q), some (.int (I32 nd)), some (.int (I32 ax)), some (.ref w), some (.int (I32 (gL L 2 nd))), some (.int (I32 (msG P f nd ax (gL L 2 nd).toNat).1)), some (.int (I32 (msG P f nd ax (gL L 2 nd).toNat).2)), some (.int (I32 (msG P f nd ax (gL L 2 nd).toNat).2)), w9] [] S n (putK mu p 14 P) la 0 0 := by
            intro he
            refine V_iload_n C dX5_measure_114 rfl ?_
            refine V_callSND (nA := 1) (host := "DockTree") C dX5_measure_115 (c_isSplit C.gp (by omega)) gX5_measure_X8_isSplit_n75 (by decide +kernel) (by decide +kernel) (by decide +kernel) rfl (by decide +kernel) rfl (by decide) (by decide) (Nat.le_of_ble_eq_true rfl) ⟨by omega, by omega⟩ rfl ?_
            refine V_if_ne C 133 dX5_measure_118 (by decide) (by omega) (fun z1 => ?_) (fun z1 => ?_)
            · exact out _ _ (by rw [he, if_neg (fun y => y.1 (spF_1.mp z1))])
            · refine V_iload C dX5_measure_121 rfl ?_
              refine V_iconst C dX5_measure_123 ?_
              refine V_icmp_ne C 133 dX5_measure_124 (by decide) (by omega) (by omega) (fun z2 => ?_) (fun z2 => ?_)
              · exact out _ _ (by rw [he, if_neg (fun y => z2 y.2)])
              · refine V_iload C dX5_measure_127 rfl ?_
                refine V_iconst C dX5_measure_129 ?_
                refine V_iadd C dX5_measure_130 ?_
                refine V_istore C dX5_measure_131 rfl (by decide) ?_
                exact out _ _ (by rw [he, if_pos ⟨fun y => spF_1.mpr y z1, z2⟩])
          refine V_if_eq C 114 dX5_measure_89 (by decide) (by omega) (fun z1 => ?_) (fun z1 => ?_)
          · exact second (by rw [msE, if_neg (fun y => spF_1.mpr y.1 z1)])
          · refine V_aload_n C dX5_measure_92 rfl ?_
            refine V_iload_n C dX5_measure_93 rfl ?_
            refine V_callVD (nA := 1) C dX5_measure_94 (r_axisOf C.gp hL (LayAt_putK hA hd)) gX5_measure_X4_axisOf rfl o4 rfl (by decide +kernel) rfl (by decide) (by decide) (Nat.le_of_ble_eq_true rfl) ⟨by omega, by omega⟩ rfl ?_
            refine V_iload C dX5_measure_97 rfl ?_
            refine V_icmp_ne C 114 dX5_measure_99 (by decide) (by omega) (by omega) (fun z2 => ?_) (fun z2 => ?_)
            · exact second (by rw [msE, if_neg (fun y => z2 y.2)])
            · refine V_iload C dX5_measure_102 rfl ?_
              refine V_iload C dX5_measure_104 rfl ?_
              refine V_iadd C dX5_measure_106 ?_
              refine V_iconst C dX5_measure_107 ?_
              refine V_isub C dX5_measure_108 ?_
              refine V_istore C dX5_measure_109 rfl (by decide) ?_
              refine V_goto C 133 dX5_measure_111 (by decide) ?_
              exact out _ _ (by rw [msE, if_pos ⟨spF_1.mp z1, z2⟩])
        · exact absurd z (by omega)
      | succ d ih =>
        intro j w9 hj
        have hn : ((j + 1 : Nat) : Int) = (j : Int) + 1 := by omega
        have bm := msG_b hR hf nd ax j
        have bo := msO_b hR hf nd ax j
        have h9 := ih (j + 1) (some (.int (I32 (msO P f nd ax j)))) (by omega)
        rw [msG, hn] at h9
        refine V_iload C dX5_measure_33 rfl ?_
        refine V_iload C dX5_measure_35 rfl ?_
        refine V_icmp_ge C 81 dX5_measure_37 (by decide) (by omega) (by omega) (fun z => ?_) (fun z => ?_)
        · exact absurd z (by omega)
        · refine V_aload C dX5_measure_40 rfl ?_
          refine V_iconst C dX5_measure_42 ?_
          refine V_aload_n C dX5_measure_43 rfl ?_
          refine V_iload_n C dX5_measure_44 rfl ?_
          refine V_iload C dX5_measure_45 rfl ?_
          refine V_callVD (nA := 2) C dX5_measure_47 (c_memberOf C.gp hP (by omega)) gX5_measure_X5_memberOf rfl o5 rfl (by decide +kernel) rfl (by decide) (by decide) (Nat.le_of_ble_eq_true rfl) ⟨by omega, by omega⟩ rfl ?_
          refine V_imul C dX5_measure_50 ?_
          refine V_iload C dX5_measure_51 rfl ?_
          refine V_iadd C dX5_measure_53 ?_
          refine V_callSND (nA := 2) (host := "DockTree") C dX5_measure_54 (hw j) gX5_measure_X8_at_n54 (by decide +kernel) (by decide +kernel) (by decide +kernel) rfl (by decide +kernel) rfl (by decide) (by decide) (Nat.le_of_ble_eq_true rfl) ⟨by omega, by omega⟩ rfl ?_
          refine V_istore C dX5_measure_57 rfl (by decide) ?_
          refine V_iload C dX5_measure_59 rfl ?_
          refine V_iload C dX5_measure_61 rfl ?_
          refine V_iadd C dX5_measure_63 ?_
          refine V_wr ?_
          refine V_istore C dX5_measure_64 rfl (by decide) ?_
          refine V_iload C dX5_measure_66 rfl ?_
          refine V_iload C dX5_measure_68 rfl ?_
          refine V_mmax C dX5_measure_70 (by decide +kernel) (by decide +kernel) (by decide +kernel) (by decide +kernel) (by decide) (Nat.le_of_ble_eq_true rfl) ⟨by omega, by omega⟩ (by omega) (by omega) ?_
          refine V_istore C dX5_measure_73 rfl (by decide) ?_
          refine V_iinc C dX5_measure_75 rfl rfl (by decide) ?_
          refine V_goto C 33 dX5_measure_78 (by decide) ?_
          exact h9
    refine V_astore C dX5_measure_15 rfl (by decide) ?_
    refine V_aload_n C dX5_measure_17 rfl ?_
    refine V_iload_n C dX5_measure_18 rfl ?_
    refine V_callVD (nA := 1) C dX5_measure_19 (r_countOf C.gp hL (LayAt_putK hA hd)) gX5_measure_X4_countOf rfl o4 rfl (by decide +kernel) rfl (by decide) (by decide) (Nat.le_of_ble_eq_true rfl) ⟨by omega, by omega⟩ rfl ?_
    refine V_istore C dX5_measure_22 rfl (by decide) ?_
    refine V_iconst C dX5_measure_24 ?_
    refine V_istore C dX5_measure_25 rfl (by decide) ?_
    refine V_iconst C dX5_measure_27 ?_
    refine V_istore C dX5_measure_28 rfl (by decide) ?_
    refine V_iconst C dX5_measure_30 ?_
    refine V_istore C dX5_measure_31 rfl (by decide) ?_
    exact loop (gL L 2 nd).toNat 0 none (by omega)
  refine V_iload_n C dX5_measure_0 rfl ?_
  refine V_callSND (nA := 1) (host := "DockTree") C dX5_measure_1 (c_isSplit C.gp (by omega)) gX5_measure_X8_isSplit_n75 (by decide +kernel) (by decide +kernel) (by decide +kernel) rfl (by decide +kernel) rfl (by decide) (by decide) (Nat.le_of_ble_eq_true rfl) ⟨by omega, by omega⟩ rfl ?_
  refine V_if_eq C 14 dX5_measure_4 (by decide) (by omega) (fun z => ?_) (fun z => ?_)
  · refine V_aload_n C dX5_measure_14 rfl ?_
    refine main q (fun i => ?_)
    have h := c_gR (l := xL X) (n := n) (la := la) (mu := putK mu p 14 P) C.gp hq (by decide) (fun i => (putK_off (Q := P) hqd i).trans (hqf i)) (i := 2 * mo P nd i + ax)
    rw [msO, if_neg (fun y => spF_1.mpr y z)]
    exact h
  · refine V_aload_n C dX5_measure_7 rfl ?_
    refine V_getR C 3 dX5_measure_8 o5 rfl hin_X5_measure_X5 (by decide) lk_X5_measure_21 rfl rfl ?_
    refine V_goto C 15 dX5_measure_11 (by decide) ?_
    refine main (p + 4) (fun i => ?_)
    rw [msO, if_pos (spF_1.mp z)]
    exact c_aK C.gp hP 4 98 rfl (by decide)
end PC
