/-! Arrays.fill; a layout that is only read; the plan of it -/
def flR (mu : Mem) (a m : Nat) (v : Int) (j : Int) : Mem := fun x i => if x = a ∧ 0 ≤ i ∧ i < j ∧ i < m then v else mu x i
theorem flR_0 (mu : Mem) (a m : Nat) (v : Int) : flR mu a m v 0 = mu := by
  funext x i
  unfold flR
  rw [if_neg (by omega)]
theorem flR_s {mu : Mem} {a m : Nat} {v j : Int} (hj : 0 ≤ j ∧ j < m) : up (flR mu a m v j) a j v = flR mu a m v (j + 1) := by
  funext x i
  unfold up flR
  by_cases h : x = a ∧ i = j
  · rw [if_pos h, if_pos (by omega)]
  · rw [if_neg h]
    by_cases h2 : x = a ∧ 0 ≤ i ∧ i < j ∧ i < m
    · rw [if_pos h2, if_pos (by omega)]
    · rw [if_neg h2, if_neg (by omega)]
theorem dJ7_fill_53178_0 : decode cJ7_fill_53178 0 = .ok (.iconst 0, 1) := by decide +kernel
theorem dJ7_fill_53178_1 : decode cJ7_fill_53178 1 = .ok (.istore_n 2, 1) := by decide +kernel
theorem dJ7_fill_53178_2 : decode cJ7_fill_53178 2 = .ok (.aload_n 0, 1) := by decide +kernel
theorem dJ7_fill_53178_3 : decode cJ7_fill_53178 3 = .ok (.arraylength, 1) := by decide +kernel
theorem dJ7_fill_53178_4 : decode cJ7_fill_53178 4 = .ok (.istore_n 3, 1) := by decide +kernel
theorem dJ7_fill_53178_5 : decode cJ7_fill_53178 5 = .ok (.iload_n 2, 1) := by decide +kernel
theorem dJ7_fill_53178_6 : decode cJ7_fill_53178 6 = .ok (.iload_n 3, 1) := by decide +kernel
theorem dJ7_fill_53178_7 : decode cJ7_fill_53178 7 = .ok (.if_icmp .ge 13, 3) := by decide +kernel
theorem dJ7_fill_53178_10 : decode cJ7_fill_53178 10 = .ok (.aload_n 0, 1) := by decide +kernel
theorem dJ7_fill_53178_11 : decode cJ7_fill_53178 11 = .ok (.iload_n 2, 1) := by decide +kernel
theorem dJ7_fill_53178_12 : decode cJ7_fill_53178 12 = .ok (.iload_n 1, 1) := by decide +kernel
theorem dJ7_fill_53178_13 : decode cJ7_fill_53178 13 = .ok (.iastore, 1) := by decide +kernel
theorem dJ7_fill_53178_14 : decode cJ7_fill_53178 14 = .ok (.iinc 2 1, 3) := by decide +kernel
theorem dJ7_fill_53178_17 : decode cJ7_fill_53178 17 = .ok (.goto (-12), 3) := by decide +kernel
theorem dJ7_fill_53178_20 : decode cJ7_fill_53178 20 = .ok (.return_, 1) := by decide +kernel
theorem c_fill {G : Gx} {l : Launch} (hG : GP G) {S : Sh} {n : Nat} {mu : Mem} {la : Lam} {a m : Nat} {v : Int} (hx : hasS S a (.inl (0, m))) (hm : m < 2147483648) :
    Ct G l yJ7_fill_53178 wsJ7_fill_53178 0 0 0 [.ref a, .int (I32 v)] S n mu la (Dt none S n (flR mu a m v m) la) := by
  refine Ct.ofV (cc := cJ7_fill_53178) (nL := 4) (ret := none) [some (.ref a), some (.int (I32 v)), none, none] hG (by decide) rfl (Nat.le_of_ble_eq_true rfl) rfl ?_
  rintro X rfl rfl C hcl hsl E
  have loop : ∀ (d : Nat) (j : Int), 0 ≤ j → j + d = m → V X 5 [some (.ref a), some (.int (I32 v)), some (.int (I32 j)), some (.int (I32 m))] [] S n (flR mu a m v j) la 0 0 := by
    intro d
    induction d with
    | zero =>
      intro j h0 hj
      have e : j = m := by omega
      subst e
      refine V_iload_n C dJ7_fill_53178_5 rfl ?_
      refine V_iload_n C dJ7_fill_53178_6 rfl ?_
      refine V_icmp_ge C 20 dJ7_fill_53178_7 (by decide) (by omega) (by omega) (fun q => ?_) (fun q => ?_)
      · refine V_return C E dJ7_fill_53178_20 (by omega) (by omega) ?_
        exact Dt_rfl
      · exact absurd q (by omega)
    | succ d ih =>
      intro j h0 hj
      refine V_iload_n C dJ7_fill_53178_5 rfl ?_
      refine V_iload_n C dJ7_fill_53178_6 rfl ?_
      refine V_icmp_ge C 20 dJ7_fill_53178_7 (by decide) (by omega) (by omega) (fun q => ?_) (fun q => ?_)
      · exact absurd q (by omega)
      · refine V_aload_n C dJ7_fill_53178_10 rfl ?_
        refine V_iload_n C dJ7_fill_53178_11 rfl ?_
        refine V_iload_n C dJ7_fill_53178_12 rfl ?_
        refine V_iast C dJ7_fill_53178_13 hx (by first | assumption | decide) (by omega) ?_
        rw [flR_s (by omega)]
        refine V_iinc C dJ7_fill_53178_14 rfl rfl (by decide) ?_
        refine V_goto C 5 dJ7_fill_53178_17 (by decide) ?_
        exact ih (j + 1) (by omega) (by omega)
  refine V_iconst C dJ7_fill_53178_0 ?_
  refine V_istore_n C dJ7_fill_53178_1 rfl (by decide) ?_
  refine V_aload_n C dJ7_fill_53178_2 rfl ?_
  refine V_alen C dJ7_fill_53178_3 hx ?_
  refine V_istore_n C dJ7_fill_53178_4 rfl (by decide) ?_
  have h9 := loop m 0 (by omega) (by omega)
  rw [flR_0] at h9
  exact h9
def LayAt (mu : Mem) (b : Nat) (L : Mem) : Prop := ∀ k, k ≤ 7 → ∀ i, mu (b + 1 + k) i = L k i
def gL (L : Mem) (k : Nat) (i : Int) : Int := gK L k (llen k) i
theorem LayAt_putK {mu : Mem} {b : Nat} {L : Mem} (h : LayAt mu b L) {c w : Nat} {Q : Mem} (hd : b + 8 < c ∨ c + w ≤ b + 1) : LayAt (putK mu c w Q) b L := fun k hk i => by
  rw [putK_off (by omega)]; exact h k hk i
section LR
variable {G : Gx} {l : Launch} {S : Sh} {n : Nat} {mu : Mem} {la : Lam} {b : Nat} {L : Mem}
theorem c_gL (hG : GP G) (hL : LayS S b) (hA : LayAt mu b L) (k : Nat) (hk : k ≤ 7) {i : Int} :
    Ct G l yX8_at wsX8_at 0 0 0 [.ref (b + 1 + k), .int (I32 i)] S n mu la (Dt (some (.int (I32 (gL L k i)))) S n mu la) := by
  have h := c_at (l := l) (n := n) (la := la) (mu := mu) (i := wr i) hG (hL.2 k hk) (llen_lt k) (wr_b i)
  have e : atF mu (b + 1 + k) (llen k) (wr i) = gL L k i := by
    unfold gL gK atF
    rw [hA k hk]
  rw [e, I32_wr] at h
  exact h
-- X4_holderOf
theorem r_holderOf (hG : GP G) (hL : LayS S b) (hA : LayAt mu b L) {t : Int} : Ct G l yX4_holderOf wsX4_holderOf 1 0 0 [.ref b, .int (I32 t)] S n mu la (Dt (some (.int (I32 (gL L 0 t)))) S n mu la) := by
  have o4 := hL.1
  refine Ct.ofV (cc := cX4_holderOf) (nL := 2) (ret := (some .int)) [some (.ref b), some (.int (I32 t))] hG (by decide) rfl (Nat.le_of_ble_eq_true rfl) rfl ?_
  rintro X rfl rfl C hcl hsl E
  refine V_aload_n C dX4_holderOf_0 rfl ?_
  refine V_getR C 0 dX4_holderOf_1 o4 rfl hin_X4_holderOf_X4 (by decide) lk_X4_holderOf_9 rfl rfl ?_
  refine V_iload_n C dX4_holderOf_4 rfl ?_
  refine V_callSND (nA := 2) (host := "DockTree") C dX4_holderOf_5 (c_gL C.gp hL hA 0 (by decide)) gX4_holderOf_X8_at_n46 (by decide +kernel) (by decide +kernel) (by decide +kernel) rfl (by decide +kernel) rfl (by decide) (by decide) (Nat.le_of_ble_eq_true rfl) ⟨by omega, by omega⟩ rfl ?_
  refine V_ireturn C E dX4_holderOf_8 (by omega) (by omega) ?_
  exact Dt_rfl
-- X4_placeOf
theorem r_placeOf (hG : GP G) (hL : LayS S b) (hA : LayAt mu b L) {t : Int} : Ct G l yX4_placeOf wsX4_placeOf 1 0 0 [.ref b, .int (I32 t)] S n mu la (Dt (some (.int (I32 (gL L 1 t)))) S n mu la) := by
  have o4 := hL.1
  refine Ct.ofV (cc := cX4_placeOf) (nL := 2) (ret := (some .int)) [some (.ref b), some (.int (I32 t))] hG (by decide) rfl (Nat.le_of_ble_eq_true rfl) rfl ?_
  rintro X rfl rfl C hcl hsl E
  refine V_aload_n C dX4_placeOf_0 rfl ?_
  refine V_getR C 1 dX4_placeOf_1 o4 rfl hin_X4_placeOf_X4 (by decide) lk_X4_placeOf_15 rfl rfl ?_
  refine V_iload_n C dX4_placeOf_4 rfl ?_
  refine V_callSND (nA := 2) (host := "DockTree") C dX4_placeOf_5 (c_gL C.gp hL hA 1 (by decide)) gX4_placeOf_X8_at_n46 (by decide +kernel) (by decide +kernel) (by decide +kernel) rfl (by decide +kernel) rfl (by decide) (by decide) (Nat.le_of_ble_eq_true rfl) ⟨by omega, by omega⟩ rfl ?_
  refine V_ireturn C E dX4_placeOf_8 (by omega) (by omega) ?_
  exact Dt_rfl
-- X4_countOf
theorem r_countOf (hG : GP G) (hL : LayS S b) (hA : LayAt mu b L) {t : Int} : Ct G l yX4_countOf wsX4_countOf 1 0 0 [.ref b, .int (I32 t)] S n mu la (Dt (some (.int (I32 (gL L 2 t)))) S n mu la) := by
  have o4 := hL.1
  refine Ct.ofV (cc := cX4_countOf) (nL := 2) (ret := (some .int)) [some (.ref b), some (.int (I32 t))] hG (by decide) rfl (Nat.le_of_ble_eq_true rfl) rfl ?_
  rintro X rfl rfl C hcl hsl E
  refine V_aload_n C dX4_countOf_0 rfl ?_
  refine V_getR C 2 dX4_countOf_1 o4 rfl hin_X4_countOf_X4 (by decide) lk_X4_countOf_18 rfl rfl ?_
  refine V_iload_n C dX4_countOf_4 rfl ?_
  refine V_callSND (nA := 2) (host := "DockTree") C dX4_countOf_5 (c_gL C.gp hL hA 2 (by decide)) gX4_countOf_X8_at_n46 (by decide +kernel) (by decide +kernel) (by decide +kernel) rfl (by decide +kernel) rfl (by decide) (by decide) (Nat.le_of_ble_eq_true rfl) ⟨by omega, by omega⟩ rfl ?_
  refine V_ireturn C E dX4_countOf_8 (by omega) (by omega) ?_
  exact Dt_rfl
-- X4_weightOf
theorem r_weightOf (hG : GP G) (hL : LayS S b) (hA : LayAt mu b L) {t : Int} : Ct G l yX4_weightOf wsX4_weightOf 1 0 0 [.ref b, .int (I32 t)] S n mu la (Dt (some (.int (I32 (gL L 3 t)))) S n mu la) := by
  have o4 := hL.1
  refine Ct.ofV (cc := cX4_weightOf) (nL := 2) (ret := (some .int)) [some (.ref b), some (.int (I32 t))] hG (by decide) rfl (Nat.le_of_ble_eq_true rfl) rfl ?_
  rintro X rfl rfl C hcl hsl E
  refine V_aload_n C dX4_weightOf_0 rfl ?_
  refine V_getR C 3 dX4_weightOf_1 o4 rfl hin_X4_weightOf_X4 (by decide) lk_X4_weightOf_21 rfl rfl ?_
  refine V_iload_n C dX4_weightOf_4 rfl ?_
  refine V_callSND (nA := 2) (host := "DockTree") C dX4_weightOf_5 (c_gL C.gp hL hA 3 (by decide)) gX4_weightOf_X8_at_n46 (by decide +kernel) (by decide +kernel) (by decide +kernel) rfl (by decide +kernel) rfl (by decide) (by decide) (Nat.le_of_ble_eq_true rfl) ⟨by omega, by omega⟩ rfl ?_
  refine V_ireturn C E dX4_weightOf_8 (by omega) (by omega) ?_
  exact Dt_rfl
-- X4_activeOf
theorem r_activeOf (hG : GP G) (hL : LayS S b) (hA : LayAt mu b L) {t : Int} : Ct G l yX4_activeOf wsX4_activeOf 1 0 0 [.ref b, .int (I32 t)] S n mu la (Dt (some (.int (I32 (gL L 4 (t - 16))))) S n mu la) := by
  have o4 := hL.1
  refine Ct.ofV (cc := cX4_activeOf) (nL := 2) (ret := (some .int)) [some (.ref b), some (.int (I32 t))] hG (by decide) rfl (Nat.le_of_ble_eq_true rfl) rfl ?_
  rintro X rfl rfl C hcl hsl E
  refine V_aload_n C dX4_activeOf_0 rfl ?_
  refine V_getR C 4 dX4_activeOf_1 o4 rfl hin_X4_activeOf_X4 (by decide) lk_X4_activeOf_24 rfl rfl ?_
  refine V_iload_n C dX4_activeOf_4 rfl ?_
  refine V_bipush C dX4_activeOf_5 (by decide +kernel) ?_
  refine V_isub C dX4_activeOf_7 ?_
  refine V_callSND (nA := 2) (host := "DockTree") C dX4_activeOf_8 (c_gL C.gp hL hA 4 (by decide)) gX4_activeOf_X8_at_n46 (by decide +kernel) (by decide +kernel) (by decide +kernel) rfl (by decide +kernel) rfl (by decide) (by decide) (Nat.le_of_ble_eq_true rfl) ⟨by omega, by omega⟩ rfl ?_
  refine V_ireturn C E dX4_activeOf_11 (by omega) (by omega) ?_
  exact Dt_rfl
-- X4_axisOf
theorem r_axisOf (hG : GP G) (hL : LayS S b) (hA : LayAt mu b L) {t : Int} : Ct G l yX4_axisOf wsX4_axisOf 1 0 0 [.ref b, .int (I32 t)] S n mu la (Dt (some (.int (I32 (gL L 5 (t - 32))))) S n mu la) := by
  have o4 := hL.1
  refine Ct.ofV (cc := cX4_axisOf) (nL := 2) (ret := (some .int)) [some (.ref b), some (.int (I32 t))] hG (by decide) rfl (Nat.le_of_ble_eq_true rfl) rfl ?_
  rintro X rfl rfl C hcl hsl E
  refine V_aload_n C dX4_axisOf_0 rfl ?_
  refine V_getR C 5 dX4_axisOf_1 o4 rfl hin_X4_axisOf_X4 (by decide) lk_X4_axisOf_27 rfl rfl ?_
  refine V_iload_n C dX4_axisOf_4 rfl ?_
  refine V_bipush C dX4_axisOf_5 (by decide +kernel) ?_
  refine V_isub C dX4_axisOf_7 ?_
  refine V_callSND (nA := 2) (host := "DockTree") C dX4_axisOf_8 (c_gL C.gp hL hA 5 (by decide)) gX4_axisOf_X8_at_n46 (by decide +kernel) (by decide +kernel) (by decide +kernel) rfl (by decide +kernel) rfl (by decide) (by decide) (Nat.le_of_ble_eq_true rfl) ⟨by omega, by omega⟩ rfl ?_
  refine V_ireturn C E dX4_axisOf_11 (by omega) (by omega) ?_
  exact Dt_rfl
-- X4_floatingStartOf
theorem r_floatingStartOf (hG : GP G) (hL : LayS S b) (hA : LayAt mu b L) {t x : Int} : Ct G l yX4_floatingStartOf wsX4_floatingStartOf 1 0 0 [.ref b, .int (I32 t), .int (I32 x)] S n mu la (Dt (some (.int (I32 (gL L 6 (2 * (t - 16) + x))))) S n mu la) := by
  have o4 := hL.1
  refine Ct.ofV (cc := cX4_floatingStartOf) (nL := 3) (ret := (some .int)) [some (.ref b), some (.int (I32 t)), some (.int (I32 x))] hG (by decide) rfl (Nat.le_of_ble_eq_true rfl) rfl ?_
  rintro X rfl rfl C hcl hsl E
  refine V_aload_n C dX4_floatingStartOf_0 rfl ?_
  refine V_getR C 6 dX4_floatingStartOf_1 o4 rfl hin_X4_floatingStartOf_X4 (by decide) lk_X4_floatingStartOf_30 rfl rfl ?_
  refine V_iconst C dX4_floatingStartOf_4 ?_
  refine V_iload_n C dX4_floatingStartOf_5 rfl ?_
  refine V_bipush C dX4_floatingStartOf_6 (by decide +kernel) ?_
  refine V_isub C dX4_floatingStartOf_8 ?_
  refine V_imul C dX4_floatingStartOf_9 ?_
  refine V_iload_n C dX4_floatingStartOf_10 rfl ?_
  refine V_iadd C dX4_floatingStartOf_11 ?_
  refine V_callSND (nA := 2) (host := "DockTree") C dX4_floatingStartOf_12 (c_gL C.gp hL hA 6 (by decide)) gX4_floatingStartOf_X8_at_n46 (by decide +kernel) (by decide +kernel) (by decide +kernel) rfl (by decide +kernel) rfl (by decide) (by decide) (Nat.le_of_ble_eq_true rfl) ⟨by omega, by omega⟩ rfl ?_
  refine V_ireturn C E dX4_floatingStartOf_15 (by omega) (by omega) ?_
  exact Dt_rfl
-- X4_floatingSizeOf
theorem r_floatingSizeOf (hG : GP G) (hL : LayS S b) (hA : LayAt mu b L) {t x : Int} : Ct G l yX4_floatingSizeOf wsX4_floatingSizeOf 1 0 0 [.ref b, .int (I32 t), .int (I32 x)] S n mu la (Dt (some (.int (I32 (gL L 7 (2 * (t - 16) + x))))) S n mu la) := by
  have o4 := hL.1
  refine Ct.ofV (cc := cX4_floatingSizeOf) (nL := 3) (ret := (some .int)) [some (.ref b), some (.int (I32 t)), some (.int (I32 x))] hG (by decide) rfl (Nat.le_of_ble_eq_true rfl) rfl ?_
  rintro X rfl rfl C hcl hsl E
  refine V_aload_n C dX4_floatingSizeOf_0 rfl ?_
  refine V_getR C 7 dX4_floatingSizeOf_1 o4 rfl hin_X4_floatingSizeOf_X4 (by decide) lk_X4_floatingSizeOf_33 rfl rfl ?_
  refine V_iconst C dX4_floatingSizeOf_4 ?_
  refine V_iload_n C dX4_floatingSizeOf_5 rfl ?_
  refine V_bipush C dX4_floatingSizeOf_6 (by decide +kernel) ?_
  refine V_isub C dX4_floatingSizeOf_8 ?_
  refine V_imul C dX4_floatingSizeOf_9 ?_
  refine V_iload_n C dX4_floatingSizeOf_10 rfl ?_
  refine V_iadd C dX4_floatingSizeOf_11 ?_
  refine V_callSND (nA := 2) (host := "DockTree") C dX4_floatingSizeOf_12 (c_gL C.gp hL hA 7 (by decide)) gX4_floatingSizeOf_X8_at_n46 (by decide +kernel) (by decide +kernel) (by decide +kernel) rfl (by decide +kernel) rfl (by decide) (by decide) (Nat.le_of_ble_eq_true rfl) ⟨by omega, by omega⟩ rfl ?_
  refine V_ireturn C E dX4_floatingSizeOf_15 (by omega) (by omega) ?_
  exact Dt_rfl
end LR
def gR (f : Int → Int) (m : Nat) (i : Int) : Int := if 0 ≤ wr i ∧ wr i < m then f (wr i) else -1
theorem c_gR {G : Gx} {l : Launch} {S : Sh} {n : Nat} {mu : Mem} {la : Lam} {q m : Nat} {f : Int → Int} (hG : GP G) (hx : hasS S q (.inl (0, m))) (hm : m < 2147483648) (hq : ∀ i, mu q i = f i) {i : Int} :
    Ct G l yX8_at wsX8_at 0 0 0 [.ref q, .int (I32 i)] S n mu la (Dt (some (.int (I32 (gR f m i)))) S n mu la) := by
  have h := c_at (l := l) (n := n) (la := la) (mu := mu) (i := wr i) hG hx hm (wr_b i)
  have e : atF mu q m (wr i) = gR f m i := by
    unfold gR atF
    rw [hq]
  rw [e, I32_wr] at h
  exact h
section PC
variable {G : Gx} {l : Launch} {S : Sh} {n : Nat} {mu : Mem} {la : Lam} {p : Nat} {P : Mem} {b : Nat} {L : Mem}
def mo (P : Mem) (h i : Int) : Int := if 0 ≤ i ∧ i < 16 then gK P 1 528 ((h - 16) * 16 + i) else -1
theorem mo_b {P : Mem} (hR : R32 P) (h i : Int) : -2147483648 ≤ mo P h i ∧ mo P h i ≤ 2147483647 := by
  unfold mo
  split
  · exact R32_gK hR _ _ _
  · omega
set_option maxRecDepth 20000 in
theorem ggX5_memberOf_X8_at : GoodIn wsX5_memberOf wsX8_at := goodIn_r _ [4] (by decide +kernel) (by decide +kernel)
set_option maxRecDepth 20000 in
theorem gX5_memberOf_X8_at_n54 : GoodIn wsX5_memberOf (wsX8_at) := ggX5_memberOf_X8_at
theorem dX5_memberOf_0 : decode cX5_memberOf 0 = .ok (.iload_n 2, 1) := by decide +kernel
theorem dX5_memberOf_1 : decode cX5_memberOf 1 = .ok (.ifCond .lt 9, 3) := by decide +kernel
theorem dX5_memberOf_4 : decode cX5_memberOf 4 = .ok (.iload_n 2, 1) := by decide +kernel
theorem dX5_memberOf_5 : decode cX5_memberOf 5 = .ok (.bipush 16, 2) := by decide +kernel
theorem dX5_memberOf_7 : decode cX5_memberOf 7 = .ok (.if_icmp .lt 7, 3) := by decide +kernel
theorem dX5_memberOf_10 : decode cX5_memberOf 10 = .ok (.iconst (-1), 1) := by decide +kernel
theorem dX5_memberOf_11 : decode cX5_memberOf 11 = .ok (.goto 19, 3) := by decide +kernel
theorem dX5_memberOf_14 : decode cX5_memberOf 14 = .ok (.aload_n 0, 1) := by decide +kernel
theorem dX5_memberOf_15 : decode cX5_memberOf 15 = .ok (.getfield 9, 3) := by decide +kernel
theorem dX5_memberOf_18 : decode cX5_memberOf 18 = .ok (.iload_n 1, 1) := by decide +kernel
theorem dX5_memberOf_19 : decode cX5_memberOf 19 = .ok (.bipush 16, 2) := by decide +kernel
theorem dX5_memberOf_21 : decode cX5_memberOf 21 = .ok (.isub, 1) := by decide +kernel
theorem dX5_memberOf_22 : decode cX5_memberOf 22 = .ok (.bipush 16, 2) := by decide +kernel
theorem dX5_memberOf_24 : decode cX5_memberOf 24 = .ok (.imul, 1) := by decide +kernel
theorem dX5_memberOf_25 : decode cX5_memberOf 25 = .ok (.iload_n 2, 1) := by decide +kernel
theorem dX5_memberOf_26 : decode cX5_memberOf 26 = .ok (.iadd, 1) := by decide +kernel
theorem dX5_memberOf_27 : decode cX5_memberOf 27 = .ok (.invokestatic 54, 3) := by decide +kernel
theorem dX5_memberOf_30 : decode cX5_memberOf 30 = .ok (.ireturn, 1) := by decide +kernel
theorem hin_X5_memberOf_X5 : ∀ w ∈ wsX50, w ∈ wsX5_memberOf := by decide +kernel
theorem lk_X5_memberOf_9 : Cond.fieldLink RX5 9 RX5 "members" "[I" ∈ wsX5_memberOf := by decide +kernel
theorem c_memberOf (hG : GP G) (hP : PlanS S p) {h i : Int} (hi : -2147483648 ≤ i ∧ i ≤ 2147483647) : Ct G l yX5_memberOf wsX5_memberOf 1 0 0 [.ref p, .int (I32 h), .int (I32 i)] S n (putK mu p 14 P) la (Dt (some (.int (I32 (mo P h i)))) S n (putK mu p 14 P) la) := by
  have o5 := hP.1
  refine Ct.ofV (cc := cX5_memberOf) (nL := 3) (ret := (some .int)) [some (.ref p), some (.int (I32 h)), some (.int (I32 i))] hG (by decide) rfl (Nat.le_of_ble_eq_true rfl) rfl ?_
  rintro X rfl rfl C hcl hsl E
  refine V_iload_n C dX5_memberOf_0 rfl ?_
  refine V_if_lt C 10 dX5_memberOf_1 (by decide) (by omega) (fun q => ?_) (fun q => ?_)
  · refine V_iconst C dX5_memberOf_10 ?_
    refine V_goto C 30 dX5_memberOf_11 (by decide) ?_
    refine V_ireturn C E dX5_memberOf_30 (by omega) (by omega) ?_
    rw [mo, if_neg (by omega)]; exact Dt_rfl
  · refine V_iload_n C dX5_memberOf_4 rfl ?_
    refine V_bipush C dX5_memberOf_5 (by decide +kernel) ?_
    refine V_icmp_lt C 14 dX5_memberOf_7 (by decide) (by omega) (by omega) (fun q2 => ?_) (fun q2 => ?_)
    · refine V_aload_n C dX5_memberOf_14 rfl ?_
      refine V_getR C 0 dX5_memberOf_15 o5 rfl hin_X5_memberOf_X5 (by decide) lk_X5_memberOf_9 rfl rfl ?_
      refine V_iload_n C dX5_memberOf_18 rfl ?_
      refine V_bipush C dX5_memberOf_19 (by decide +kernel) ?_
      refine V_isub C dX5_memberOf_21 ?_
      refine V_bipush C dX5_memberOf_22 (by decide +kernel) ?_
      refine V_imul C dX5_memberOf_24 ?_
      refine V_iload_n C dX5_memberOf_25 rfl ?_
      refine V_iadd C dX5_memberOf_26 ?_
      refine V_callSND (nA := 2) (host := "DockTree") C dX5_memberOf_27 (c_aK C.gp hP 1 528 rfl (by decide)) gX5_memberOf_X8_at_n54 (by decide +kernel) (by decide +kernel) (by decide +kernel) rfl (by decide +kernel) rfl (by decide) (by decide) (Nat.le_of_ble_eq_true rfl) ⟨by omega, by omega⟩ rfl ?_
      refine V_ireturn C E dX5_memberOf_30 (by omega) (by omega) ?_
      rw [mo, if_pos (by omega)]; exact Dt_rfl
    · refine V_iconst C dX5_memberOf_10 ?_
      refine V_goto C 30 dX5_memberOf_11 (by decide) ?_
      refine V_ireturn C E dX5_memberOf_30 (by omega) (by omega) ?_
      rw [mo, if_neg (by omega)]; exact Dt_rfl
set_option maxRecDepth 20000 in
theorem ggX5_leastOf_X8_at : GoodIn wsX5_leastOf wsX8_at := goodIn_r _ [4] (by decide +kernel) (by decide +kernel)
set_option maxRecDepth 20000 in
theorem gX5_leastOf_X8_at_n54 : GoodIn wsX5_leastOf (wsX8_at) := ggX5_leastOf_X8_at
theorem dX5_leastOf_0 : decode cX5_leastOf 0 = .ok (.aload_n 0, 1) := by decide +kernel
theorem dX5_leastOf_1 : decode cX5_leastOf 1 = .ok (.getfield 21, 3) := by decide +kernel
theorem dX5_leastOf_4 : decode cX5_leastOf 4 = .ok (.iconst 2, 1) := by decide +kernel
theorem dX5_leastOf_5 : decode cX5_leastOf 5 = .ok (.iload_n 1, 1) := by decide +kernel
theorem dX5_leastOf_6 : decode cX5_leastOf 6 = .ok (.imul, 1) := by decide +kernel
theorem dX5_leastOf_7 : decode cX5_leastOf 7 = .ok (.iload_n 2, 1) := by decide +kernel
theorem dX5_leastOf_8 : decode cX5_leastOf 8 = .ok (.iadd, 1) := by decide +kernel
theorem dX5_leastOf_9 : decode cX5_leastOf 9 = .ok (.invokestatic 54, 3) := by decide +kernel
theorem dX5_leastOf_12 : decode cX5_leastOf 12 = .ok (.ireturn, 1) := by decide +kernel
theorem hin_X5_leastOf_X5 : ∀ w ∈ wsX50, w ∈ wsX5_leastOf := by decide +kernel
theorem lk_X5_leastOf_21 : Cond.fieldLink RX5 21 RX5 "least" "[I" ∈ wsX5_leastOf := by decide +kernel
theorem c_leastOf (hG : GP G) (hP : PlanS S p) {t x : Int} : Ct G l yX5_leastOf wsX5_leastOf 1 0 0 [.ref p, .int (I32 t), .int (I32 x)] S n (putK mu p 14 P) la (Dt (some (.int (I32 (gK P 4 98 (2 * t + x))))) S n (putK mu p 14 P) la) := by
  have o5 := hP.1
  refine Ct.ofV (cc := cX5_leastOf) (nL := 3) (ret := (some .int)) [some (.ref p), some (.int (I32 t)), some (.int (I32 x))] hG (by decide) rfl (Nat.le_of_ble_eq_true rfl) rfl ?_
  rintro X rfl rfl C hcl hsl E
  refine V_aload_n C dX5_leastOf_0 rfl ?_
  refine V_getR C 3 dX5_leastOf_1 o5 rfl hin_X5_leastOf_X5 (by decide) lk_X5_leastOf_21 rfl rfl ?_
  refine V_iconst C dX5_leastOf_4 ?_
  refine V_iload_n C dX5_leastOf_5 rfl ?_
  refine V_imul C dX5_leastOf_6 ?_
  refine V_iload_n C dX5_leastOf_7 rfl ?_
  refine V_iadd C dX5_leastOf_8 ?_
  refine V_callSND (nA := 2) (host := "DockTree") C dX5_leastOf_9 (c_aK C.gp hP 4 98 rfl (by decide)) gX5_leastOf_X8_at_n54 (by decide +kernel) (by decide +kernel) (by decide +kernel) rfl (by decide +kernel) rfl (by decide) (by decide) (Nat.le_of_ble_eq_true rfl) ⟨by omega, by omega⟩ rfl ?_
  refine V_ireturn C E dX5_leastOf_12 (by omega) (by omega) ?_
  exact Dt_rfl
set_option maxRecDepth 20000 in
theorem ggX5_startOf_X8_at : GoodIn wsX5_startOf wsX8_at := goodIn_r _ [4] (by decide +kernel) (by decide +kernel)
set_option maxRecDepth 20000 in
theorem gX5_startOf_X8_at_n54 : GoodIn wsX5_startOf (wsX8_at) := ggX5_startOf_X8_at
theorem dX5_startOf_0 : decode cX5_startOf 0 = .ok (.aload_n 0, 1) := by decide +kernel
theorem dX5_startOf_1 : decode cX5_startOf 1 = .ok (.getfield 24, 3) := by decide +kernel
theorem dX5_startOf_4 : decode cX5_startOf 4 = .ok (.iconst 2, 1) := by decide +kernel
theorem dX5_startOf_5 : decode cX5_startOf 5 = .ok (.iload_n 1, 1) := by decide +kernel
theorem dX5_startOf_6 : decode cX5_startOf 6 = .ok (.imul, 1) := by decide +kernel
theorem dX5_startOf_7 : decode cX5_startOf 7 = .ok (.iload_n 2, 1) := by decide +kernel
theorem dX5_startOf_8 : decode cX5_startOf 8 = .ok (.iadd, 1) := by decide +kernel
theorem dX5_startOf_9 : decode cX5_startOf 9 = .ok (.invokestatic 54, 3) := by decide +kernel
theorem dX5_startOf_12 : decode cX5_startOf 12 = .ok (.ireturn, 1) := by decide +kernel
theorem hin_X5_startOf_X5 : ∀ w ∈ wsX50, w ∈ wsX5_startOf := by decide +kernel
theorem lk_X5_startOf_24 : Cond.fieldLink RX5 24 RX5 "start" "[I" ∈ wsX5_startOf := by decide +kernel
theorem c_startOf (hG : GP G) (hP : PlanS S p) {t x : Int} : Ct G l yX5_startOf wsX5_startOf 1 0 0 [.ref p, .int (I32 t), .int (I32 x)] S n (putK mu p 14 P) la (Dt (some (.int (I32 (gK P 5 98 (2 * t + x))))) S n (putK mu p 14 P) la) := by
  have o5 := hP.1
  refine Ct.ofV (cc := cX5_startOf) (nL := 3) (ret := (some .int)) [some (.ref p), some (.int (I32 t)), some (.int (I32 x))] hG (by decide) rfl (Nat.le_of_ble_eq_true rfl) rfl ?_
  rintro X rfl rfl C hcl hsl E
  refine V_aload_n C dX5_startOf_0 rfl ?_
  refine V_getR C 4 dX5_startOf_1 o5 rfl hin_X5_startOf_X5 (by decide) lk_X5_startOf_24 rfl rfl ?_
  refine V_iconst C dX5_startOf_4 ?_
  refine V_iload_n C dX5_startOf_5 rfl ?_
  refine V_imul C dX5_startOf_6 ?_
  refine V_iload_n C dX5_startOf_7 rfl ?_
  refine V_iadd C dX5_startOf_8 ?_
  refine V_callSND (nA := 2) (host := "DockTree") C dX5_startOf_9 (c_aK C.gp hP 5 98 rfl (by decide)) gX5_startOf_X8_at_n54 (by decide +kernel) (by decide +kernel) (by decide +kernel) rfl (by decide +kernel) rfl (by decide) (by decide) (Nat.le_of_ble_eq_true rfl) ⟨by omega, by omega⟩ rfl ?_
  refine V_ireturn C E dX5_startOf_12 (by omega) (by omega) ?_
  exact Dt_rfl
set_option maxRecDepth 20000 in
theorem ggX5_sizeOf_X8_at : GoodIn wsX5_sizeOf wsX8_at := goodIn_r _ [4] (by decide +kernel) (by decide +kernel)
set_option maxRecDepth 20000 in
theorem gX5_sizeOf_X8_at_n54 : GoodIn wsX5_sizeOf (wsX8_at) := ggX5_sizeOf_X8_at
theorem dX5_sizeOf_0 : decode cX5_sizeOf 0 = .ok (.aload_n 0, 1) := by decide +kernel
theorem dX5_sizeOf_1 : decode cX5_sizeOf 1 = .ok (.getfield 27, 3) := by decide +kernel
theorem dX5_sizeOf_4 : decode cX5_sizeOf 4 = .ok (.iconst 2, 1) := by decide +kernel
theorem dX5_sizeOf_5 : decode cX5_sizeOf 5 = .ok (.iload_n 1, 1) := by decide +kernel
theorem dX5_sizeOf_6 : decode cX5_sizeOf 6 = .ok (.imul, 1) := by decide +kernel
theorem dX5_sizeOf_7 : decode cX5_sizeOf 7 = .ok (.iload_n 2, 1) := by decide +kernel
theorem dX5_sizeOf_8 : decode cX5_sizeOf 8 = .ok (.iadd, 1) := by decide +kernel
theorem dX5_sizeOf_9 : decode cX5_sizeOf 9 = .ok (.invokestatic 54, 3) := by decide +kernel
theorem dX5_sizeOf_12 : decode cX5_sizeOf 12 = .ok (.ireturn, 1) := by decide +kernel
theorem hin_X5_sizeOf_X5 : ∀ w ∈ wsX50, w ∈ wsX5_sizeOf := by decide +kernel
theorem lk_X5_sizeOf_27 : Cond.fieldLink RX5 27 RX5 "size" "[I" ∈ wsX5_sizeOf := by decide +kernel
theorem c_sizeOf (hG : GP G) (hP : PlanS S p) {t x : Int} : Ct G l yX5_sizeOf wsX5_sizeOf 1 0 0 [.ref p, .int (I32 t), .int (I32 x)] S n (putK mu p 14 P) la (Dt (some (.int (I32 (gK P 6 98 (2 * t + x))))) S n (putK mu p 14 P) la) := by
  have o5 := hP.1
  refine Ct.ofV (cc := cX5_sizeOf) (nL := 3) (ret := (some .int)) [some (.ref p), some (.int (I32 t)), some (.int (I32 x))] hG (by decide) rfl (Nat.le_of_ble_eq_true rfl) rfl ?_
  rintro X rfl rfl C hcl hsl E
  refine V_aload_n C dX5_sizeOf_0 rfl ?_
  refine V_getR C 5 dX5_sizeOf_1 o5 rfl hin_X5_sizeOf_X5 (by decide) lk_X5_sizeOf_27 rfl rfl ?_
  refine V_iconst C dX5_sizeOf_4 ?_
  refine V_iload_n C dX5_sizeOf_5 rfl ?_
  refine V_imul C dX5_sizeOf_6 ?_
  refine V_iload_n C dX5_sizeOf_7 rfl ?_
  refine V_iadd C dX5_sizeOf_8 ?_
  refine V_callSND (nA := 2) (host := "DockTree") C dX5_sizeOf_9 (c_aK C.gp hP 6 98 rfl (by decide)) gX5_sizeOf_X8_at_n54 (by decide +kernel) (by decide +kernel) (by decide +kernel) rfl (by decide +kernel) rfl (by decide) (by decide) (Nat.le_of_ble_eq_true rfl) ⟨by omega, by omega⟩ rfl ?_
  refine V_ireturn C E dX5_sizeOf_12 (by omega) (by omega) ?_
  exact Dt_rfl
set_option maxRecDepth 20000 in
theorem ggX5_depthOf_X8_at : GoodIn wsX5_depthOf wsX8_at := goodIn_r _ [4] (by decide +kernel) (by decide +kernel)
set_option maxRecDepth 20000 in
theorem gX5_depthOf_X8_at_n54 : GoodIn wsX5_depthOf (wsX8_at) := ggX5_depthOf_X8_at
theorem dX5_depthOf_0 : decode cX5_depthOf 0 = .ok (.aload_n 0, 1) := by decide +kernel
theorem dX5_depthOf_1 : decode cX5_depthOf 1 = .ok (.getfield 30, 3) := by decide +kernel
theorem dX5_depthOf_4 : decode cX5_depthOf 4 = .ok (.iload_n 1, 1) := by decide +kernel
theorem dX5_depthOf_5 : decode cX5_depthOf 5 = .ok (.invokestatic 54, 3) := by decide +kernel
theorem dX5_depthOf_8 : decode cX5_depthOf 8 = .ok (.ireturn, 1) := by decide +kernel
theorem hin_X5_depthOf_X5 : ∀ w ∈ wsX50, w ∈ wsX5_depthOf := by decide +kernel
theorem lk_X5_depthOf_30 : Cond.fieldLink RX5 30 RX5 "depth" "[I" ∈ wsX5_depthOf := by decide +kernel
theorem c_depthOf (hG : GP G) (hP : PlanS S p) {t : Int} : Ct G l yX5_depthOf wsX5_depthOf 1 0 0 [.ref p, .int (I32 t)] S n (putK mu p 14 P) la (Dt (some (.int (I32 (gK P 7 49 t)))) S n (putK mu p 14 P) la) := by
  have o5 := hP.1
  refine Ct.ofV (cc := cX5_depthOf) (nL := 2) (ret := (some .int)) [some (.ref p), some (.int (I32 t))] hG (by decide) rfl (Nat.le_of_ble_eq_true rfl) rfl ?_
  rintro X rfl rfl C hcl hsl E
  refine V_aload_n C dX5_depthOf_0 rfl ?_
  refine V_getR C 6 dX5_depthOf_1 o5 rfl hin_X5_depthOf_X5 (by decide) lk_X5_depthOf_30 rfl rfl ?_
  refine V_iload_n C dX5_depthOf_4 rfl ?_
  refine V_callSND (nA := 2) (host := "DockTree") C dX5_depthOf_5 (c_aK C.gp hP 7 49 rfl (by decide)) gX5_depthOf_X8_at_n54 (by decide +kernel) (by decide +kernel) (by decide +kernel) rfl (by decide +kernel) rfl (by decide) (by decide) (Nat.le_of_ble_eq_true rfl) ⟨by omega, by omega⟩ rfl ?_
  refine V_ireturn C E dX5_depthOf_8 (by omega) (by omega) ?_
  exact Dt_rfl
def spnF (P : Mem) (t x f c : Int) : Mem := sK (sK P 5 98 (2 * t + x) f) 6 98 (2 * t + x) c
theorem spnF_R {P : Mem} (h : R32 P) (t x f c : Int) : R32 (spnF P t x f c) := R32_sK (R32_sK h _ _ _ _) _ _ _ _
theorem spnF_k {P : Mem} {k : Nat} (h5 : k ≠ 5) (h6 : k ≠ 6) (t x f c i : Int) : spnF P t x f c k i = P k i := by
  unfold spnF
  rw [sK_ne h6, sK_ne h5]
theorem gK_spnF {P : Mem} {k m : Nat} (h5 : k ≠ 5) (h6 : k ≠ 6) (t x f c i : Int) : gK (spnF P t x f c) k m i = gK P k m i := by
  unfold gK atF
  rw [spnF_k h5 h6]
set_option maxRecDepth 20000 in
theorem ggX5_setSpan_X8_put : GoodIn wsX5_setSpan wsX8_put := goodIn_r _ [5] (by decide +kernel) (by decide +kernel)
set_option maxRecDepth 20000 in
theorem gX5_setSpan_X8_put_n123 : GoodIn wsX5_setSpan (wsX8_put) := ggX5_setSpan_X8_put
theorem dX5_setSpan_0 : decode cX5_setSpan 0 = .ok (.aload_n 0, 1) := by decide +kernel
theorem dX5_setSpan_1 : decode cX5_setSpan 1 = .ok (.getfield 24, 3) := by decide +kernel
theorem dX5_setSpan_4 : decode cX5_setSpan 4 = .ok (.iconst 2, 1) := by decide +kernel
theorem dX5_setSpan_5 : decode cX5_setSpan 5 = .ok (.iload_n 1, 1) := by decide +kernel
theorem dX5_setSpan_6 : decode cX5_setSpan 6 = .ok (.imul, 1) := by decide +kernel
theorem dX5_setSpan_7 : decode cX5_setSpan 7 = .ok (.iload_n 2, 1) := by decide +kernel
theorem dX5_setSpan_8 : decode cX5_setSpan 8 = .ok (.iadd, 1) := by decide +kernel
theorem dX5_setSpan_9 : decode cX5_setSpan 9 = .ok (.iload_n 3, 1) := by decide +kernel
theorem dX5_setSpan_10 : decode cX5_setSpan 10 = .ok (.invokestatic 123, 3) := by decide +kernel
theorem dX5_setSpan_13 : decode cX5_setSpan 13 = .ok (.aload_n 0, 1) := by decide +kernel
theorem dX5_setSpan_14 : decode cX5_setSpan 14 = .ok (.getfield 27, 3) := by decide +kernel
theorem dX5_setSpan_17 : decode cX5_setSpan 17 = .ok (.iconst 2, 1) := by decide +kernel
theorem dX5_setSpan_18 : decode cX5_setSpan 18 = .ok (.iload_n 1, 1) := by decide +kernel
theorem dX5_setSpan_19 : decode cX5_setSpan 19 = .ok (.imul, 1) := by decide +kernel
theorem dX5_setSpan_20 : decode cX5_setSpan 20 = .ok (.iload_n 2, 1) := by decide +kernel
theorem dX5_setSpan_21 : decode cX5_setSpan 21 = .ok (.iadd, 1) := by decide +kernel
theorem dX5_setSpan_22 : decode cX5_setSpan 22 = .ok (.iload 4, 2) := by decide +kernel
theorem dX5_setSpan_24 : decode cX5_setSpan 24 = .ok (.invokestatic 123, 3) := by decide +kernel
theorem dX5_setSpan_27 : decode cX5_setSpan 27 = .ok (.return_, 1) := by decide +kernel
theorem hin_X5_setSpan_X5 : ∀ w ∈ wsX50, w ∈ wsX5_setSpan := by decide +kernel
theorem lk_X5_setSpan_24 : Cond.fieldLink RX5 24 RX5 "start" "[I" ∈ wsX5_setSpan := by decide +kernel
theorem lk_X5_setSpan_27 : Cond.fieldLink RX5 27 RX5 "size" "[I" ∈ wsX5_setSpan := by decide +kernel
theorem c_setSpan (hG : GP G) (hP : PlanS S p) {t x f c : Int} : Ct G l yX5_setSpan wsX5_setSpan 1 0 0 [.ref p, .int (I32 t), .int (I32 x), .int (I32 f), .int (I32 c)] S n (putK mu p 14 P) la (Dt none S n (putK mu p 14 (spnF P t x f c)) la) := by
  have o5 := hP.1
  refine Ct.ofV (cc := cX5_setSpan) (nL := 5) (ret := none) [some (.ref p), some (.int (I32 t)), some (.int (I32 x)), some (.int (I32 f)), some (.int (I32 c))] hG (by decide) rfl (Nat.le_of_ble_eq_true rfl) rfl ?_
  rintro X rfl rfl C hcl hsl E
  refine V_aload_n C dX5_setSpan_0 rfl ?_
  refine V_getR C 4 dX5_setSpan_1 o5 rfl hin_X5_setSpan_X5 (by decide) lk_X5_setSpan_24 rfl rfl ?_
  refine V_iconst C dX5_setSpan_4 ?_
  refine V_iload_n C dX5_setSpan_5 rfl ?_
  refine V_imul C dX5_setSpan_6 ?_
  refine V_iload_n C dX5_setSpan_7 rfl ?_
  refine V_iadd C dX5_setSpan_8 ?_
  refine V_iload_n C dX5_setSpan_9 rfl ?_
  refine V_callSND (nA := 3) (host := "DockTree") C dX5_setSpan_10 (c_pK C.gp hP 5 98 rfl (by decide)) gX5_setSpan_X8_put_n123 (by decide +kernel) (by decide +kernel) (by decide +kernel) rfl (by decide +kernel) rfl (by decide) (by decide) (Nat.le_of_ble_eq_true rfl) ⟨by omega, by omega⟩ rfl ?_
  refine V_aload_n C dX5_setSpan_13 rfl ?_
  refine V_getR C 5 dX5_setSpan_14 o5 rfl hin_X5_setSpan_X5 (by decide) lk_X5_setSpan_27 rfl rfl ?_
  refine V_iconst C dX5_setSpan_17 ?_
  refine V_iload_n C dX5_setSpan_18 rfl ?_
  refine V_imul C dX5_setSpan_19 ?_
  refine V_iload_n C dX5_setSpan_20 rfl ?_
  refine V_iadd C dX5_setSpan_21 ?_
  refine V_iload C dX5_setSpan_22 rfl ?_
  refine V_callSND (nA := 3) (host := "DockTree") C dX5_setSpan_24 (c_pK C.gp hP 6 98 rfl (by decide)) gX5_setSpan_X8_put_n123 (by decide +kernel) (by decide +kernel) (by decide +kernel) rfl (by decide +kernel) rfl (by decide) (by decide) (Nat.le_of_ble_eq_true rfl) ⟨by omega, by omega⟩ rfl ?_
  refine V_return C E dX5_setSpan_27 (by omega) (by omega) ?_
  exact Dt_rfl
def lmG (P L : Mem) : Nat → Mem
  | 0 => fun x i => if x = 1 ∧ 0 ≤ i ∧ i < 528 then -1 else P x i
  | j + 1 => if gL L 0 j = -1 then lmG P L j else sK (lmG P L j) 1 528 ((gL L 0 j - 16) * 16 + gL L 1 j) j
def lmF (P L : Mem) : Mem := lmG P L 49
theorem lmG_R {P : Mem} (h : R32 P) (L : Mem) : ∀ j, R32 (lmG P L j)
  | 0 => by
    intro x i
    show _ ≤ (if x = 1 ∧ 0 ≤ i ∧ i < 528 then -1 else P x i) ∧ (if x = 1 ∧ 0 ≤ i ∧ i < 528 then -1 else P x i) ≤ _
    split
    · omega
    · exact h x i
  | j + 1 => by
    rw [lmG]
    split
    · exact lmG_R h L j
    · exact R32_sK (lmG_R h L j) _ _ _ _
theorem gL_b {L : Mem} (h : R32 L) (k : Nat) (i : Int) : -2147483648 ≤ gL L k i ∧ gL L k i ≤ 2147483647 := R32_gK h _ _ _
set_option maxRecDepth 20000 in
theorem ggX5_listMembers_J7_fill_53178 : GoodIn wsX5_listMembers wsJ7_fill_53178 := goodIn_r _ [5] (by decide +kernel) (by decide +kernel)
set_option maxRecDepth 20000 in
theorem gX5_listMembers_J7_fill_53178 : GoodIn wsX5_listMembers (va_wsS RX5 108 yJ7_fill_53178 wsJ7_fill_53178) := goodIn_app (goodIn_of _ (by decide +kernel)) ggX5_listMembers_J7_fill_53178
set_option maxRecDepth 20000 in
theorem ggX5_listMembers_X4_holderOf : GoodIn wsX5_listMembers wsX4_holderOf := goodIn_r _ [10, 11, 12, 13, 14, 35, 36, 37, 38, 39, 40, 41, 42] (by decide +kernel) (by decide +kernel)
set_option maxRecDepth 20000 in
theorem gX5_listMembers_X4_holderOf : GoodIn wsX5_listMembers (wsV RX5 114 RX4 yX4_holderOf wsX4_holderOf) := goodIn_app (goodIn_of _ (by decide +kernel)) ggX5_listMembers_X4_holderOf
set_option maxRecDepth 20000 in
theorem ggX5_listMembers_X4_placeOf : GoodIn wsX5_listMembers wsX4_placeOf := goodIn_r _ [18, 19, 12, 13, 14, 35, 36, 37, 38, 39, 40, 41, 42] (by decide +kernel) (by decide +kernel)
set_option maxRecDepth 20000 in
theorem gX5_listMembers_X4_placeOf : GoodIn wsX5_listMembers (wsV RX5 120 RX4 yX4_placeOf wsX4_placeOf) := goodIn_app (goodIn_of _ (by decide +kernel)) ggX5_listMembers_X4_placeOf
set_option maxRecDepth 20000 in
theorem ggX5_listMembers_X8_put : GoodIn wsX5_listMembers wsX8_put := goodIn_r _ [21] (by decide +kernel) (by decide +kernel)
set_option maxRecDepth 20000 in
theorem gX5_listMembers_X8_put_n123 : GoodIn wsX5_listMembers (wsX8_put) := ggX5_listMembers_X8_put
theorem dX5_listMembers_0 : decode cX5_listMembers 0 = .ok (.aload_n 0, 1) := by decide +kernel
theorem dX5_listMembers_1 : decode cX5_listMembers 1 = .ok (.getfield 9, 3) := by decide +kernel
theorem dX5_listMembers_4 : decode cX5_listMembers 4 = .ok (.iconst (-1), 1) := by decide +kernel
theorem dX5_listMembers_5 : decode cX5_listMembers 5 = .ok (.invokestatic 108, 3) := by decide +kernel
theorem dX5_listMembers_8 : decode cX5_listMembers 8 = .ok (.iconst 0, 1) := by decide +kernel
theorem dX5_listMembers_9 : decode cX5_listMembers 9 = .ok (.istore_n 2, 1) := by decide +kernel
theorem dX5_listMembers_10 : decode cX5_listMembers 10 = .ok (.iload_n 2, 1) := by decide +kernel
theorem dX5_listMembers_11 : decode cX5_listMembers 11 = .ok (.bipush 49, 2) := by decide +kernel
theorem dX5_listMembers_13 : decode cX5_listMembers 13 = .ok (.if_icmp .ge 41, 3) := by decide +kernel
theorem dX5_listMembers_16 : decode cX5_listMembers 16 = .ok (.aload_n 1, 1) := by decide +kernel
theorem dX5_listMembers_17 : decode cX5_listMembers 17 = .ok (.iload_n 2, 1) := by decide +kernel
theorem dX5_listMembers_18 : decode cX5_listMembers 18 = .ok (.invokevirtual 114, 3) := by decide +kernel
theorem dX5_listMembers_21 : decode cX5_listMembers 21 = .ok (.istore_n 3, 1) := by decide +kernel
theorem dX5_listMembers_22 : decode cX5_listMembers 22 = .ok (.iload_n 3, 1) := by decide +kernel
theorem dX5_listMembers_23 : decode cX5_listMembers 23 = .ok (.iconst (-1), 1) := by decide +kernel
theorem dX5_listMembers_24 : decode cX5_listMembers 24 = .ok (.if_icmp .eq 24, 3) := by decide +kernel
theorem dX5_listMembers_27 : decode cX5_listMembers 27 = .ok (.aload_n 0, 1) := by decide +kernel
theorem dX5_listMembers_28 : decode cX5_listMembers 28 = .ok (.getfield 9, 3) := by decide +kernel
theorem dX5_listMembers_31 : decode cX5_listMembers 31 = .ok (.iload_n 3, 1) := by decide +kernel
theorem dX5_listMembers_32 : decode cX5_listMembers 32 = .ok (.bipush 16, 2) := by decide +kernel
theorem dX5_listMembers_34 : decode cX5_listMembers 34 = .ok (.isub, 1) := by decide +kernel
theorem dX5_listMembers_35 : decode cX5_listMembers 35 = .ok (.bipush 16, 2) := by decide +kernel
theorem dX5_listMembers_37 : decode cX5_listMembers 37 = .ok (.imul, 1) := by decide +kernel
theorem dX5_listMembers_38 : decode cX5_listMembers 38 = .ok (.aload_n 1, 1) := by decide +kernel
theorem dX5_listMembers_39 : decode cX5_listMembers 39 = .ok (.iload_n 2, 1) := by decide +kernel
theorem dX5_listMembers_40 : decode cX5_listMembers 40 = .ok (.invokevirtual 120, 3) := by decide +kernel
theorem dX5_listMembers_43 : decode cX5_listMembers 43 = .ok (.iadd, 1) := by decide +kernel
theorem dX5_listMembers_44 : decode cX5_listMembers 44 = .ok (.iload_n 2, 1) := by decide +kernel
theorem dX5_listMembers_45 : decode cX5_listMembers 45 = .ok (.invokestatic 123, 3) := by decide +kernel
theorem dX5_listMembers_48 : decode cX5_listMembers 48 = .ok (.iinc 2 1, 3) := by decide +kernel
theorem dX5_listMembers_51 : decode cX5_listMembers 51 = .ok (.goto (-41), 3) := by decide +kernel
theorem dX5_listMembers_54 : decode cX5_listMembers 54 = .ok (.return_, 1) := by decide +kernel
theorem hin_X5_listMembers_X5 : ∀ w ∈ wsX50, w ∈ wsX5_listMembers := by decide +kernel
theorem lk_X5_listMembers_9 : Cond.fieldLink RX5 9 RX5 "members" "[I" ∈ wsX5_listMembers := by decide +kernel
theorem c_listMembers (hG : GP G) (hP : PlanS S p) (hL : LayS S b) (hA : LayAt mu b L) (hd : b + 8 < p ∨ p + 14 ≤ b + 1) (hRL : R32 L) : Ct G l yX5_listMembers wsX5_listMembers 2 0 0 [.ref p, .ref b] S n (putK mu p 14 P) la (Dt none S n (putK mu p 14 (lmF P L)) la) := by
  have o5 := hP.1
  have o4 := hL.1
  refine Ct.ofV (cc := cX5_listMembers) (nL := 4) (ret := none) [some (.ref p), some (.ref b), none, none] hG (by decide) rfl (Nat.le_of_ble_eq_true rfl) rfl ?_
  rintro X rfl rfl C hcl hsl E
  have loop : ∀ (d j : Nat) (w : Option Value), j + d = 49 → V X 10 [some (.ref p), some (.ref b), some (.int (I32 (j : Int))), w] [] S n (putK mu p 14 (lmG P L j)) la 0 0 := by
    intro d
    induction d with
    | zero =>
      intro j w hj
      have e : j = 49 := by omega
      subst e
      refine V_iload_n C dX5_listMembers_10 rfl ?_
      refine V_bipush C dX5_listMembers_11 (by decide +kernel) ?_
      refine V_icmp_ge C 54 dX5_listMembers_13 (by decide) (by omega) (by omega) (fun q => ?_) (fun q => ?_)
      · refine V_return C E dX5_listMembers_54 (by omega) (by omega) ?_
        exact Dt_rfl
      · exact absurd q (by omega)
    | succ d ih =>
      intro j w hj
      have hn : ((j + 1 : Nat) : Int) = (j : Int) + 1 := by omega
      have b0 := gL_b hRL 0 j
      have h9 := ih (j + 1) (some (.int (I32 (gL L 0 j)))) (by omega)
      rw [lmG, hn] at h9
      refine V_iload_n C dX5_listMembers_10 rfl ?_
      refine V_bipush C dX5_listMembers_11 (by decide +kernel) ?_
      refine V_icmp_ge C 54 dX5_listMembers_13 (by decide) (by omega) (by omega) (fun q => ?_) (fun q => ?_)
      · exact absurd q (by omega)
      · refine V_aload_n C dX5_listMembers_16 rfl ?_
        refine V_iload_n C dX5_listMembers_17 rfl ?_
        refine V_callVD (nA := 1) C dX5_listMembers_18 (r_holderOf C.gp hL (LayAt_putK hA hd)) gX5_listMembers_X4_holderOf rfl o4 rfl (by decide +kernel) rfl (by decide) (by decide) (Nat.le_of_ble_eq_true rfl) ⟨by omega, by omega⟩ rfl ?_
        refine V_istore_n C dX5_listMembers_21 rfl (by decide) ?_
        refine V_iload_n C dX5_listMembers_22 rfl ?_
        refine V_iconst C dX5_listMembers_23 ?_
        refine V_icmp_eq C 48 dX5_listMembers_24 (by decide) (by omega) (by omega) (fun q2 => ?_) (fun q2 => ?_)
        · rw [if_pos q2] at h9
          refine V_iinc C dX5_listMembers_48 rfl rfl (by decide) ?_
          refine V_goto C 10 dX5_listMembers_51 (by decide) ?_
          exact h9
        · rw [if_neg q2] at h9
          refine V_aload_n C dX5_listMembers_27 rfl ?_
          refine V_getR C 0 dX5_listMembers_28 o5 rfl hin_X5_listMembers_X5 (by decide) lk_X5_listMembers_9 rfl rfl ?_
          refine V_iload_n C dX5_listMembers_31 rfl ?_
          refine V_bipush C dX5_listMembers_32 (by decide +kernel) ?_
          refine V_isub C dX5_listMembers_34 ?_
          refine V_bipush C dX5_listMembers_35 (by decide +kernel) ?_
          refine V_imul C dX5_listMembers_37 ?_
          refine V_aload_n C dX5_listMembers_38 rfl ?_
          refine V_iload_n C dX5_listMembers_39 rfl ?_
          refine V_callVD (nA := 1) C dX5_listMembers_40 (r_placeOf C.gp hL (LayAt_putK hA hd)) gX5_listMembers_X4_placeOf rfl o4 rfl (by decide +kernel) rfl (by decide) (by decide) (Nat.le_of_ble_eq_true rfl) ⟨by omega, by omega⟩ rfl ?_
          refine V_iadd C dX5_listMembers_43 ?_
          refine V_iload_n C dX5_listMembers_44 rfl ?_
          refine V_callSND (nA := 3) (host := "DockTree") C dX5_listMembers_45 (c_pK C.gp hP 1 528 rfl (by decide)) gX5_listMembers_X8_put_n123 (by decide +kernel) (by decide +kernel) (by decide +kernel) rfl (by decide +kernel) rfl (by decide) (by decide) (Nat.le_of_ble_eq_true rfl) ⟨by omega, by omega⟩ rfl ?_
          refine V_iinc C dX5_listMembers_48 rfl rfl (by decide) ?_
          refine V_goto C 10 dX5_listMembers_51 (by decide) ?_
          exact h9
  refine V_aload_n C dX5_listMembers_0 rfl ?_
  refine V_getR C 0 dX5_listMembers_1 o5 rfl hin_X5_listMembers_X5 (by decide) lk_X5_listMembers_9 rfl rfl ?_
  refine V_iconst C dX5_listMembers_4 ?_
  refine V_callSD (nA := 2) C dX5_listMembers_5 (c_fill C.gp (hP.2.2 1 (by decide)) (by decide)) gX5_listMembers_J7_fill_53178 rfl (by decide +kernel) rfl (by decide) (by decide) (Nat.le_of_ble_eq_true rfl) ⟨by omega, by omega⟩ rfl ?_
  rw [show flR (putK mu p 14 P) (p + 1) (plen 1) (-1) (plen 1) = putK mu p 14 (lmG P L 0) by
    funext x i
    unfold flR
    show _ = (if p ≤ x ∧ x < p + 14 then (if x - p = 1 ∧ 0 ≤ i ∧ i < 528 then -1 else P (x - p) i) else mu x i)
    show (if x = p + 1 ∧ 0 ≤ i ∧ i < ((528 : Nat) : Int) ∧ i < ((528 : Nat) : Int) then -1 else (if p ≤ x ∧ x < p + 14 then P (x - p) i else mu x i)) = _
    by_cases h1 : p ≤ x ∧ x < p + 14
    · rw [if_pos h1, if_pos h1]
      by_cases h2 : x = p + 1 ∧ 0 ≤ i ∧ i < 528
      · rw [if_pos (by omega), if_pos (by omega)]
      · rw [if_neg (by omega), if_neg (by omega)]
    · rw [if_neg h1, if_neg h1, if_neg (by omega)]]
  refine V_iconst C dX5_listMembers_8 ?_
  refine V_istore_n C dX5_listMembers_9 rfl (by decide) ?_
  exact loop 49 0 none (by omega)
end PC
