/-! A plan that is read -/
def cvF (P : Mem) (g x y : Int) : Int := if (0 ≤ wr (x - gK P 5 98 (2 * g + 0)) ∧ wr (x - gK P 5 98 (2 * g + 0)) < gK P 6 98 (2 * g + 0)) ∧ 0 ≤ wr (y - gK P 5 98 (2 * g + 1)) ∧ wr (y - gK P 5 98 (2 * g + 1)) < gK P 6 98 (2 * g + 1) then 1 else 0
theorem cvF_b (P : Mem) (g x y : Int) : 0 ≤ cvF P g x y ∧ cvF P g x y ≤ 1 := by unfold cvF; split <;> omega
def tgG (P : Mem) (x y : Int) : Nat → Nat → Int
  | 0, _ => -1
  | d + 1, j => if ¬ (32 ≤ gK P 2 31 j ∧ gK P 2 31 j < 47) ∧ cvF P (gK P 2 31 j) x y = 1 then gK P 2 31 j else tgG P x y d (j + 1)
def tgF (P : Mem) (x y : Int) : Int := tgG P x y (P 0 9).toNat 0
def tnG (P : Mem) (i : Int) : Nat → Nat → Int → Int
  | 0, _, _ => -1
  | d + 1, j, a => if 32 ≤ gK P 2 31 j ∧ gK P 2 31 j < 47 then tnG P i d (j + 1) a else if a = i then gK P 2 31 j else tnG P i d (j + 1) (a + 1)
def tnF (P : Mem) (i : Int) : Int := tnG P i (P 0 9).toNat 0 0
def spaF (P : Mem) (t x : Int) : Int := gK P 6 98 (2 * t + x) - gK P 4 98 (2 * t + x)
def rbF (P : Mem) (t : Int) : Int := max 0 (wr (gK P 6 98 (2 * t + 1) - 1))
def tiF (P : Mem) (t : Int) : Int := if gK P 8 49 t = 1 then 1 else 0
def lrF (P : Mem) (x : Int) : Int := if 0 < P 0 9 then gK P 4 98 (2 * gK P 2 31 0 + x) else 0
theorem tiF_b (P : Mem) (t : Int) : 0 ≤ tiF P t ∧ tiF P t ≤ 1 := by unfold tiF; split <;> omega
section PC
variable {G : Gx} {l : Launch} {S : Sh} {n : Nat} {mu : Mem} {la : Lam} {p : Nat} {P : Mem}
theorem dX5_groups_0 : decode cX5_groups 0 = .ok (.aload_n 0, 1) := by decide +kernel
theorem dX5_groups_1 : decode cX5_groups 1 = .ok (.getfield 50, 3) := by decide +kernel
theorem dX5_groups_4 : decode cX5_groups 4 = .ok (.aload_n 0, 1) := by decide +kernel
theorem dX5_groups_5 : decode cX5_groups 5 = .ok (.getfield 86, 3) := by decide +kernel
theorem dX5_groups_8 : decode cX5_groups 8 = .ok (.isub, 1) := by decide +kernel
theorem dX5_groups_9 : decode cX5_groups 9 = .ok (.ireturn, 1) := by decide +kernel
theorem hin_X5_groups_X5 : ∀ w ∈ wsX50, w ∈ wsX5_groups := by decide +kernel
theorem lk_X5_groups_50 : Cond.fieldLink RX5 50 RX5 "nodes" "I" ∈ wsX5_groups := by decide +kernel
theorem lk_X5_groups_86 : Cond.fieldLink RX5 86 RX5 "splits" "I" ∈ wsX5_groups := by decide +kernel
theorem c_groups (hG : GP G) (hP : PlanS S p) : Ct G l yX5_groups wsX5_groups 0 0 0 [.ref p] S n (putK mu p 14 P) la (Dt (some (.int (I32 (P 0 9 - P 0 10)))) S n (putK mu p 14 P) la) := by
  have o5 := hP.1
  refine Ct.ofV (cc := cX5_groups) (nL := 1) (ret := (some .int)) [some (.ref p)] hG (by decide) rfl (Nat.le_of_ble_eq_true rfl) rfl ?_
  rintro X rfl rfl C hcl hsl E
  refine V_aload_n C dX5_groups_0 rfl ?_
  refine V_getJ C 9 9 rfl dX5_groups_1 o5 rfl hin_X5_groups_X5 (by decide) lk_X5_groups_50 rfl rfl (putK_0 (by decide) _) ?_
  refine V_aload_n C dX5_groups_4 rfl ?_
  refine V_getJ C 10 10 rfl dX5_groups_5 o5 rfl hin_X5_groups_X5 (by decide) lk_X5_groups_86 rfl rfl (putK_0 (by decide) _) ?_
  refine V_isub C dX5_groups_8 ?_
  refine V_ireturn C E dX5_groups_9 (by omega) (by omega) ?_
  exact Dt_rfl
theorem dX5_splits_0 : decode cX5_splits 0 = .ok (.aload_n 0, 1) := by decide +kernel
theorem dX5_splits_1 : decode cX5_splits 1 = .ok (.getfield 86, 3) := by decide +kernel
theorem dX5_splits_4 : decode cX5_splits 4 = .ok (.ireturn, 1) := by decide +kernel
theorem hin_X5_splits_X5 : ∀ w ∈ wsX50, w ∈ wsX5_splits := by decide +kernel
theorem lk_X5_splits_86 : Cond.fieldLink RX5 86 RX5 "splits" "I" ∈ wsX5_splits := by decide +kernel
theorem c_splits (hG : GP G) (hP : PlanS S p) : Ct G l yX5_splits wsX5_splits 0 0 0 [.ref p] S n (putK mu p 14 P) la (Dt (some (.int (I32 (P 0 10)))) S n (putK mu p 14 P) la) := by
  have o5 := hP.1
  refine Ct.ofV (cc := cX5_splits) (nL := 1) (ret := (some .int)) [some (.ref p)] hG (by decide) rfl (Nat.le_of_ble_eq_true rfl) rfl ?_
  rintro X rfl rfl C hcl hsl E
  refine V_aload_n C dX5_splits_0 rfl ?_
  refine V_getJ C 10 10 rfl dX5_splits_1 o5 rfl hin_X5_splits_X5 (by decide) lk_X5_splits_86 rfl rfl (putK_0 (by decide) _) ?_
  refine V_ireturn C E dX5_splits_4 (by omega) (by omega) ?_
  exact Dt_rfl
theorem dX5_tightSplits_0 : decode cX5_tightSplits 0 = .ok (.aload_n 0, 1) := by decide +kernel
theorem dX5_tightSplits_1 : decode cX5_tightSplits 1 = .ok (.getfield 69, 3) := by decide +kernel
theorem dX5_tightSplits_4 : decode cX5_tightSplits 4 = .ok (.ireturn, 1) := by decide +kernel
theorem hin_X5_tightSplits_X5 : ∀ w ∈ wsX50, w ∈ wsX5_tightSplits := by decide +kernel
theorem lk_X5_tightSplits_69 : Cond.fieldLink RX5 69 RX5 "tightSplits" "I" ∈ wsX5_tightSplits := by decide +kernel
theorem c_tightSplits (hG : GP G) (hP : PlanS S p) : Ct G l yX5_tightSplits wsX5_tightSplits 0 0 0 [.ref p] S n (putK mu p 14 P) la (Dt (some (.int (I32 (P 0 11)))) S n (putK mu p 14 P) la) := by
  have o5 := hP.1
  refine Ct.ofV (cc := cX5_tightSplits) (nL := 1) (ret := (some .int)) [some (.ref p)] hG (by decide) rfl (Nat.le_of_ble_eq_true rfl) rfl ?_
  rintro X rfl rfl C hcl hsl E
  refine V_aload_n C dX5_tightSplits_0 rfl ?_
  refine V_getJ C 11 11 rfl dX5_tightSplits_1 o5 rfl hin_X5_tightSplits_X5 (by decide) lk_X5_tightSplits_69 rfl rfl (putK_0 (by decide) _) ?_
  refine V_ireturn C E dX5_tightSplits_4 (by omega) (by omega) ?_
  exact Dt_rfl
theorem dX5_dividerCells_0 : decode cX5_dividerCells 0 = .ok (.aload_n 0, 1) := by decide +kernel
theorem dX5_dividerCells_1 : decode cX5_dividerCells 1 = .ok (.getfield 72, 3) := by decide +kernel
theorem dX5_dividerCells_4 : decode cX5_dividerCells 4 = .ok (.ireturn, 1) := by decide +kernel
theorem hin_X5_dividerCells_X5 : ∀ w ∈ wsX50, w ∈ wsX5_dividerCells := by decide +kernel
theorem lk_X5_dividerCells_72 : Cond.fieldLink RX5 72 RX5 "dividerCells" "I" ∈ wsX5_dividerCells := by decide +kernel
theorem c_dividerCells (hG : GP G) (hP : PlanS S p) : Ct G l yX5_dividerCells wsX5_dividerCells 0 0 0 [.ref p] S n (putK mu p 14 P) la (Dt (some (.int (I32 (P 0 12)))) S n (putK mu p 14 P) la) := by
  have o5 := hP.1
  refine Ct.ofV (cc := cX5_dividerCells) (nL := 1) (ret := (some .int)) [some (.ref p)] hG (by decide) rfl (Nat.le_of_ble_eq_true rfl) rfl ?_
  rintro X rfl rfl C hcl hsl E
  refine V_aload_n C dX5_dividerCells_0 rfl ?_
  refine V_getJ C 12 12 rfl dX5_dividerCells_1 o5 rfl hin_X5_dividerCells_X5 (by decide) lk_X5_dividerCells_72 rfl rfl (putK_0 (by decide) _) ?_
  refine V_ireturn C E dX5_dividerCells_4 (by omega) (by omega) ?_
  exact Dt_rfl
set_option maxRecDepth 20000 in
theorem ggX5_leastOfRoot_X8_at : GoodIn wsX5_leastOfRoot wsX8_at := goodIn_r _ [5] (by decide +kernel) (by decide +kernel)
set_option maxRecDepth 20000 in
theorem gX5_leastOfRoot_X8_at_n54 : GoodIn wsX5_leastOfRoot (wsX8_at) := ggX5_leastOfRoot_X8_at
set_option maxRecDepth 20000 in
theorem ggX5_leastOfRoot_X5_leastOf : GoodIn wsX5_leastOfRoot wsX5_leastOf := goodIn_r _ [10, 11, 3, 4, 5, 12, 13, 14, 15, 16, 17, 18, 19, 20, 21, 22, 23, 24] (by decide +kernel) (by decide +kernel)
set_option maxRecDepth 20000 in
theorem gX5_leastOfRoot_X5_leastOf : GoodIn wsX5_leastOfRoot (wsV RX5 89 RX5 yX5_leastOf wsX5_leastOf) := goodIn_app (goodIn_of _ (by decide +kernel)) ggX5_leastOfRoot_X5_leastOf
theorem dX5_leastOfRoot_0 : decode cX5_leastOfRoot 0 = .ok (.aload_n 0, 1) := by decide +kernel
theorem dX5_leastOfRoot_1 : decode cX5_leastOfRoot 1 = .ok (.getfield 50, 3) := by decide +kernel
theorem dX5_leastOfRoot_4 : decode cX5_leastOfRoot 4 = .ok (.ifCond .le 19, 3) := by decide +kernel
theorem dX5_leastOfRoot_7 : decode cX5_leastOfRoot 7 = .ok (.aload_n 0, 1) := by decide +kernel
theorem dX5_leastOfRoot_8 : decode cX5_leastOfRoot 8 = .ok (.aload_n 0, 1) := by decide +kernel
theorem dX5_leastOfRoot_9 : decode cX5_leastOfRoot 9 = .ok (.getfield 15, 3) := by decide +kernel
theorem dX5_leastOfRoot_12 : decode cX5_leastOfRoot 12 = .ok (.iconst 0, 1) := by decide +kernel
theorem dX5_leastOfRoot_13 : decode cX5_leastOfRoot 13 = .ok (.invokestatic 54, 3) := by decide +kernel
theorem dX5_leastOfRoot_16 : decode cX5_leastOfRoot 16 = .ok (.iload_n 1, 1) := by decide +kernel
theorem dX5_leastOfRoot_17 : decode cX5_leastOfRoot 17 = .ok (.invokevirtual 89, 3) := by decide +kernel
theorem dX5_leastOfRoot_20 : decode cX5_leastOfRoot 20 = .ok (.goto 4, 3) := by decide +kernel
theorem dX5_leastOfRoot_23 : decode cX5_leastOfRoot 23 = .ok (.iconst 0, 1) := by decide +kernel
theorem dX5_leastOfRoot_24 : decode cX5_leastOfRoot 24 = .ok (.ireturn, 1) := by decide +kernel
theorem hin_X5_leastOfRoot_X5 : ∀ w ∈ wsX50, w ∈ wsX5_leastOfRoot := by decide +kernel
theorem lk_X5_leastOfRoot_50 : Cond.fieldLink RX5 50 RX5 "nodes" "I" ∈ wsX5_leastOfRoot := by decide +kernel
theorem lk_X5_leastOfRoot_15 : Cond.fieldLink RX5 15 RX5 "order" "[I" ∈ wsX5_leastOfRoot := by decide +kernel
theorem c_leastOfRoot (hG : GP G) (hP : PlanS S p) (hR : R32 P) {x : Int} : Ct G l yX5_leastOfRoot wsX5_leastOfRoot 2 0 0 [.ref p, .int (I32 x)] S n (putK mu p 14 P) la (Dt (some (.int (I32 (lrF P x)))) S n (putK mu p 14 P) la) := by
  have o5 := hP.1
  have h9 := hR 0 9
  refine Ct.ofV (cc := cX5_leastOfRoot) (nL := 2) (ret := (some .int)) [some (.ref p), some (.int (I32 x))] hG (by decide) rfl (Nat.le_of_ble_eq_true rfl) rfl ?_
  rintro X rfl rfl C hcl hsl E
  refine V_aload_n C dX5_leastOfRoot_0 rfl ?_
  refine V_getJ C 9 9 rfl dX5_leastOfRoot_1 o5 rfl hin_X5_leastOfRoot_X5 (by decide) lk_X5_leastOfRoot_50 rfl rfl (putK_0 (by decide) _) ?_
  refine V_if_le C 23 dX5_leastOfRoot_4 (by decide) (by omega) (fun q => ?_) (fun q => ?_)
  · refine V_iconst C dX5_leastOfRoot_23 ?_
    refine V_ireturn C E dX5_leastOfRoot_24 (by omega) (by omega) ?_
    rw [lrF, if_neg (by omega)]; exact Dt_rfl
  · refine V_aload_n C dX5_leastOfRoot_7 rfl ?_
    refine V_aload_n C dX5_leastOfRoot_8 rfl ?_
    refine V_getR C 1 dX5_leastOfRoot_9 o5 rfl hin_X5_leastOfRoot_X5 (by decide) lk_X5_leastOfRoot_15 rfl rfl ?_
    refine V_iconst C dX5_leastOfRoot_12 ?_
    refine V_callSND (nA := 2) (host := "DockTree") C dX5_leastOfRoot_13 (c_aK C.gp hP 2 31 rfl (by decide)) gX5_leastOfRoot_X8_at_n54 (by decide +kernel) (by decide +kernel) (by decide +kernel) rfl (by decide +kernel) rfl (by decide) (by decide) (Nat.le_of_ble_eq_true rfl) ⟨by omega, by omega⟩ rfl ?_
    refine V_iload_n C dX5_leastOfRoot_16 rfl ?_
    refine V_callVD (nA := 2) C dX5_leastOfRoot_17 (c_leastOf C.gp hP) gX5_leastOfRoot_X5_leastOf rfl o5 rfl (by decide +kernel) rfl (by decide) (by decide) (Nat.le_of_ble_eq_true rfl) ⟨by omega, by omega⟩ rfl ?_
    refine V_goto C 24 dX5_leastOfRoot_20 (by decide) ?_
    refine V_ireturn C E dX5_leastOfRoot_24 (by omega) (by omega) ?_
    rw [lrF, if_pos q]; exact Dt_rfl
set_option maxRecDepth 20000 in
theorem ggX5_rowsBelowTabs_X5_sizeOf : GoodIn wsX5_rowsBelowTabs wsX5_sizeOf := goodIn_r _ [9, 10, 11, 12, 13, 14, 15, 16, 17, 18, 19, 20, 21, 22, 23, 24, 25, 26] (by decide +kernel) (by decide +kernel)
set_option maxRecDepth 20000 in
theorem gX5_rowsBelowTabs_X5_sizeOf : GoodIn wsX5_rowsBelowTabs (wsV RX5 93 RX5 yX5_sizeOf wsX5_sizeOf) := goodIn_app (goodIn_of _ (by decide +kernel)) ggX5_rowsBelowTabs_X5_sizeOf
theorem dX5_rowsBelowTabs_0 : decode cX5_rowsBelowTabs 0 = .ok (.iconst 0, 1) := by decide +kernel
theorem dX5_rowsBelowTabs_1 : decode cX5_rowsBelowTabs 1 = .ok (.aload_n 0, 1) := by decide +kernel
theorem dX5_rowsBelowTabs_2 : decode cX5_rowsBelowTabs 2 = .ok (.iload_n 1, 1) := by decide +kernel
theorem dX5_rowsBelowTabs_3 : decode cX5_rowsBelowTabs 3 = .ok (.iconst 1, 1) := by decide +kernel
theorem dX5_rowsBelowTabs_4 : decode cX5_rowsBelowTabs 4 = .ok (.invokevirtual 93, 3) := by decide +kernel
theorem dX5_rowsBelowTabs_7 : decode cX5_rowsBelowTabs 7 = .ok (.iconst 1, 1) := by decide +kernel
theorem dX5_rowsBelowTabs_8 : decode cX5_rowsBelowTabs 8 = .ok (.isub, 1) := by decide +kernel
theorem dX5_rowsBelowTabs_9 : decode cX5_rowsBelowTabs 9 = .ok (.invokestatic 96, 3) := by decide +kernel
theorem dX5_rowsBelowTabs_12 : decode cX5_rowsBelowTabs 12 = .ok (.ireturn, 1) := by decide +kernel
theorem c_rowsBelowTabs (hG : GP G) (hP : PlanS S p) {t : Int} : Ct G l yX5_rowsBelowTabs wsX5_rowsBelowTabs 2 0 0 [.ref p, .int (I32 t)] S n (putK mu p 14 P) la (Dt (some (.int (I32 (rbF P t)))) S n (putK mu p 14 P) la) := by
  have o5 := hP.1
  refine Ct.ofV (cc := cX5_rowsBelowTabs) (nL := 2) (ret := (some .int)) [some (.ref p), some (.int (I32 t))] hG (by decide) rfl (Nat.le_of_ble_eq_true rfl) rfl ?_
  rintro X rfl rfl C hcl hsl E
  refine V_iconst C dX5_rowsBelowTabs_0 ?_
  refine V_aload_n C dX5_rowsBelowTabs_1 rfl ?_
  refine V_iload_n C dX5_rowsBelowTabs_2 rfl ?_
  refine V_iconst C dX5_rowsBelowTabs_3 ?_
  refine V_callVD (nA := 2) C dX5_rowsBelowTabs_4 (c_sizeOf C.gp hP) gX5_rowsBelowTabs_X5_sizeOf rfl o5 rfl (by decide +kernel) rfl (by decide) (by decide) (Nat.le_of_ble_eq_true rfl) ⟨by omega, by omega⟩ rfl ?_
  refine V_iconst C dX5_rowsBelowTabs_7 ?_
  refine V_isub C dX5_rowsBelowTabs_8 ?_
  refine V_wr ?_
  have bw := wr_b (gK P 6 98 (2 * t + 1) - 1)
  refine V_mmax C dX5_rowsBelowTabs_9 (by decide +kernel) (by decide +kernel) (by decide +kernel) (by decide +kernel) (by decide) (Nat.le_of_ble_eq_true rfl) ⟨by omega, by omega⟩ (by omega) (by omega) ?_
  refine V_ireturn C E dX5_rowsBelowTabs_12 (by omega) (by omega) ?_
  exact Dt_rfl
set_option maxRecDepth 20000 in
theorem ggX5_isTight_X8_at : GoodIn wsX5_isTight wsX8_at := goodIn_r _ [4] (by decide +kernel) (by decide +kernel)
set_option maxRecDepth 20000 in
theorem gX5_isTight_X8_at_n54 : GoodIn wsX5_isTight (wsX8_at) := ggX5_isTight_X8_at
theorem dX5_isTight_0 : decode cX5_isTight 0 = .ok (.aload_n 0, 1) := by decide +kernel
theorem dX5_isTight_1 : decode cX5_isTight 1 = .ok (.getfield 33, 3) := by decide +kernel
theorem dX5_isTight_4 : decode cX5_isTight 4 = .ok (.iload_n 1, 1) := by decide +kernel
theorem dX5_isTight_5 : decode cX5_isTight 5 = .ok (.invokestatic 54, 3) := by decide +kernel
theorem dX5_isTight_8 : decode cX5_isTight 8 = .ok (.iconst 1, 1) := by decide +kernel
theorem dX5_isTight_9 : decode cX5_isTight 9 = .ok (.if_icmp .ne 7, 3) := by decide +kernel
theorem dX5_isTight_12 : decode cX5_isTight 12 = .ok (.iconst 1, 1) := by decide +kernel
theorem dX5_isTight_13 : decode cX5_isTight 13 = .ok (.goto 4, 3) := by decide +kernel
theorem dX5_isTight_16 : decode cX5_isTight 16 = .ok (.iconst 0, 1) := by decide +kernel
theorem dX5_isTight_17 : decode cX5_isTight 17 = .ok (.ireturn, 1) := by decide +kernel
theorem hin_X5_isTight_X5 : ∀ w ∈ wsX50, w ∈ wsX5_isTight := by decide +kernel
theorem lk_X5_isTight_33 : Cond.fieldLink RX5 33 RX5 "tight" "[I" ∈ wsX5_isTight := by decide +kernel
theorem c_isTight (hG : GP G) (hP : PlanS S p) (hR : R32 P) {t : Int} : Ct G l yX5_isTight wsX5_isTight 1 0 0 [.ref p, .int (I32 t)] S n (putK mu p 14 P) la (Dt (some (.int (I32 (tiF P t)))) S n (putK mu p 14 P) la) := by
  have o5 := hP.1
  have h9 := R32_gK hR 8 49 t
  refine Ct.ofV (cc := cX5_isTight) (nL := 2) (ret := (some .boolean)) [some (.ref p), some (.int (I32 t))] hG (by decide) rfl (Nat.le_of_ble_eq_true rfl) rfl ?_
  rintro X rfl rfl C hcl hsl E
  refine V_aload_n C dX5_isTight_0 rfl ?_
  refine V_getR C 7 dX5_isTight_1 o5 rfl hin_X5_isTight_X5 (by decide) lk_X5_isTight_33 rfl rfl ?_
  refine V_iload_n C dX5_isTight_4 rfl ?_
  refine V_callSND (nA := 2) (host := "DockTree") C dX5_isTight_5 (c_aK C.gp hP 8 49 rfl (by decide)) gX5_isTight_X8_at_n54 (by decide +kernel) (by decide +kernel) (by decide +kernel) rfl (by decide +kernel) rfl (by decide) (by decide) (Nat.le_of_ble_eq_true rfl) ⟨by omega, by omega⟩ rfl ?_
  refine V_iconst C dX5_isTight_8 ?_
  refine V_icmp_ne C 16 dX5_isTight_9 (by decide) (by omega) (by omega) (fun q => ?_) (fun q => ?_)
  · refine V_iconst C dX5_isTight_16 ?_
    refine V_zreturn C E (Or.inl rfl) dX5_isTight_17 (by omega) (by omega) ?_
    rw [tiF, if_neg q]; exact Dt_rfl
  · refine V_iconst C dX5_isTight_12 ?_
    refine V_goto C 17 dX5_isTight_13 (by decide) ?_
    refine V_zreturn C E (Or.inr rfl) dX5_isTight_17 (by omega) (by omega) ?_
    rw [tiF, if_pos q]; exact Dt_rfl
set_option maxRecDepth 20000 in
theorem ggX5_treeGroup_X8_at : GoodIn wsX5_treeGroup wsX8_at := goodIn_r _ [5] (by decide +kernel) (by decide +kernel)
set_option maxRecDepth 20000 in
theorem gX5_treeGroup_X8_at_n54 : GoodIn wsX5_treeGroup (wsX8_at) := ggX5_treeGroup_X8_at
set_option maxRecDepth 20000 in
theorem ggX5_treeGroup_X8_isSplit : GoodIn wsX5_treeGroup wsX8_isSplit := goodIn_r _ [7] (by decide +kernel) (by decide +kernel)
set_option maxRecDepth 20000 in
theorem gX5_treeGroup_X8_isSplit_n75 : GoodIn wsX5_treeGroup (wsX8_isSplit) := ggX5_treeGroup_X8_isSplit
theorem dX5_treeGroup_0 : decode cX5_treeGroup 0 = .ok (.iconst 0, 1) := by decide +kernel
theorem dX5_treeGroup_1 : decode cX5_treeGroup 1 = .ok (.istore_n 2, 1) := by decide +kernel
theorem dX5_treeGroup_2 : decode cX5_treeGroup 2 = .ok (.iconst 0, 1) := by decide +kernel
theorem dX5_treeGroup_3 : decode cX5_treeGroup 3 = .ok (.istore_n 3, 1) := by decide +kernel
theorem dX5_treeGroup_4 : decode cX5_treeGroup 4 = .ok (.iload_n 3, 1) := by decide +kernel
theorem dX5_treeGroup_5 : decode cX5_treeGroup 5 = .ok (.aload_n 0, 1) := by decide +kernel
theorem dX5_treeGroup_6 : decode cX5_treeGroup 6 = .ok (.getfield 50, 3) := by decide +kernel
theorem dX5_treeGroup_9 : decode cX5_treeGroup 9 = .ok (.if_icmp .ge 38, 3) := by decide +kernel
theorem dX5_treeGroup_12 : decode cX5_treeGroup 12 = .ok (.aload_n 0, 1) := by decide +kernel
theorem dX5_treeGroup_13 : decode cX5_treeGroup 13 = .ok (.getfield 15, 3) := by decide +kernel
theorem dX5_treeGroup_16 : decode cX5_treeGroup 16 = .ok (.iload_n 3, 1) := by decide +kernel
theorem dX5_treeGroup_17 : decode cX5_treeGroup 17 = .ok (.invokestatic 54, 3) := by decide +kernel
theorem dX5_treeGroup_20 : decode cX5_treeGroup 20 = .ok (.istore 4, 2) := by decide +kernel
theorem dX5_treeGroup_22 : decode cX5_treeGroup 22 = .ok (.iload 4, 2) := by decide +kernel
theorem dX5_treeGroup_24 : decode cX5_treeGroup 24 = .ok (.invokestatic 75, 3) := by decide +kernel
theorem dX5_treeGroup_27 : decode cX5_treeGroup 27 = .ok (.ifCond .ne 14, 3) := by decide +kernel
theorem dX5_treeGroup_30 : decode cX5_treeGroup 30 = .ok (.iload_n 2, 1) := by decide +kernel
theorem dX5_treeGroup_31 : decode cX5_treeGroup 31 = .ok (.iload_n 1, 1) := by decide +kernel
theorem dX5_treeGroup_32 : decode cX5_treeGroup 32 = .ok (.if_icmp .ne 6, 3) := by decide +kernel
theorem dX5_treeGroup_35 : decode cX5_treeGroup 35 = .ok (.iload 4, 2) := by decide +kernel
theorem dX5_treeGroup_37 : decode cX5_treeGroup 37 = .ok (.ireturn, 1) := by decide +kernel
theorem dX5_treeGroup_38 : decode cX5_treeGroup 38 = .ok (.iinc 2 1, 3) := by decide +kernel
theorem dX5_treeGroup_41 : decode cX5_treeGroup 41 = .ok (.iinc 3 1, 3) := by decide +kernel
theorem dX5_treeGroup_44 : decode cX5_treeGroup 44 = .ok (.goto (-40), 3) := by decide +kernel
theorem dX5_treeGroup_47 : decode cX5_treeGroup 47 = .ok (.iconst (-1), 1) := by decide +kernel
theorem dX5_treeGroup_48 : decode cX5_treeGroup 48 = .ok (.ireturn, 1) := by decide +kernel
theorem hin_X5_treeGroup_X5 : ∀ w ∈ wsX50, w ∈ wsX5_treeGroup := by decide +kernel
theorem lk_X5_treeGroup_50 : Cond.fieldLink RX5 50 RX5 "nodes" "I" ∈ wsX5_treeGroup := by decide +kernel
theorem lk_X5_treeGroup_15 : Cond.fieldLink RX5 15 RX5 "order" "[I" ∈ wsX5_treeGroup := by decide +kernel
theorem c_treeGroup (hG : GP G) (hP : PlanS S p) (hR : R32 P) (hn : 0 ≤ P 0 9) {i : Int} (hi : -2147483648 ≤ i ∧ i ≤ 2147483647) : Ct G l yX5_treeGroup wsX5_treeGroup 1 0 0 [.ref p, .int (I32 i)] S n (putK mu p 14 P) la (Dt (some (.int (I32 (tnF P i)))) S n (putK mu p 14 P) la) := by
  have o5 := hP.1
  have h9 := hR 0 9
  refine Ct.ofV (cc := cX5_treeGroup) (nL := 5) (ret := (some .int)) [some (.ref p), some (.int (I32 i)), none, none, none] hG (by decide) rfl (Nat.le_of_ble_eq_true rfl) rfl ?_
  rintro X rfl rfl C hcl hsl E
  have loop : ∀ (d j : Nat) (a : Int) (w : Option Value), (j : Int) + d = P 0 9 → 0 ≤ a ∧ a ≤ j → tnF P i = tnG P i d j a → V X 4 [some (.ref p), some (.int (I32 i)), some (.int (I32 a)), some (.int (I32 (j : Int))), w] [] S n (putK mu p 14 P) la 0 0 := by
    intro d
    induction d with
    | zero =>
      intro j a w hj ha hv
      refine V_iload_n C dX5_treeGroup_4 rfl ?_
      refine V_aload_n C dX5_treeGroup_5 rfl ?_
      refine V_getJ C 9 9 rfl dX5_treeGroup_6 o5 rfl hin_X5_treeGroup_X5 (by decide) lk_X5_treeGroup_50 rfl rfl (putK_0 (by decide) _) ?_
      refine V_icmp_ge C 47 dX5_treeGroup_9 (by decide) (by omega) (by omega) (fun z => ?_) (fun z => ?_)
      · refine V_iconst C dX5_treeGroup_47 ?_
        refine V_ireturn C E dX5_treeGroup_48 (by omega) (by omega) ?_
        rw [hv]; exact Dt_rfl
      · exact absurd z (by omega)
    | succ d ih =>
      intro j a w hj ha hv
      have bn := R32_gK hR 2 31 j
      have bs := spF_b (gK P 2 31 j)
      have hn1 : ((j + 1 : Nat) : Int) = (j : Int) + 1 := by omega
      have h8 := fun a => ih (j + 1) a (some (.int (I32 (gK P 2 31 j)))) (by omega)
      rw [hn1] at h8
      rw [tnG] at hv
      refine V_iload_n C dX5_treeGroup_4 rfl ?_
      refine V_aload_n C dX5_treeGroup_5 rfl ?_
      refine V_getJ C 9 9 rfl dX5_treeGroup_6 o5 rfl hin_X5_treeGroup_X5 (by decide) lk_X5_treeGroup_50 rfl rfl (putK_0 (by decide) _) ?_
      refine V_icmp_ge C 47 dX5_treeGroup_9 (by decide) (by omega) (by omega) (fun z => ?_) (fun z => ?_)
      · exact absurd z (by omega)
      · refine V_aload_n C dX5_treeGroup_12 rfl ?_
        refine V_getR C 1 dX5_treeGroup_13 o5 rfl hin_X5_treeGroup_X5 (by decide) lk_X5_treeGroup_15 rfl rfl ?_
        refine V_iload_n C dX5_treeGroup_16 rfl ?_
        refine V_callSND (nA := 2) (host := "DockTree") C dX5_treeGroup_17 (c_aK C.gp hP 2 31 rfl (by decide)) gX5_treeGroup_X8_at_n54 (by decide +kernel) (by decide +kernel) (by decide +kernel) rfl (by decide +kernel) rfl (by decide) (by decide) (Nat.le_of_ble_eq_true rfl) ⟨by omega, by omega⟩ rfl ?_
        refine V_istore C dX5_treeGroup_20 rfl (by decide) ?_
        refine V_iload C dX5_treeGroup_22 rfl ?_
        refine V_callSND (nA := 1) (host := "DockTree") C dX5_treeGroup_24 (c_isSplit C.gp (by omega)) gX5_treeGroup_X8_isSplit_n75 (by decide +kernel) (by decide +kernel) (by decide +kernel) rfl (by decide +kernel) rfl (by decide) (by decide) (Nat.le_of_ble_eq_true rfl) ⟨by omega, by omega⟩ rfl ?_
        refine V_if_ne C 41 dX5_treeGroup_27 (by decide) (by omega) (fun z1 => ?_) (fun z1 => ?_)
        · refine V_iinc C dX5_treeGroup_41 rfl rfl (by decide) ?_
          refine V_goto C 4 dX5_treeGroup_44 (by decide) ?_
          exact h8 a (by omega) (by rw [hv, if_pos (spF_1.mp z1)])
        · rw [if_neg (fun y => spF_1.mpr y z1)] at hv
          refine V_iload_n C dX5_treeGroup_30 rfl ?_
          refine V_iload_n C dX5_treeGroup_31 rfl ?_
          refine V_icmp_ne C 38 dX5_treeGroup_32 (by decide) (by omega) (by omega) (fun z2 => ?_) (fun z2 => ?_)
          · refine V_iinc C dX5_treeGroup_38 rfl rfl (by decide) ?_
            refine V_iinc C dX5_treeGroup_41 rfl rfl (by decide) ?_
            refine V_goto C 4 dX5_treeGroup_44 (by decide) ?_
            exact h8 (a + 1) (by omega) (by rw [hv, if_neg z2])
          · refine V_iload C dX5_treeGroup_35 rfl ?_
            refine V_ireturn C E dX5_treeGroup_37 (by omega) (by omega) ?_
            rw [hv, if_pos z2]; exact Dt_rfl
  refine V_iconst C dX5_treeGroup_0 ?_
  refine V_istore_n C dX5_treeGroup_1 rfl (by decide) ?_
  refine V_iconst C dX5_treeGroup_2 ?_
  refine V_istore_n C dX5_treeGroup_3 rfl (by decide) ?_
  exact loop (P 0 9).toNat 0 0 none (by omega) (by omega) rfl
end PC
